/-- the tries up to d, each at most 40 -/
def chI (f : Nat → Int32) (n d : Nat) : Prop := ∀ i, 1 ≤ i → i ≤ d → i ≤ n → ∃ t, t ≤ 40 ∧ f i = nI t
def chS (f : Nat → Int32) (n : Nat) : Nat → Nat
  | 0 => 0
  | m + 1 => chS f n m + (41 - (f (m + 1)).toInt.toNat) * 64 ^ (n - (m + 1))
def chM (f : Nat → Int32) (n d : Nat) : Nat := 2 * chS f n (min d n) + (if d = n + 1 then 1 else 0)
theorem chS_eq {f e : Nat → Int32} {n : Nat} : ∀ {m : Nat}, (∀ i, i ≤ m → e i = f i) → chS e n m = chS f n m
  | 0, _ => rfl
  | m + 1, h => by
    unfold chS
    rw [chS_eq (fun i hi => h i (by omega)), h (m + 1) (by omega)]
theorem ch_t {f e : Nat → Int32} {n d : Nat} (_hd : 0 < d) (he : ∀ i, e i = f i) (h : chI f n d) : chI e n (d - 1) := by
  intro i h1 h2 h3
  rw [he i]
  exact h i h1 (by omega) h3
theorem ch_a {f e : Nat → Int32} {n d : Nat} (hd : 0 < d) (he : ∀ i, i ≠ d → e i = f i) (h : chI f n d) : chI e n (d - 1) := by
  intro i h1 h2 h3
  rw [he i (by omega)]
  exact h i h1 (by omega) h3
theorem ch_b {f e : Nat → Int32} {n d t : Nat} (he : ∀ i, i ≠ d → i ≠ d + 1 → e i = f i) (h : chI f n d) (h1 : e d = nI (t + 1)) (ht : t < 40) (h2 : e (d + 1) = nI 0) : chI e n (d + 1) := by
  intro i hi1 hi2 hi3
  by_cases a : i = d
  · subst a; exact ⟨t + 1, by omega, h1⟩
  · by_cases b : i = d + 1
    · subst b; exact ⟨0, by omega, h2⟩
    · rw [he i a b]
      exact h i hi1 (by omega) hi3
theorem cm_t {f e : Nat → Int32} {n d : Nat} (hd : d = n + 1) (he : ∀ i, e i = f i) : chM e n (d - 1) < chM f n d := by
  subst hd
  unfold chM
  have e1 : min (n + 1 - 1) n = n := by omega
  have e2 : min (n + 1) n = n := by omega
  rw [e1, e2, chS_eq (fun i _ => he i), if_pos rfl, if_neg (by omega)]
  omega
theorem nI_nat {n : Nat} (h : n < 2 ^ 31) : (nI n).toInt.toNat = n := by
  rw [nI_toInt h]; omega
theorem cm_a {f e : Nat → Int32} {n d t : Nat} (hd : 0 < d) (hn : d ≤ n) (ht : f d = nI t) (hl : t ≤ 40) (he : ∀ i, i ≠ d → e i = f i) : chM e n (d - 1) < chM f n d := by
  obtain ⟨m, rfl⟩ : ∃ m, d = m + 1 := ⟨d - 1, by omega⟩
  unfold chM
  have e1 : min (m + 1 - 1) n = m := by omega
  have e2 : min (m + 1) n = m + 1 := by omega
  have e3 : chS f n (m + 1) = chS f n m + (41 - (f (m + 1)).toInt.toNat) * 64 ^ (n - (m + 1)) := rfl
  rw [e1, e2, e3, chS_eq (m := m) (fun i hi => he i (by omega)), ht, nI_nat (by omega), if_neg (by omega), if_neg (by omega)]
  have h1 : 1 ≤ (41 - t) * 64 ^ (n - (m + 1)) := Nat.mul_pos (by omega) (Nat.pow_pos (by decide))
  omega
theorem cm_b {f e : Nat → Int32} {n d t : Nat} (hd : 0 < d) (hn : d ≤ n) (ht : f d = nI t) (hl : t < 40) (h1 : e d = nI (t + 1)) (h2 : e (d + 1) = nI 0) (he : ∀ i, i ≠ d → i ≠ d + 1 → e i = f i) : chM e n (d + 1) < chM f n d := by
  obtain ⟨m, rfl⟩ : ∃ m, d = m + 1 := ⟨d - 1, by omega⟩
  unfold chM
  have e2 : min (m + 1) n = m + 1 := by omega
  have e3 : chS f n (m + 1) = chS f n m + (41 - (f (m + 1)).toInt.toNat) * 64 ^ (n - (m + 1)) := rfl
  have e4 : chS e n (m + 1) = chS e n m + (41 - (e (m + 1)).toInt.toNat) * 64 ^ (n - (m + 1)) := rfl
  have e6 : chS e n m = chS f n m := chS_eq (fun i hi => he i (by omega) (by omega))
  rw [ht, nI_nat (by omega)] at e3
  rw [h1, nI_nat (by omega), e6] at e4
  have hp : 41 - t = (41 - (t + 1)) + 1 := by omega
  rw [hp, Nat.add_mul, Nat.one_mul] at e3
  by_cases hc : m + 1 = n
  · have e1 : min (m + 1 + 1) n = m + 1 := by omega
    rw [e1, e2, e3, e4, if_pos (by omega), if_neg (by omega)]
    have : 1 ≤ 64 ^ (n - (m + 1)) := Nat.pow_pos (by decide)
    omega
  · have e1 : min (m + 1 + 1) n = m + 1 + 1 := by omega
    have e5 : chS e n (m + 1 + 1) = chS e n (m + 1) + (41 - (e (m + 1 + 1)).toInt.toNat) * 64 ^ (n - (m + 1 + 1)) := rfl
    rw [h2, nI_nat (by omega)] at e5
    rw [e1, e2, e5, e3, e4, if_neg (by omega), if_neg (by omega)]
    have hq : 64 ^ (n - (m + 1)) = 64 ^ (n - (m + 1 + 1)) * 64 := by
      rw [← Nat.pow_succ]; congr 1; omega
    have : 1 ≤ 64 ^ (n - (m + 1 + 1)) := Nat.pow_pos (by decide)
    rw [hq]
    omega
-- X8_layShortest
set_option maxRecDepth 10000 in
theorem k_171 {d : Nat} {M : Mt} {L : Lt} {Q : Option Value → Mt → Lt → Prop} {g : Nat} {e : Int32} {v : Int32} (hI : Inv M) (hg : g < 5) (hd : 3 ≤ d) (hq : ∀ (r : Int32) (N : Mt), St (fun i k => (i = 78 ∧ 22 ≤ k) ∨ i = 83 ∨ i = 84 ∨ (i = 76 ∧ (k = 7 ∨ k = 11))) M N → True → Q (some (.int r)) N L) : Wp d 171 0 [.ref 76, .int (nI g), .int e, .int v, .null] [] M L Q := by
  refine (show ∀ N : Mt, N = M → St (fun i k => (i = 78 ∧ 22 ≤ k) ∨ i = 83 ∨ i = 84 ∨ (i = 76 ∧ (k = 7 ∨ k = 11))) M N → Wp d 171 0 [.ref 76, .int (nI g), .int e, .int v, .null] [] N L Q from ?_) M rfl (St.rf hI)
  intro N hNM hS
  refine w_load (.aload_n 0) 1 (by decide +kernel) rfl rfl ?_
  refine w_pushN 0 2 (by decide +kernel) ?_
  refine w_load (.iload_n 1) 3 (by decide +kernel) rfl rfl ?_
  refine w_load (.iload_n 2) 4 (by decide +kernel) rfl rfl ?_
  refine w_load (.iload_n 3) 5 (by decide +kernel) rfl rfl ?_
  refine w_callV4 169 8 6 8 (by decide +kernel) sh_76 (Nat.le_of_ble_eq_true rfl) rfl rfl rfl rfl (by decide) (by omega) ?_
  refine k_169 hS.1 (by omega) (by omega) (by omega) (fun r1 hr1 => ?_)
  dsimp only [Option.toList, List.cons_append, List.nil_append]
  refine w_ieq 13 11 (by decide +kernel) (fun h2 => ?_) (fun h2 => ?_)
  · skip
    refine w_pushN 0 14 (by decide +kernel) ?_
    refine w_store (ls' := [.ref 76, .int (nI g), .int e, .int v, .int (nI 0)]) (.istore 4) 16 (by decide +kernel) rfl rfl ?_
    have LP_16 : ∀ (kk : Nat) (N_16 : Mt) (g4 : Nat), St (fun i k => (i = 78 ∧ 22 ≤ k) ∨ i = 83 ∨ i = 84 ∨ (i = 76 ∧ (k = 7 ∨ k = 11))) M N_16 → g4 ≤ 64 → 64 - g4 < kk → Wp d 171 16 [.ref 76, .int (nI g), .int e, .int v, .int (nI g4)] [] N_16 L Q := by
      intro kk
      induction kk with
      | zero => intro N_16 g4 hS hi0_16 hm_16; exact absurd hm_16 (Nat.not_lt_zero _)
      | succ kk ih_16 =>
        intro N_16 g4 hS hi0_16 hm_16
        refine w_load (.iload 4) 18 (by decide +kernel) rfl rfl ?_
        refine w_pushN 64 20 (by decide +kernel) ?_
        refine w_cgeN 67 23 (by decide +kernel) (by omega) (by omega) (fun h3 => ?_) (fun h3 => ?_)
        · skip
          refine w_pushN 0 68 (by decide +kernel) ?_
          refine w_store (ls' := [.ref 76, .int (nI g), .int e, .int v, .int (nI 0)]) (.istore 4) 70 (by decide +kernel) rfl rfl ?_
          have LP_70 : ∀ (kk : Nat) (N_70 : Mt) (g4 : Nat), St (fun i k => (i = 78 ∧ 22 ≤ k) ∨ i = 83 ∨ i = 84 ∨ (i = 76 ∧ (k = 7 ∨ k = 11))) M N_70 → g4 ≤ 4096 → 4096 - g4 < kk → Wp d 171 70 [.ref 76, .int (nI g), .int e, .int v, .int (nI g4)] [] N_70 L Q := by
            intro kk
            induction kk with
            | zero => intro N_70 g4 hS hi0_70 hm_70; exact absurd hm_70 (Nat.not_lt_zero _)
            | succ kk ih_70 =>
              intro N_70 g4 hS hi0_70 hm_70
              refine w_load (.iload 4) 72 (by decide +kernel) rfl rfl ?_
              refine w_pushN 4096 75 (by decide +kernel) ?_
              refine w_cgeN 136 78 (by decide +kernel) (by omega) (by omega) (fun h4 => ?_) (fun h4 => ?_)
              · skip
                refine w_push (-9) 138 (by decide +kernel) ?_
                exact w_ret (by decide +kernel) (hq _ N_70 hS trivial)
              · skip
                refine w_load (.aload_n 0) 79 (by decide +kernel) rfl rfl ?_
                refine w_pushN 0 80 (by decide +kernel) ?_
                refine w_pushN 1 81 (by decide +kernel) ?_
                refine w_callV2 160 8 4 84 (by decide +kernel) sh_76 (Nat.le_of_ble_eq_true rfl) rfl rfl (by decide) (by omega) ?_
                refine k_160 hS.1 (by omega) (by omega) (by omega) (fun Nr5 hTr5 hr5 => ?_)
                have hS := hS.tr hTr5 (by intro i k; first | exact rfl | exact fun h => h.elim | omega | (dsimp only; omega) | (simp only [Hs, Tl, Sc, isHs, isScr, isTs] at *; omega))
                dsimp only [Option.toList, List.nil_append]
                refine w_load (.aload_n 0) 85 (by decide +kernel) rfl rfl ?_
                refine w_pushN 1 86 (by decide +kernel) ?_
                refine w_callV1 158 8 3 89 (by decide +kernel) sh_76 (Nat.le_of_ble_eq_true rfl) rfl (by decide) (by omega) ?_
                refine k_158 hS.1 (by omega) (by omega) (fun Nr6 hTr6 hr6 => ?_)
                have hS := hS.tr hTr6 (by intro i k; first | exact rfl | exact fun h => h.elim | omega | (dsimp only; omega) | (simp only [Hs, Tl, Sc, isHs, isScr, isTs] at *; omega))
                dsimp only [Option.toList, List.nil_append]
                refine w_load (.aload_n 0) 90 (by decide +kernel) rfl rfl ?_
                refine w_pushN 1 91 (by decide +kernel) ?_
                refine w_load (.iload 4) 93 (by decide +kernel) rfl rfl ?_
                refine w_pushN 64 95 (by decide +kernel) ?_
                refine w_divN (g4 / 64) 96 (by decide +kernel) (by decide) (by decide) (by omega) rfl ?_
                refine w_callV2 157 8 7 99 (by decide +kernel) sh_76 (Nat.le_of_ble_eq_true rfl) rfl rfl (by decide) (by omega) ?_
                refine k_157 hS.1 (by omega) (by omega) (fun r7 Nr7 hTr7 hr7 => ?_)
                have hS := hS.tr hTr7 (by intro i k; first | exact rfl | exact fun h => h.elim | omega | (dsimp only; omega) | (simp only [Hs, Tl, Sc, isHs, isScr, isTs] at *; omega))
                dsimp only [Option.toList, List.cons_append, List.nil_append]
                refine w_pure .pop 100 (by decide +kernel) rfl rfl ?_
                refine w_load (.aload_n 0) 101 (by decide +kernel) rfl rfl ?_
                refine w_pushN 1 102 (by decide +kernel) ?_
                refine w_load (.iload 4) 104 (by decide +kernel) rfl rfl ?_
                refine w_pushN 64 106 (by decide +kernel) ?_
                refine w_remN (g4 % 64) 107 (by decide +kernel) (by decide) (by decide) (by omega) rfl ?_
                refine w_callV2 157 8 7 110 (by decide +kernel) sh_76 (Nat.le_of_ble_eq_true rfl) rfl rfl (by decide) (by omega) ?_
                refine k_157 hS.1 (by omega) (by omega) (fun r8 Nr8 hTr8 hr8 => ?_)
                have hS := hS.tr hTr8 (by intro i k; first | exact rfl | exact fun h => h.elim | omega | (dsimp only; omega) | (simp only [Hs, Tl, Sc, isHs, isScr, isTs] at *; omega))
                dsimp only [Option.toList, List.cons_append, List.nil_append]
                refine w_pure .pop 111 (by decide +kernel) rfl rfl ?_
                refine w_load (.aload_n 0) 112 (by decide +kernel) rfl rfl ?_
                refine w_pushN 1 113 (by decide +kernel) ?_
                refine w_load (.iload_n 1) 114 (by decide +kernel) rfl rfl ?_
                refine w_load (.iload_n 2) 115 (by decide +kernel) rfl rfl ?_
                refine w_load (.iload_n 3) 116 (by decide +kernel) rfl rfl ?_
                refine w_callV4 169 8 6 119 (by decide +kernel) sh_76 (Nat.le_of_ble_eq_true rfl) rfl rfl rfl rfl (by decide) (by omega) ?_
                refine k_169 hS.1 (by omega) (by omega) (by omega) (fun r9 hr9 => ?_)
                dsimp only [Option.toList, List.cons_append, List.nil_append]
                refine w_ieq 130 122 (by decide +kernel) (fun h10 => ?_) (fun h10 => ?_)
                · skip
                  refine w_iincN (z := 4) (g4 + 1) 133 (by decide +kernel) rfl (Nat.le_of_ble_eq_true rfl) rfl rfl ?_
                  show Wp _ _ _ [.ref 76, .int (nI g), .int e, .int v, .int (nI (g4 + 1))] _ _ _ _
                  refine w_goto 70 (by decide +kernel) ?_
                  exact ih_70 Nr8 (g4 + 1) hS (by omega) (by omega)
                · skip
                  refine w_load (.aload_n 0) 123 (by decide +kernel) rfl rfl ?_
                  refine w_load (.iload 4) 125 (by decide +kernel) rfl rfl ?_
                  refine w_putE (k := 11) 128 (by decide +kernel) sh_76 rfl hS (rg_76 (by decide)) (by first | exact rfl | omega | (dsimp only; omega) | (simp only [Hs, Tl, Sc, isHs, isScr, isTs] at *; omega)) (fun Nq11 hS hq11 oq11 mq11 => ?_)
                  refine w_pushN 2 129 (by decide +kernel) ?_
                  exact w_ret (by decide +kernel) (hq _ Nq11 hS trivial)
          exact LP_70 _ N_16 0 hS (by omega) (Nat.lt_succ_self _)
        · skip
          refine w_load (.aload_n 0) 24 (by decide +kernel) rfl rfl ?_
          refine w_pushN 0 25 (by decide +kernel) ?_
          refine w_pushN 1 26 (by decide +kernel) ?_
          refine w_callV2 160 8 4 29 (by decide +kernel) sh_76 (Nat.le_of_ble_eq_true rfl) rfl rfl (by decide) (by omega) ?_
          refine k_160 hS.1 (by omega) (by omega) (by omega) (fun Nr12 hTr12 hr12 => ?_)
          have hS := hS.tr hTr12 (by intro i k; first | exact rfl | exact fun h => h.elim | omega | (dsimp only; omega) | (simp only [Hs, Tl, Sc, isHs, isScr, isTs] at *; omega))
          dsimp only [Option.toList, List.nil_append]
          refine w_load (.aload_n 0) 30 (by decide +kernel) rfl rfl ?_
          refine w_pushN 1 31 (by decide +kernel) ?_
          refine w_callV1 158 8 3 34 (by decide +kernel) sh_76 (Nat.le_of_ble_eq_true rfl) rfl (by decide) (by omega) ?_
          refine k_158 hS.1 (by omega) (by omega) (fun Nr13 hTr13 hr13 => ?_)
          have hS := hS.tr hTr13 (by intro i k; first | exact rfl | exact fun h => h.elim | omega | (dsimp only; omega) | (simp only [Hs, Tl, Sc, isHs, isScr, isTs] at *; omega))
          dsimp only [Option.toList, List.nil_append]
          refine w_load (.aload_n 0) 35 (by decide +kernel) rfl rfl ?_
          refine w_pushN 1 36 (by decide +kernel) ?_
          refine w_load (.iload 4) 38 (by decide +kernel) rfl rfl ?_
          refine w_callV2 157 8 7 41 (by decide +kernel) sh_76 (Nat.le_of_ble_eq_true rfl) rfl rfl (by decide) (by omega) ?_
          refine k_157 hS.1 (by omega) (by omega) (fun r14 Nr14 hTr14 hr14 => ?_)
          have hS := hS.tr hTr14 (by intro i k; first | exact rfl | exact fun h => h.elim | omega | (dsimp only; omega) | (simp only [Hs, Tl, Sc, isHs, isScr, isTs] at *; omega))
          dsimp only [Option.toList, List.cons_append, List.nil_append]
          refine w_pure .pop 42 (by decide +kernel) rfl rfl ?_
          refine w_load (.aload_n 0) 43 (by decide +kernel) rfl rfl ?_
          refine w_pushN 1 44 (by decide +kernel) ?_
          refine w_load (.iload_n 1) 45 (by decide +kernel) rfl rfl ?_
          refine w_load (.iload_n 2) 46 (by decide +kernel) rfl rfl ?_
          refine w_load (.iload_n 3) 47 (by decide +kernel) rfl rfl ?_
          refine w_callV4 169 8 6 50 (by decide +kernel) sh_76 (Nat.le_of_ble_eq_true rfl) rfl rfl rfl rfl (by decide) (by omega) ?_
          refine k_169 hS.1 (by omega) (by omega) (by omega) (fun r15 hr15 => ?_)
          dsimp only [Option.toList, List.cons_append, List.nil_append]
          refine w_ieq 61 53 (by decide +kernel) (fun h16 => ?_) (fun h16 => ?_)
          · skip
            refine w_iincN (z := 4) (g4 + 1) 64 (by decide +kernel) rfl (Nat.le_of_ble_eq_true rfl) rfl rfl ?_
            show Wp _ _ _ [.ref 76, .int (nI g), .int e, .int v, .int (nI (g4 + 1))] _ _ _ _
            refine w_goto 16 (by decide +kernel) ?_
            exact ih_16 Nr14 (g4 + 1) hS (by omega) (by omega)
          · skip
            refine w_load (.aload_n 0) 54 (by decide +kernel) rfl rfl ?_
            refine w_load (.iload 4) 56 (by decide +kernel) rfl rfl ?_
            refine w_putE (k := 11) 59 (by decide +kernel) sh_76 rfl hS (rg_76 (by decide)) (by first | exact rfl | omega | (dsimp only; omega) | (simp only [Hs, Tl, Sc, isHs, isScr, isTs] at *; omega)) (fun Nq17 hS hq17 oq17 mq17 => ?_)
            refine w_pushN 1 60 (by decide +kernel) ?_
            exact w_ret (by decide +kernel) (hq _ Nq17 hS trivial)
    exact LP_16 _ N 0 hS (by omega) (Nat.lt_succ_self _)
  · skip
    refine w_pushN 0 12 (by decide +kernel) ?_
    exact w_ret (by decide +kernel) (hq _ N hS trivial)
-- X8_shortest
set_option maxRecDepth 10000 in
theorem k_172 {d : Nat} {M : Mt} {L : Lt} {Q : Option Value → Mt → Lt → Prop} {g : Int32} {e : Int32} {v : Int32} (hI : Inv M)  (hd : 4 ≤ d) (hq : ∀ (r : Int32) (N : Mt), St (fun i k => (i = 78 ∧ 22 ≤ k) ∨ i = 83 ∨ i = 84 ∨ (i = 76 ∧ (k = 7 ∨ k = 11))) M N → True → Q (some (.int r)) N L) : Wp d 172 0 [.ref 76, .int g, .int e, .int v, .null] [] M L Q := by
  refine (show ∀ N : Mt, N = M → St (fun i k => (i = 78 ∧ 22 ≤ k) ∨ i = 83 ∨ i = 84 ∨ (i = 76 ∧ (k = 7 ∨ k = 11))) M N → Wp d 172 0 [.ref 76, .int g, .int e, .int v, .null] [] N L Q from ?_) M rfl (St.rf hI)
  intro N hNM hS
  refine w_load (.aload_n 0) 1 (by decide +kernel) rfl rfl ?_
  refine w_load (.iload_n 1) 2 (by decide +kernel) rfl rfl ?_
  refine w_load (.iload_n 2) 3 (by decide +kernel) rfl rfl ?_
  refine w_load (.iload_n 3) 4 (by decide +kernel) rfl rfl ?_
  refine w_callV3 170 8 5 7 (by decide +kernel) sh_76 (Nat.le_of_ble_eq_true rfl) rfl rfl rfl (by decide) (by omega) ?_
  refine k_170 hS.1  (by omega) (fun r1 hr1 => ?_)
  dsimp only [Option.toList, List.cons_append, List.nil_append]
  rcases hr1 with ⟨rfl, kg, hkg, rfl⟩ | hno
  · skip
    refine w_store (ls' := [.ref 76, .int (nI kg), .int e, .int v, .int (0)]) (.istore 4) 9 (by decide +kernel) rfl rfl ?_
    refine w_load (.iload 4) 11 (by decide +kernel) rfl rfl ?_
    refine w_ieq 19 14 (by decide +kernel) (fun _ => ?_) (fun hz => absurd hz (by decide))
    refine w_load (.aload_n 0) 20 (by decide +kernel) rfl rfl ?_
    refine w_load (.iload_n 1) 21 (by decide +kernel) rfl rfl ?_
    refine w_load (.iload_n 2) 22 (by decide +kernel) rfl rfl ?_
    refine w_load (.iload_n 3) 23 (by decide +kernel) rfl rfl ?_
    refine w_callV3 171 8 5 26 (by decide +kernel) sh_76 (Nat.le_of_ble_eq_true rfl) rfl rfl rfl (by decide) (by omega) ?_
    refine k_171 hS.1 (by omega) (by omega) (fun r3 Nr3 hTr3 hr3 => ?_)
    have hS := hS.tr hTr3 (by intro i k; first | exact rfl | exact fun h => h.elim | omega | (dsimp only; omega) | (simp only [Hs, Tl, Sc, isHs, isScr, isTs] at *; omega))
    dsimp only [Option.toList, List.cons_append, List.nil_append]
    exact w_ret (by decide +kernel) (hq _ Nr3 hS trivial)
  · skip
    refine w_store (ls' := [.ref 76, .int g, .int e, .int v, .int r1]) (.istore 4) 9 (by decide +kernel) rfl rfl ?_
    refine w_load (.iload 4) 11 (by decide +kernel) rfl rfl ?_
    refine w_ieq 19 14 (by decide +kernel) (fun hz => absurd hz hno) (fun _ => ?_)
    refine w_load (.iload 4) 16 (by decide +kernel) rfl rfl ?_
    refine w_goto 26 (by decide +kernel) ?_
    exact w_ret (by decide +kernel) (hq _ N hS trivial)
-- X8_toldDeed
set_option maxRecDepth 10000 in
theorem k_173 {d : Nat} {M : Mt} {L : Lt} {Q : Option Value → Mt → Lt → Prop} {a : Int32} (hI : Inv M)  (hd : 0 ≤ d) (hq : ∀ (r : Int32), True → Q (some (.int r)) M L) : Wp d 173 0 [.int a] [] M L Q := by
  refine w_pushN 100 2 (by decide +kernel) ?_
  refine w_load (.iload_n 0) 3 (by decide +kernel) rfl rfl ?_
  refine w_pushN 16 5 (by decide +kernel) ?_
  refine w_div 6 (by decide +kernel) (by decide) ?_
  refine w_pure .imul 7 (by decide +kernel) rfl rfl ?_
  refine w_pushN 10 9 (by decide +kernel) ?_
  refine w_load (.iload_n 0) 10 (by decide +kernel) rfl rfl ?_
  refine w_pushN 4 11 (by decide +kernel) ?_
  refine w_div 12 (by decide +kernel) (by decide) ?_
  refine w_pushN 4 13 (by decide +kernel) ?_
  refine w_rem 14 (by decide +kernel) (by decide) ?_
  refine w_pure .imul 15 (by decide +kernel) rfl rfl ?_
  refine w_pure .iadd 16 (by decide +kernel) rfl rfl ?_
  refine w_load (.iload_n 0) 17 (by decide +kernel) rfl rfl ?_
  refine w_pushN 4 18 (by decide +kernel) ?_
  refine w_rem 19 (by decide +kernel) (by decide) ?_
  refine w_pure .iadd 20 (by decide +kernel) rfl rfl ?_
  exact w_ret (by decide +kernel) (hq _ trivial)
-- X8_shortestAt
set_option maxRecDepth 10000 in
theorem k_174 {d : Nat} {M : Mt} {L : Lt} {Q : Option Value → Mt → Lt → Prop} {g : Int32} {e : Int32} {v : Int32} {i : Int32} (hI : Inv M)  (hd : 4 ≤ d) (hq : ∀ (r : Int32) (N : Mt), St (fun i k => (i = 78 ∧ 22 ≤ k) ∨ i = 83 ∨ i = 84 ∨ (i = 76 ∧ (k = 7 ∨ k = 11))) M N → True → Q (some (.int r)) N L) : Wp d 174 0 [.ref 76, .int g, .int e, .int v, .int i, .null, .null] [] M L Q := by
  refine (show ∀ N : Mt, N = M → St (fun i k => (i = 78 ∧ 22 ≤ k) ∨ i = 83 ∨ i = 84 ∨ (i = 76 ∧ (k = 7 ∨ k = 11))) M N → Wp d 174 0 [.ref 76, .int g, .int e, .int v, .int i, .null, .null] [] N L Q from ?_) M rfl (St.rf hI)
  intro N hNM hS
  refine w_load (.aload_n 0) 1 (by decide +kernel) rfl rfl ?_
  refine w_load (.iload_n 1) 2 (by decide +kernel) rfl rfl ?_
  refine w_load (.iload_n 2) 3 (by decide +kernel) rfl rfl ?_
  refine w_load (.iload_n 3) 4 (by decide +kernel) rfl rfl ?_
  refine w_callV3 170 8 5 7 (by decide +kernel) sh_76 (Nat.le_of_ble_eq_true rfl) rfl rfl rfl (by decide) (by omega) ?_
  refine k_170 hS.1  (by omega) (fun r1 hr1 => ?_)
  dsimp only [Option.toList, List.cons_append, List.nil_append]
  rcases hr1 with ⟨rfl, kg, hkg, rfl⟩ | hno
  · skip
    refine w_store (ls' := [.ref 76, .int (nI kg), .int e, .int v, .int i, .int (0), .null]) (.istore 5) 9 (by decide +kernel) rfl rfl ?_
    refine w_load (.iload 5) 11 (by decide +kernel) rfl rfl ?_
    refine w_ieq 17 14 (by decide +kernel) (fun _ => ?_) (fun hz => absurd hz (by decide))
    refine w_load (.aload_n 0) 18 (by decide +kernel) rfl rfl ?_
    refine w_load (.iload_n 1) 19 (by decide +kernel) rfl rfl ?_
    refine w_load (.iload_n 2) 20 (by decide +kernel) rfl rfl ?_
    refine w_load (.iload_n 3) 21 (by decide +kernel) rfl rfl ?_
    refine w_callV3 171 8 5 24 (by decide +kernel) sh_76 (Nat.le_of_ble_eq_true rfl) rfl rfl rfl (by decide) (by omega) ?_
    refine k_171 hS.1 (by omega) (by omega) (fun r3 Nr3 hTr3 hr3 => ?_)
    have hS := hS.tr hTr3 (by intro i k; first | exact rfl | exact fun h => h.elim | omega | (dsimp only; omega) | (simp only [Hs, Tl, Sc, isHs, isScr, isTs] at *; omega))
    dsimp only [Option.toList, List.cons_append, List.nil_append]
    refine w_store (ls' := [.ref 76, .int (nI kg), .int e, .int v, .int i, .int (0), .int r3]) (.istore 6) 26 (by decide +kernel) rfl rfl ?_
    refine w_load (.iload 4) 28 (by decide +kernel) rfl rfl ?_
    refine w_pure .i2l 29 (by decide +kernel) rfl rfl ?_
    refine w_pushL (0) 30 (by decide +kernel) ?_
    refine w_load (.iload 6) 32 (by decide +kernel) rfl rfl ?_
    refine w_pushN 1 33 (by decide +kernel) ?_
    refine w_pure .isub 34 (by decide +kernel) rfl rfl ?_
    refine w_pure .i2l 35 (by decide +kernel) rfl rfl ?_
    refine w_callSL 134 6 38 (by decide +kernel) (Nat.le_of_ble_eq_true rfl) rfl (by omega) ?_
    refine k_134 hS.1  (by omega) (fun r4 hr4 => ?_)
    dsimp only [Option.toList, List.cons_append, List.nil_append]
    rcases hr4 with ⟨rfl, hlok6, hhik6⟩ | ⟨rfl, hnok6⟩
    · skip
      refine w_ine 44 41 (by decide +kernel) (fun _ => ?_) (fun hz => absurd hz (by decide))
      refine w_load (.iload 6) 46 (by decide +kernel) rfl rfl ?_
      refine w_pushN 2 47 (by decide +kernel) ?_
      refine w_cne 65 50 (by decide +kernel) (fun h8 => ?_) (fun h8 => ?_)
      · skip
        refine w_load (.aload_n 0) 66 (by decide +kernel) rfl rfl ?_
        refine w_getI (k := 11) 69 (by decide +kernel) sh_76 rfl ?_
        refine w_pushN 64 71 (by decide +kernel) ?_
        refine w_rem 72 (by decide +kernel) (by decide) ?_
        refine w_callS1 173 1 75 (by decide +kernel) (Nat.le_of_ble_eq_true rfl) rfl (by decide) (by omega) ?_
        refine k_173 hS.1  (by omega) (fun r9 hr9 => ?_)
        dsimp only [Option.toList, List.cons_append, List.nil_append]
        exact w_ret (by decide +kernel) (hq _ Nr3 hS trivial)
      · skip
        refine w_load (.iload 4) 52 (by decide +kernel) rfl rfl ?_
        refine w_ine 65 55 (by decide +kernel) (fun h10 => ?_) (fun h10 => ?_)
        · skip
          refine w_load (.aload_n 0) 66 (by decide +kernel) rfl rfl ?_
          refine w_getI (k := 11) 69 (by decide +kernel) sh_76 rfl ?_
          refine w_pushN 64 71 (by decide +kernel) ?_
          refine w_rem 72 (by decide +kernel) (by decide) ?_
          refine w_callS1 173 1 75 (by decide +kernel) (Nat.le_of_ble_eq_true rfl) rfl (by decide) (by omega) ?_
          refine k_173 hS.1  (by omega) (fun r11 hr11 => ?_)
          dsimp only [Option.toList, List.cons_append, List.nil_append]
          exact w_ret (by decide +kernel) (hq _ Nr3 hS trivial)
        · skip
          refine w_load (.aload_n 0) 56 (by decide +kernel) rfl rfl ?_
          refine w_getI (k := 11) 59 (by decide +kernel) sh_76 rfl ?_
          refine w_pushN 64 61 (by decide +kernel) ?_
          refine w_div 62 (by decide +kernel) (by decide) ?_
          refine w_goto 72 (by decide +kernel) ?_
          refine w_callS1 173 1 75 (by decide +kernel) (Nat.le_of_ble_eq_true rfl) rfl (by decide) (by omega) ?_
          refine k_173 hS.1  (by omega) (fun r12 hr12 => ?_)
          dsimp only [Option.toList, List.cons_append, List.nil_append]
          exact w_ret (by decide +kernel) (hq _ Nr3 hS trivial)
    · skip
      refine w_ine 44 41 (by decide +kernel) (fun hz => absurd hz (by decide)) (fun _ => ?_)
      refine w_push (-9) 43 (by decide +kernel) ?_
      exact w_ret (by decide +kernel) (hq _ Nr3 hS trivial)
  · skip
    refine w_store (ls' := [.ref 76, .int g, .int e, .int v, .int i, .int r1, .null]) (.istore 5) 9 (by decide +kernel) rfl rfl ?_
    refine w_load (.iload 5) 11 (by decide +kernel) rfl rfl ?_
    refine w_ieq 17 14 (by decide +kernel) (fun hz => absurd hz hno) (fun _ => ?_)
    refine w_load (.iload 5) 16 (by decide +kernel) rfl rfl ?_
    exact w_ret (by decide +kernel) (hq _ N hS trivial)
-- X8_cut
set_option maxRecDepth 10000 in
theorem k_175 {d : Nat} {M : Mt} {L : Lt} {Q : Option Value → Mt → Lt → Prop} {a : Int32} (hI : Inv M)  (hd : 4 ≤ d) (hq : ∀ (r : Int32) (N : Mt), St (fun i k => (i = 78 ∧ 22 ≤ k) ∨ i = 83 ∨ i = 84 ∨ (i = 76 ∧ (k = 7 ∨ k = 11))) M N → True → Q (some (.int r)) N L) : Wp d 175 0 [.ref 76, .int a, .null, .null, .null, .null] [] M L Q := by
  refine (show ∀ N : Mt, N = M → St (fun i k => (i = 78 ∧ 22 ≤ k) ∨ i = 83 ∨ i = 84 ∨ (i = 76 ∧ (k = 7 ∨ k = 11))) M N → Wp d 175 0 [.ref 76, .int a, .null, .null, .null, .null] [] N L Q from ?_) M rfl (St.rf hI)
  intro N hNM hS
  refine w_load (.iload_n 1) 1 (by decide +kernel) rfl rfl ?_
  refine w_callS1 142 1 4 (by decide +kernel) (Nat.le_of_ble_eq_true rfl) rfl (by decide) (by omega) ?_
  refine k_142 hS.1  (by omega) (fun r1 hr1 => ?_)
  dsimp only [Option.toList, List.cons_append, List.nil_append]
  rcases hr1 with ⟨rfl, k2, hk2, rfl⟩ | ⟨rfl, hnok2⟩
  · skip
    refine w_ine 9 7 (by decide +kernel) (fun _ => ?_) (fun hz => absurd hz (by decide))
    refine w_pushN 1 10 (by decide +kernel) ?_
    refine w_load (.aload_n 0) 11 (by decide +kernel) rfl rfl ?_
    refine w_load (.iload_n 1) 12 (by decide +kernel) rfl rfl ?_
    refine w_callV1 148 8 3 15 (by decide +kernel) sh_76 (Nat.le_of_ble_eq_true rfl) rfl (by decide) (by omega) ?_
    obtain ⟨n4, hn4, en4⟩ := inv_81 hS.1 k2
    refine k_148 hS.1 (by omega) (by omega) en4 (by omega) (fun r5 hr5 => ?_)
    dsimp only [Option.toList, List.cons_append, List.nil_append]
    rcases hr5 with ⟨kr5, hsr5, rfl⟩
    · skip
      have hlr5 := hsr5.1
      refine w_shl1 16 (by decide +kernel) (by omega) (fun p6 hp6 => ?_)
      refine w_pushN 1 17 (by decide +kernel) ?_
      refine w_subN (p6 - 1) 18 (by decide +kernel) (by omega) rfl ?_
      refine w_store (ls' := [.ref 76, .int (nI k2), .int (nI ((p6 - 1))), .null, .null, .null]) (.istore_n 2) 19 (by decide +kernel) rfl rfl ?_
      refine w_load (.iload_n 2) 20 (by decide +kernel) rfl rfl ?_
      refine w_store (ls' := [.ref 76, .int (nI k2), .int (nI ((p6 - 1))), .int (nI ((p6 - 1))), .null, .null]) (.istore_n 3) 21 (by decide +kernel) rfl rfl ?_
      refine w_load (.iload_n 2) 22 (by decide +kernel) rfl rfl ?_
      refine w_store (ls' := [.ref 76, .int (nI k2), .int (nI ((p6 - 1))), .int (nI ((p6 - 1))), .int (nI ((p6 - 1))), .null]) (.istore 4) 24 (by decide +kernel) rfl rfl ?_
      have LP_24 : ∀ (kk : Nat) (N_24 : Mt) (x3_24 : Int32) (x4_24 : Int32), St (fun i k => (i = 78 ∧ 22 ≤ k) ∨ i = 83 ∨ i = 84 ∨ (i = 76 ∧ (k = 7 ∨ k = 11))) M N_24 → (x4_24.toInt + 1).toNat < kk → Wp d 175 24 [.ref 76, .int (nI k2), .int (nI ((p6 - 1))), .int x3_24, .int x4_24, .null] [] N_24 L Q := by
        intro kk
        induction kk with
        | zero => intro N_24 x3_24 x4_24 hS hm_24; exact absurd hm_24 (Nat.not_lt_zero _)
        | succ kk ih_24 =>
          intro N_24 x3_24 x4_24 hS hm_24
          refine w_load (.iload 4) 26 (by decide +kernel) rfl rfl ?_
          refine w_ilt 89 29 (by decide +kernel) (fun h7 => ?_) (fun h7 => ?_)
          · skip
            refine w_load (.iload_n 3) 90 (by decide +kernel) rfl rfl ?_
            exact w_ret (by decide +kernel) (hq _ N_24 hS trivial)
          · skip
            refine w_load (.aload_n 0) 30 (by decide +kernel) rfl rfl ?_
            refine w_pushN 0 31 (by decide +kernel) ?_
            refine w_pushN 1 32 (by decide +kernel) ?_
            refine w_callV2 160 8 4 35 (by decide +kernel) sh_76 (Nat.le_of_ble_eq_true rfl) rfl rfl (by decide) (by omega) ?_
            refine k_160 hS.1 (by omega) (by omega) (by omega) (fun Nr8 hTr8 hr8 => ?_)
            have hS := hS.tr hTr8 (by intro i k; first | exact rfl | exact fun h => h.elim | omega | (dsimp only; omega) | (simp only [Hs, Tl, Sc, isHs, isScr, isTs] at *; omega))
            dsimp only [Option.toList, List.nil_append]
            refine w_load (.aload_n 0) 36 (by decide +kernel) rfl rfl ?_
            refine w_pushN 1 37 (by decide +kernel) ?_
            refine w_load (.iload_n 1) 38 (by decide +kernel) rfl rfl ?_
            refine w_load (.iload 4) 40 (by decide +kernel) rfl rfl ?_
            refine w_callV3 159 8 7 43 (by decide +kernel) sh_76 (Nat.le_of_ble_eq_true rfl) rfl rfl rfl (by decide) (by omega) ?_
            refine k_159 hS.1 (by omega) (by omega) (by omega) (fun r9 Nr9 hTr9 hr9 => ?_)
            have hS := hS.tr hTr9 (by intro i k; first | exact rfl | exact fun h => h.elim | omega | (dsimp only; omega) | (simp only [Hs, Tl, Sc, isHs, isScr, isTs] at *; omega))
            dsimp only [Option.toList, List.cons_append, List.nil_append]
            refine w_load (.iload_n 2) 44 (by decide +kernel) rfl rfl ?_
            refine w_load (.iload 4) 46 (by decide +kernel) rfl rfl ?_
            refine w_push (-1) 47 (by decide +kernel) ?_
            refine w_pure .ixor 48 (by decide +kernel) rfl rfl ?_
            refine w_pure .iand 49 (by decide +kernel) rfl rfl ?_
            refine w_cne 56 52 (by decide +kernel) (fun h10 => ?_) (fun h10 => ?_)
            · skip
              refine w_pushN 0 57 (by decide +kernel) ?_
              refine w_store (ls' := [.ref 76, .int (nI k2), .int (nI ((p6 - 1))), .int x3_24, .int x4_24, .int (nI 0)]) (.istore 5) 59 (by decide +kernel) rfl rfl ?_
              refine w_load (.iload 5) 61 (by decide +kernel) rfl rfl ?_
              refine w_ieq 81 64 (by decide +kernel) (fun _ => ?_) (fun hz => absurd hz (by decide))
              refine w_load (.iload_n 3) 82 (by decide +kernel) rfl rfl ?_
              refine w_store (ls' := [.ref 76, .int (nI k2), .int (nI ((p6 - 1))), .int x3_24, .int x4_24, .int (nI 0)]) (.istore_n 3) 83 (by decide +kernel) rfl rfl ?_
              obtain ⟨v12, ev12⟩ : ∃ y : Int32, y = x4_24 + Int32.ofInt (-1) := ⟨_, rfl⟩
              refine w_store (ls' := [.ref 76, .int (nI k2), .int (nI ((p6 - 1))), .int x3_24, .int v12, .int (nI 0)]) (.iinc 4 (-1)) 86 (by decide +kernel) rfl (by rw [ev12]; rfl) ?_
              refine w_goto 24 (by decide +kernel) ?_
              refine Wp.forget (ls := [.ref 76, .int (nI k2), .int (nI ((p6 - 1))), .int x3_24, .int v12, .null]) ⟨Or.inl rfl, Or.inl rfl, Or.inl rfl, Or.inl rfl, Or.inl rfl, Or.inr ⟨rfl, rfl⟩, trivial⟩ ?_
              exact ih_24 Nr9 _ _ hS  (by have hdm := dec_mu0 (by assumption); subst_vars; omega)
            · skip
              refine w_pushN 1 53 (by decide +kernel) ?_
              refine w_goto 57 (by decide +kernel) ?_
              refine w_store (ls' := [.ref 76, .int (nI k2), .int (nI ((p6 - 1))), .int x3_24, .int x4_24, .int (nI 1)]) (.istore 5) 59 (by decide +kernel) rfl rfl ?_
              refine w_load (.iload 5) 61 (by decide +kernel) rfl rfl ?_
              refine w_ieq 81 64 (by decide +kernel) (fun hz => absurd hz (by decide)) (fun _ => ?_)
              refine w_load (.iload 4) 66 (by decide +kernel) rfl rfl ?_
              refine w_callS1 136 3 69 (by decide +kernel) (Nat.le_of_ble_eq_true rfl) rfl (by decide) (by omega) ?_
              refine k_136 hS.1  (by omega) (fun r14 hr14 => ?_)
              dsimp only [Option.toList, List.cons_append, List.nil_append]
              rcases hr14 with ⟨n15, hn15, rfl⟩
              · skip
                refine w_load (.iload_n 3) 70 (by decide +kernel) rfl rfl ?_
                refine w_callS1 136 3 73 (by decide +kernel) (Nat.le_of_ble_eq_true rfl) rfl (by decide) (by omega) ?_
                refine k_136 hS.1  (by omega) (fun r16 hr16 => ?_)
                dsimp only [Option.toList, List.cons_append, List.nil_append]
                rcases hr16 with ⟨n17, hn17, rfl⟩
                · skip
                  refine w_cgtN 81 76 (by decide +kernel) (by omega) (by omega) (fun h18 => ?_) (fun h18 => ?_)
                  · skip
                    refine w_load (.iload_n 3) 82 (by decide +kernel) rfl rfl ?_
                    refine w_store (ls' := [.ref 76, .int (nI k2), .int (nI ((p6 - 1))), .int x3_24, .int x4_24, .int (nI 1)]) (.istore_n 3) 83 (by decide +kernel) rfl rfl ?_
                    obtain ⟨v19, ev19⟩ : ∃ y : Int32, y = x4_24 + Int32.ofInt (-1) := ⟨_, rfl⟩
                    refine w_store (ls' := [.ref 76, .int (nI k2), .int (nI ((p6 - 1))), .int x3_24, .int v19, .int (nI 1)]) (.iinc 4 (-1)) 86 (by decide +kernel) rfl (by rw [ev19]; rfl) ?_
                    refine w_goto 24 (by decide +kernel) ?_
                    refine Wp.forget (ls := [.ref 76, .int (nI k2), .int (nI ((p6 - 1))), .int x3_24, .int v19, .null]) ⟨Or.inl rfl, Or.inl rfl, Or.inl rfl, Or.inl rfl, Or.inl rfl, Or.inr ⟨rfl, rfl⟩, trivial⟩ ?_
                    exact ih_24 Nr9 _ _ hS  (by have hdm := dec_mu0 (by assumption); subst_vars; omega)
                  · skip
                    refine w_load (.iload 4) 78 (by decide +kernel) rfl rfl ?_
                    refine w_goto 82 (by decide +kernel) ?_
                    refine w_store (ls' := [.ref 76, .int (nI k2), .int (nI ((p6 - 1))), .int x4_24, .int x4_24, .int (nI 1)]) (.istore_n 3) 83 (by decide +kernel) rfl rfl ?_
                    obtain ⟨v20, ev20⟩ : ∃ y : Int32, y = x4_24 + Int32.ofInt (-1) := ⟨_, rfl⟩
                    refine w_store (ls' := [.ref 76, .int (nI k2), .int (nI ((p6 - 1))), .int x4_24, .int v20, .int (nI 1)]) (.iinc 4 (-1)) 86 (by decide +kernel) rfl (by rw [ev20]; rfl) ?_
                    refine w_goto 24 (by decide +kernel) ?_
                    refine Wp.forget (ls := [.ref 76, .int (nI k2), .int (nI ((p6 - 1))), .int x4_24, .int v20, .null]) ⟨Or.inl rfl, Or.inl rfl, Or.inl rfl, Or.inl rfl, Or.inl rfl, Or.inr ⟨rfl, rfl⟩, trivial⟩ ?_
                    exact ih_24 Nr9 _ _ hS  (by have hdm := dec_mu0 (by assumption); subst_vars; omega)
      exact LP_24 _ N _ _ hS  (Nat.lt_succ_self _)
  · skip
    refine w_ine 9 7 (by decide +kernel) (fun hz => absurd hz (by decide)) (fun _ => ?_)
    refine w_push (-1) 8 (by decide +kernel) ?_
    exact w_ret (by decide +kernel) (hq _ N hS trivial)
-- X8_round
set_option maxRecDepth 10000 in
theorem k_178 {d : Nat} {M : Mt} {L : Lt} {Q : Option Value → Mt → Lt → Prop} {a : Int32} (hI : Inv M)  (hd : 4 ≤ d) (hq : ∀ (r : Int32) (N : Mt), St (fun i k => (i = 78 ∧ 22 ≤ k) ∨ i = 83 ∨ i = 84 ∨ (i = 76 ∧ (k = 7 ∨ k = 11))) M N → True → Q (some (.int r)) N L) : Wp d 178 0 [.ref 76, .int a, .null, .null, .null, .null] [] M L Q := by
  refine (show ∀ N : Mt, N = M → St (fun i k => (i = 78 ∧ 22 ≤ k) ∨ i = 83 ∨ i = 84 ∨ (i = 76 ∧ (k = 7 ∨ k = 11))) M N → Wp d 178 0 [.ref 76, .int a, .null, .null, .null, .null] [] N L Q from ?_) M rfl (St.rf hI)
  intro N hNM hS
  refine w_load (.iload_n 1) 1 (by decide +kernel) rfl rfl ?_
  refine w_callS1 142 1 4 (by decide +kernel) (Nat.le_of_ble_eq_true rfl) rfl (by decide) (by omega) ?_
  refine k_142 hS.1  (by omega) (fun r1 hr1 => ?_)
  dsimp only [Option.toList, List.cons_append, List.nil_append]
  rcases hr1 with ⟨rfl, k2, hk2, rfl⟩ | ⟨rfl, hnok2⟩
  · skip
    refine w_ine 9 7 (by decide +kernel) (fun _ => ?_) (fun hz => absurd hz (by decide))
    refine w_load (.aload_n 0) 10 (by decide +kernel) rfl rfl ?_
    refine w_pushN 0 11 (by decide +kernel) ?_
    refine w_pushN 1 12 (by decide +kernel) ?_
    refine w_callV2 160 8 4 15 (by decide +kernel) sh_76 (Nat.le_of_ble_eq_true rfl) rfl rfl (by decide) (by omega) ?_
    refine k_160 hS.1 (by omega) (by omega) (by omega) (fun Nr4 hTr4 hr4 => ?_)
    have hS := hS.tr hTr4 (by intro i k; first | exact rfl | exact fun h => h.elim | omega | (dsimp only; omega) | (simp only [Hs, Tl, Sc, isHs, isScr, isTs] at *; omega))
    dsimp only [Option.toList, List.nil_append]
    refine w_pushN 0 16 (by decide +kernel) ?_
    refine w_store (ls' := [.ref 76, .int (nI k2), .int (nI 0), .null, .null, .null]) (.istore_n 2) 17 (by decide +kernel) rfl rfl ?_
    have LP_17 : ∀ (kk : Nat) (N_17 : Mt) (g2 : Nat), St (fun i k => (i = 78 ∧ 22 ≤ k) ∨ i = 83 ∨ i = 84 ∨ (i = 76 ∧ (k = 7 ∨ k = 11))) M N_17 → g2 ≤ 61 → 61 - g2 < kk → Wp d 178 17 [.ref 76, .int (nI k2), .int (nI g2), .null, .null, .null] [] N_17 L Q := by
      intro kk
      induction kk with
      | zero => intro N_17 g2 hS hi0_17 hm_17; exact absurd hm_17 (Nat.not_lt_zero _)
      | succ kk ih_17 =>
        intro N_17 g2 hS hi0_17 hm_17
        refine w_load (.iload_n 2) 18 (by decide +kernel) rfl rfl ?_
        refine w_pushN 60 20 (by decide +kernel) ?_
        refine w_cgtN 154 23 (by decide +kernel) (by omega) (by omega) (fun h5 => ?_) (fun h5 => ?_)
        · skip
          refine w_push (-9) 156 (by decide +kernel) ?_
          exact w_ret (by decide +kernel) (hq _ N_17 hS trivial)
        · skip
          refine w_pushN 0 24 (by decide +kernel) ?_
          refine w_store (ls' := [.ref 76, .int (nI k2), .int (nI g2), .int (nI 0), .null, .null]) (.istore_n 3) 25 (by decide +kernel) rfl rfl ?_
          have LP_25 : ∀ (kk : Nat) (N_25 : Mt) (g3 : Nat), St (fun i k => (i = 78 ∧ 22 ≤ k) ∨ i = 83 ∨ i = 84 ∨ (i = 76 ∧ (k = 7 ∨ k = 11))) M N_25 → g3 ≤ 16 → 16 - g3 < kk → Wp d 178 25 [.ref 76, .int (nI k2), .int (nI g2), .int (nI g3), .null, .null] [] N_25 L Q := by
            intro kk
            induction kk with
            | zero => intro N_25 g3 hS hi0_25 hm_25; exact absurd hm_25 (Nat.not_lt_zero _)
            | succ kk ih_25 =>
              intro N_25 g3 hS hi0_25 hm_25
              refine w_load (.iload_n 3) 26 (by decide +kernel) rfl rfl ?_
              refine w_pushN 16 28 (by decide +kernel) ?_
              refine w_cgeN 57 31 (by decide +kernel) (by omega) (by omega) (fun h6 => ?_) (fun h6 => ?_)
              · skip
                refine w_pushN 0 58 (by decide +kernel) ?_
                refine w_store (ls' := [.ref 76, .int (nI k2), .int (nI g2), .int (nI 0), .null, .null]) (.istore_n 3) 59 (by decide +kernel) rfl rfl ?_
                have LP_59 : ∀ (kk : Nat) (N_59 : Mt) (g3 : Nat), St (fun i k => (i = 78 ∧ 22 ≤ k) ∨ i = 83 ∨ i = 84 ∨ (i = 76 ∧ (k = 7 ∨ k = 11))) M N_59 → g3 ≤ 61 → 61 - g3 < kk → Wp d 178 59 [.ref 76, .int (nI k2), .int (nI g2), .int (nI g3), .null, .null] [] N_59 L Q := by
                  intro kk
                  induction kk with
                  | zero => intro N_59 g3 hS hi0_59 hm_59; exact absurd hm_59 (Nat.not_lt_zero _)
                  | succ kk ih_59 =>
                    intro N_59 g3 hS hi0_59 hm_59
                    refine w_load (.iload_n 3) 60 (by decide +kernel) rfl rfl ?_
                    refine w_load (.iload_n 2) 61 (by decide +kernel) rfl rfl ?_
                    refine w_cgeN 140 64 (by decide +kernel) (by omega) (by omega) (fun h7 => ?_) (fun h7 => ?_)
                    · skip
                      refine w_load (.aload_n 0) 141 (by decide +kernel) rfl rfl ?_
                      refine w_pushN 1 142 (by decide +kernel) ?_
                      refine w_load (.iload_n 1) 143 (by decide +kernel) rfl rfl ?_
                      refine w_pushN 0 144 (by decide +kernel) ?_
                      refine w_callV3 159 8 7 147 (by decide +kernel) sh_76 (Nat.le_of_ble_eq_true rfl) rfl rfl rfl (by decide) (by omega) ?_
                      refine k_159 hS.1 (by omega) (by omega) (by omega) (fun r8 Nr8 hTr8 hr8 => ?_)
                      have hS := hS.tr hTr8 (by intro i k; first | exact rfl | exact fun h => h.elim | omega | (dsimp only; omega) | (simp only [Hs, Tl, Sc, isHs, isScr, isTs] at *; omega))
                      dsimp only [Option.toList, List.cons_append, List.nil_append]
                      refine w_pure .pop 148 (by decide +kernel) rfl rfl ?_
                      refine w_iincN (z := 2) (g2 + 1) 151 (by decide +kernel) rfl (Nat.le_of_ble_eq_true rfl) rfl rfl ?_
                      show Wp _ _ _ [.ref 76, .int (nI k2), .int (nI (g2 + 1)), .int (nI g3), .null, .null] _ _ _ _
                      refine w_goto 17 (by decide +kernel) ?_
                      refine Wp.forget (ls := [.ref 76, .int (nI k2), .int (nI (g2 + 1)), .null, .null, .null]) ⟨Or.inl rfl, Or.inl rfl, Or.inl rfl, Or.inr ⟨rfl, rfl⟩, Or.inl rfl, Or.inl rfl, trivial⟩ ?_
                      exact ih_17 Nr8 (g2 + 1) hS (by omega) (by omega)
                    · skip
                      refine w_pushN 1 65 (by decide +kernel) ?_
                      refine w_store (ls' := [.ref 76, .int (nI k2), .int (nI g2), .int (nI g3), .int (nI 1), .null]) (.istore 4) 67 (by decide +kernel) rfl rfl ?_
                      refine w_pushN 0 68 (by decide +kernel) ?_
                      refine w_store (ls' := [.ref 76, .int (nI k2), .int (nI g2), .int (nI g3), .int (nI 1), .int (nI 0)]) (.istore 5) 70 (by decide +kernel) rfl rfl ?_
                      have LP_70 : ∀ (kk : Nat) (N_70 : Mt) (x4_70 : Int32) (g5 : Nat), St (fun i k => (i = 78 ∧ 22 ≤ k) ∨ i = 83 ∨ i = 84 ∨ (i = 76 ∧ (k = 7 ∨ k = 11))) M N_70 → g5 ≤ 16 → 16 - g5 < kk → Wp d 178 70 [.ref 76, .int (nI k2), .int (nI g2), .int (nI g3), .int x4_70, .int (nI g5)] [] N_70 L Q := by
                        intro kk
                        induction kk with
                        | zero => intro N_70 x4_70 g5 hS hi0_70 hm_70; exact absurd hm_70 (Nat.not_lt_zero _)
                        | succ kk ih_70 =>
                          intro N_70 x4_70 g5 hS hi0_70 hm_70
                          refine w_load (.iload 5) 72 (by decide +kernel) rfl rfl ?_
                          refine w_pushN 16 74 (by decide +kernel) ?_
                          refine w_cgeN 122 77 (by decide +kernel) (by omega) (by omega) (fun h9 => ?_) (fun h9 => ?_)
                          · skip
                            refine w_load (.iload 4) 124 (by decide +kernel) rfl rfl ?_
                            refine w_ieq 134 127 (by decide +kernel) (fun h10 => ?_) (fun h10 => ?_)
                            · skip
                              refine w_iincN (z := 3) (g3 + 1) 137 (by decide +kernel) rfl (Nat.le_of_ble_eq_true rfl) rfl rfl ?_
                              show Wp _ _ _ [.ref 76, .int (nI k2), .int (nI g2), .int (nI (g3 + 1)), .int x4_70, .int (nI g5)] _ _ _ _
                              refine w_goto 59 (by decide +kernel) ?_
                              refine Wp.forget (ls := [.ref 76, .int (nI k2), .int (nI g2), .int (nI (g3 + 1)), .null, .null]) ⟨Or.inl rfl, Or.inl rfl, Or.inl rfl, Or.inl rfl, Or.inr ⟨rfl, rfl⟩, Or.inr ⟨rfl, rfl⟩, trivial⟩ ?_
                              exact ih_59 N_70 (g3 + 1) hS (by omega) (by omega)
                            · skip
                              refine w_pushN 100 129 (by decide +kernel) ?_
                              refine w_load (.iload_n 3) 130 (by decide +kernel) rfl rfl ?_
                              refine w_mulN (100 * g3) 131 (by decide +kernel) rfl ?_
                              refine w_load (.iload_n 2) 132 (by decide +kernel) rfl rfl ?_
                              refine w_addN (100 * g3 + g2) 133 (by decide +kernel) (by omega) ?_
                              exact w_ret (by decide +kernel) (hq _ N_70 hS trivial)
                          · skip
                            refine w_load (.iload 4) 79 (by decide +kernel) rfl rfl ?_
                            refine w_ieq 113 82 (by decide +kernel) (fun h11 => ?_) (fun h11 => ?_)
                            · skip
                              refine w_pushN 0 114 (by decide +kernel) ?_
                              refine w_store (ls' := [.ref 76, .int (nI k2), .int (nI g2), .int (nI g3), .int (nI 0), .int (nI g5)]) (.istore 4) 116 (by decide +kernel) rfl rfl ?_
                              refine w_iincN (z := 5) (g5 + 1) 119 (by decide +kernel) rfl (Nat.le_of_ble_eq_true rfl) rfl rfl ?_
                              show Wp _ _ _ [.ref 76, .int (nI k2), .int (nI g2), .int (nI g3), .int (nI 0), .int (nI (g5 + 1))] _ _ _ _
                              refine w_goto 70 (by decide +kernel) ?_
                              exact ih_70 N_70 _ (g5 + 1) hS (by omega) (by omega)
                            · skip
                              refine w_load (.aload_n 0) 83 (by decide +kernel) rfl rfl ?_
                              refine w_getR (k := 13) (r := 84) 86 (by decide +kernel) sh_76 rfl ?_
                              refine w_pushN 16 88 (by decide +kernel) ?_
                              refine w_load (.iload_n 3) 89 (by decide +kernel) rfl rfl ?_
                              refine w_mulN (16 * g3) 90 (by decide +kernel) rfl ?_
                              refine w_load (.iload 5) 92 (by decide +kernel) rfl rfl ?_
                              refine w_addN (16 * g3 + g5) 93 (by decide +kernel) (by omega) ?_
                              refine w_ialdN 94 (by decide +kernel) sh_84 (by omega) (by omega) ?_
                              refine w_load (.aload_n 0) 95 (by decide +kernel) rfl rfl ?_
                              refine w_getR (k := 13) (r := 84) 98 (by decide +kernel) sh_76 rfl ?_
                              refine w_pushN 16 100 (by decide +kernel) ?_
                              refine w_load (.iload_n 2) 101 (by decide +kernel) rfl rfl ?_
                              refine w_mulN (16 * g2) 102 (by decide +kernel) rfl ?_
                              refine w_load (.iload 5) 104 (by decide +kernel) rfl rfl ?_
                              refine w_addN (16 * g2 + g5) 105 (by decide +kernel) (by omega) ?_
                              refine w_ialdN 106 (by decide +kernel) sh_84 (by omega) (by omega) ?_
                              refine w_cne 113 109 (by decide +kernel) (fun h12 => ?_) (fun h12 => ?_)
                              · skip
                                refine w_pushN 0 114 (by decide +kernel) ?_
                                refine w_store (ls' := [.ref 76, .int (nI k2), .int (nI g2), .int (nI g3), .int (nI 0), .int (nI g5)]) (.istore 4) 116 (by decide +kernel) rfl rfl ?_
                                refine w_iincN (z := 5) (g5 + 1) 119 (by decide +kernel) rfl (Nat.le_of_ble_eq_true rfl) rfl rfl ?_
                                show Wp _ _ _ [.ref 76, .int (nI k2), .int (nI g2), .int (nI g3), .int (nI 0), .int (nI (g5 + 1))] _ _ _ _
                                refine w_goto 70 (by decide +kernel) ?_
                                exact ih_70 N_70 _ (g5 + 1) hS (by omega) (by omega)
                              · skip
                                refine w_pushN 1 110 (by decide +kernel) ?_
                                refine w_goto 114 (by decide +kernel) ?_
                                refine w_store (ls' := [.ref 76, .int (nI k2), .int (nI g2), .int (nI g3), .int (nI 1), .int (nI g5)]) (.istore 4) 116 (by decide +kernel) rfl rfl ?_
                                refine w_iincN (z := 5) (g5 + 1) 119 (by decide +kernel) rfl (Nat.le_of_ble_eq_true rfl) rfl rfl ?_
                                show Wp _ _ _ [.ref 76, .int (nI k2), .int (nI g2), .int (nI g3), .int (nI 1), .int (nI (g5 + 1))] _ _ _ _
                                refine w_goto 70 (by decide +kernel) ?_
                                exact ih_70 N_70 _ (g5 + 1) hS (by omega) (by omega)
                      exact LP_70 _ N_59 _ 0 hS (by omega) (Nat.lt_succ_self _)
                exact LP_59 _ N_25 0 hS (by omega) (Nat.lt_succ_self _)
              · skip
                refine w_load (.aload_n 0) 32 (by decide +kernel) rfl rfl ?_
                refine w_getR (k := 13) (r := 84) 35 (by decide +kernel) sh_76 rfl ?_
                refine w_pushN 16 37 (by decide +kernel) ?_
                refine w_load (.iload_n 2) 38 (by decide +kernel) rfl rfl ?_
                refine w_mulN (16 * g2) 39 (by decide +kernel) rfl ?_
                refine w_load (.iload_n 3) 40 (by decide +kernel) rfl rfl ?_
                refine w_addN (16 * g2 + g3) 41 (by decide +kernel) (by omega) ?_
                refine w_load (.aload_n 0) 42 (by decide +kernel) rfl rfl ?_
                refine w_getR (k := 2) (r := 78) 45 (by decide +kernel) sh_76 rfl ?_
                refine w_pushN 22 47 (by decide +kernel) ?_
                refine w_load (.iload_n 3) 48 (by decide +kernel) rfl rfl ?_
                refine w_addN (22 + g3) 49 (by decide +kernel) (by omega) ?_
                refine w_ialdN 50 (by decide +kernel) sh_78 (by omega) (by omega) ?_
                refine w_iastE 51 (by decide +kernel) sh_84 (by omega) (by omega) hS (Rg.free (by simp only [Hs, Tl, Sc, isScr, isHs, isTs] at *; omega)) (by first | exact rfl | omega | (dsimp only; omega) | (simp only [Hs, Tl, Sc, isHs, isScr, isTs] at *; omega)) (fun Nq13 hS hq13 oq13 mq13 => ?_)
                refine w_iincN (z := 3) (g3 + 1) 54 (by decide +kernel) rfl (Nat.le_of_ble_eq_true rfl) rfl rfl ?_
                show Wp _ _ _ [.ref 76, .int (nI k2), .int (nI g2), .int (nI (g3 + 1)), .null, .null] _ _ _ _
                refine w_goto 25 (by decide +kernel) ?_
                exact ih_25 Nq13 (g3 + 1) hS (by omega) (by omega)
          exact LP_25 _ N_17 0 hS (by omega) (Nat.lt_succ_self _)
    exact LP_17 _ Nr4 0 hS (by omega) (Nat.lt_succ_self _)
  · skip
    refine w_ine 9 7 (by decide +kernel) (fun hz => absurd hz (by decide)) (fun _ => ?_)
    refine w_push (-1) 8 (by decide +kernel) ?_
    exact w_ret (by decide +kernel) (hq _ N hS trivial)
-- X8_kinds
set_option maxRecDepth 10000 in
theorem k_179 {d : Nat} {M : Mt} {L : Lt} {Q : Option Value → Mt → Lt → Prop} {a : Int32} (hI : Inv M)  (hd : 4 ≤ d) (hq : ∀ (r : Int32) (N : Mt), St (fun i k => (i = 78 ∧ 22 ≤ k) ∨ i = 83 ∨ i = 84 ∨ (i = 76 ∧ (k = 7 ∨ k = 11))) M N → True → Q (some (.int r)) N L) : Wp d 179 0 [.ref 76, .int a, .null, .null, .null, .null] [] M L Q := by
  refine (show ∀ N : Mt, N = M → St (fun i k => (i = 78 ∧ 22 ≤ k) ∨ i = 83 ∨ i = 84 ∨ (i = 76 ∧ (k = 7 ∨ k = 11))) M N → Wp d 179 0 [.ref 76, .int a, .null, .null, .null, .null] [] N L Q from ?_) M rfl (St.rf hI)
  intro N hNM hS
  refine w_load (.iload_n 1) 1 (by decide +kernel) rfl rfl ?_
  refine w_callS1 142 1 4 (by decide +kernel) (Nat.le_of_ble_eq_true rfl) rfl (by decide) (by omega) ?_
  refine k_142 hS.1  (by omega) (fun r1 hr1 => ?_)
  dsimp only [Option.toList, List.cons_append, List.nil_append]
  rcases hr1 with ⟨rfl, k2, hk2, rfl⟩ | ⟨rfl, hnok2⟩
  · skip
    refine w_ine 9 7 (by decide +kernel) (fun _ => ?_) (fun hz => absurd hz (by decide))
    refine w_load (.aload_n 0) 10 (by decide +kernel) rfl rfl ?_
    refine w_load (.iload_n 1) 11 (by decide +kernel) rfl rfl ?_
    refine w_callV1 148 8 3 14 (by decide +kernel) sh_76 (Nat.le_of_ble_eq_true rfl) rfl (by decide) (by omega) ?_
    obtain ⟨n4, hn4, en4⟩ := inv_81 hS.1 k2
    refine k_148 hS.1 (by omega) (by omega) en4 (by omega) (fun r5 hr5 => ?_)
    dsimp only [Option.toList, List.cons_append, List.nil_append]
    rcases hr5 with ⟨kr5, hsr5, rfl⟩
    · skip
      have hlr5 := hsr5.1
      refine w_store (ls' := [.ref 76, .int (nI k2), .int (nI ((kr5 / 3))), .null, .null, .null]) (.istore_n 2) 15 (by decide +kernel) rfl rfl ?_
      refine w_pushN 1 16 (by decide +kernel) ?_
      refine w_store (ls' := [.ref 76, .int (nI k2), .int (nI ((kr5 / 3))), .int (nI 1), .null, .null]) (.istore_n 3) 17 (by decide +kernel) rfl rfl ?_
      refine w_pushN 0 18 (by decide +kernel) ?_
      refine w_store (ls' := [.ref 76, .int (nI k2), .int (nI ((kr5 / 3))), .int (nI 1), .int (nI 0), .null]) (.istore 4) 20 (by decide +kernel) rfl rfl ?_
      have LP_20 : ∀ (kk : Nat) (N_20 : Mt) (x3_20 : Int32) (g4 : Nat), St (fun i k => (i = 78 ∧ 22 ≤ k) ∨ i = 83 ∨ i = 84 ∨ (i = 76 ∧ (k = 7 ∨ k = 11))) M N_20 → g4 ≤ 8 → 8 - g4 < kk → Wp d 179 20 [.ref 76, .int (nI k2), .int (nI ((kr5 / 3))), .int x3_20, .int (nI g4), .null] [] N_20 L Q := by
        intro kk
        induction kk with
        | zero => intro N_20 x3_20 g4 hS hi0_20 hm_20; exact absurd hm_20 (Nat.not_lt_zero _)
        | succ kk ih_20 =>
          intro N_20 x3_20 g4 hS hi0_20 hm_20
          refine w_load (.iload 4) 22 (by decide +kernel) rfl rfl ?_
          refine w_load (.iload_n 2) 23 (by decide +kernel) rfl rfl ?_
          refine w_cgeN 78 26 (by decide +kernel) (by omega) (by omega) (fun h6 => ?_) (fun h6 => ?_)
          · skip
            refine w_load (.aload_n 0) 79 (by decide +kernel) rfl rfl ?_
            refine w_pushN 0 80 (by decide +kernel) ?_
            refine w_pushN 1 81 (by decide +kernel) ?_
            refine w_callV2 160 8 4 84 (by decide +kernel) sh_76 (Nat.le_of_ble_eq_true rfl) rfl rfl (by decide) (by omega) ?_
            refine k_160 hS.1 (by omega) (by omega) (by omega) (fun Nr7 hTr7 hr7 => ?_)
            have hS := hS.tr hTr7 (by intro i k; first | exact rfl | exact fun h => h.elim | omega | (dsimp only; omega) | (simp only [Hs, Tl, Sc, isHs, isScr, isTs] at *; omega))
            dsimp only [Option.toList, List.nil_append]
            refine w_load (.aload_n 0) 85 (by decide +kernel) rfl rfl ?_
            refine w_pushN 1 86 (by decide +kernel) ?_
            refine w_load (.iload_n 1) 87 (by decide +kernel) rfl rfl ?_
            refine w_pushN 0 88 (by decide +kernel) ?_
            refine w_callV3 159 8 7 91 (by decide +kernel) sh_76 (Nat.le_of_ble_eq_true rfl) rfl rfl rfl (by decide) (by omega) ?_
            refine k_159 hS.1 (by omega) (by omega) (by omega) (fun r8 Nr8 hTr8 hr8 => ?_)
            have hS := hS.tr hTr8 (by intro i k; first | exact rfl | exact fun h => h.elim | omega | (dsimp only; omega) | (simp only [Hs, Tl, Sc, isHs, isScr, isTs] at *; omega))
            dsimp only [Option.toList, List.cons_append, List.nil_append]
            refine w_pure .pop 92 (by decide +kernel) rfl rfl ?_
            refine w_pushN 1 93 (by decide +kernel) ?_
            refine w_store (ls' := [.ref 76, .int (nI k2), .int (nI ((kr5 / 3))), .int x3_20, .int (nI 1), .null]) (.istore 4) 95 (by decide +kernel) rfl rfl ?_
            refine w_pushN 0 96 (by decide +kernel) ?_
            refine w_store (ls' := [.ref 76, .int (nI k2), .int (nI ((kr5 / 3))), .int x3_20, .int (nI 1), .int (nI 0)]) (.istore 5) 98 (by decide +kernel) rfl rfl ?_
            have LP_98 : ∀ (kk : Nat) (N_98 : Mt) (x4_98 : Int32) (g5 : Nat), St (fun i k => (i = 78 ∧ 22 ≤ k) ∨ i = 83 ∨ i = 84 ∨ (i = 76 ∧ (k = 7 ∨ k = 11))) M N_98 → g5 ≤ 16 → 16 - g5 < kk → Wp d 179 98 [.ref 76, .int (nI k2), .int (nI ((kr5 / 3))), .int x3_20, .int x4_98, .int (nI g5)] [] N_98 L Q := by
              intro kk
              induction kk with
              | zero => intro N_98 x4_98 g5 hS hi0_98 hm_98; exact absurd hm_98 (Nat.not_lt_zero _)
              | succ kk ih_98 =>
                intro N_98 x4_98 g5 hS hi0_98 hm_98
                refine w_load (.iload 5) 100 (by decide +kernel) rfl rfl ?_
                refine w_pushN 16 102 (by decide +kernel) ?_
                refine w_cgeN 143 105 (by decide +kernel) (by omega) (by omega) (fun h9 => ?_) (fun h9 => ?_)
                · skip
                  refine w_load (.iload_n 3) 144 (by decide +kernel) rfl rfl ?_
                  refine w_ieq 151 147 (by decide +kernel) (fun h10 => ?_) (fun h10 => ?_)
                  · skip
                    refine w_pushN 0 152 (by decide +kernel) ?_
                    refine w_load (.aload_n 0) 153 (by decide +kernel) rfl rfl ?_
                    refine w_load (.iload_n 1) 154 (by decide +kernel) rfl rfl ?_
                    refine w_callV1 146 8 5 157 (by decide +kernel) sh_76 (Nat.le_of_ble_eq_true rfl) rfl (by decide) (by omega) ?_
                    obtain ⟨n11, hn11, en11⟩ := inv_81 hS.1 k2
                    refine k_146 hS.1 (by omega) (by omega) en11 (by omega) (fun r12 hr12 => ?_)
                    dsimp only [Option.toList, List.cons_append, List.nil_append]
                    rcases hr12 with ⟨kr12, hsr12, er12⟩
                    · skip
                      have hlr12 := hsr12.1
                      refine w_load (.aload_n 0) 158 (by decide +kernel) rfl rfl ?_
                      refine w_getR (k := 6) (r := 81) 161 (by decide +kernel) sh_76 rfl ?_
                      refine w_load (.iload_n 1) 162 (by decide +kernel) rfl rfl ?_
                      refine w_ialdK 163 (by decide +kernel) sh_81 (by decide) (by omega) en11 ?_
                      refine w_cne 170 166 (by decide +kernel) (fun h13 => ?_) (fun h13 => ?_)
                      · skip
                        refine w_pushN 0 171 (by decide +kernel) ?_
                        refine w_addN 0 172 (by decide +kernel) (by omega) ?_
                        refine w_load (.iload 4) 174 (by decide +kernel) rfl rfl ?_
                        refine w_ieq 181 177 (by decide +kernel) (fun h14 => ?_) (fun h14 => ?_)
                        · skip
                          refine w_pushN 0 182 (by decide +kernel) ?_
                          refine w_addN 0 183 (by decide +kernel) (by omega) ?_
                          refine w_store (ls' := [.ref 76, .int (nI k2), .int (nI ((kr5 / 3))), .int x3_20, .int x4_98, .int (nI 0)]) (.istore 5) 185 (by decide +kernel) rfl rfl ?_
                          refine w_load (.iload 5) 187 (by decide +kernel) rfl rfl ?_
                          refine w_load (.aload_n 0) 188 (by decide +kernel) rfl rfl ?_
                          refine w_pushN 1 189 (by decide +kernel) ?_
                          refine w_callV1 165 8 2 192 (by decide +kernel) sh_76 (Nat.le_of_ble_eq_true rfl) rfl (by decide) (by omega) ?_
                          refine k_165 hS.1 (by omega) (by omega) (fun r15 hr15 => ?_)
                          dsimp only [Option.toList, List.cons_append, List.nil_append]
                          refine w_load (.aload_n 0) 193 (by decide +kernel) rfl rfl ?_
                          refine w_pushN 0 194 (by decide +kernel) ?_
                          refine w_callV1 165 8 2 197 (by decide +kernel) sh_76 (Nat.le_of_ble_eq_true rfl) rfl (by decide) (by omega) ?_
                          refine k_165 hS.1 (by omega) (by omega) (fun r16 hr16 => ?_)
                          dsimp only [Option.toList, List.cons_append, List.nil_append]
                          refine w_ceq 205 200 (by decide +kernel) (fun h17 => ?_) (fun h17 => ?_)
                          · skip
                            refine w_pushN 0 206 (by decide +kernel) ?_
                            refine w_addN 0 207 (by decide +kernel) (by omega) ?_
                            refine w_load (.aload_n 0) 208 (by decide +kernel) rfl rfl ?_
                            refine w_getI (k := 7) 211 (by decide +kernel) sh_76 rfl ?_
                            refine w_ile 219 214 (by decide +kernel) (fun h18 => ?_) (fun h18 => ?_)
                            · skip
                              refine w_pushN 0 220 (by decide +kernel) ?_
                              refine w_addN 0 221 (by decide +kernel) (by omega) ?_
                              exact w_ret (by decide +kernel) (hq _ N_98 hS trivial)
                            · skip
                              refine w_pushN 16 216 (by decide +kernel) ?_
                              refine w_goto 220 (by decide +kernel) ?_
                              refine w_addN 16 221 (by decide +kernel) (by omega) ?_
                              exact w_ret (by decide +kernel) (hq _ N_98 hS trivial)
                          · skip
                            refine w_pushN 8 202 (by decide +kernel) ?_
                            refine w_goto 206 (by decide +kernel) ?_
                            refine w_addN 8 207 (by decide +kernel) (by omega) ?_
                            refine w_load (.aload_n 0) 208 (by decide +kernel) rfl rfl ?_
                            refine w_getI (k := 7) 211 (by decide +kernel) sh_76 rfl ?_
                            refine w_ile 219 214 (by decide +kernel) (fun h19 => ?_) (fun h19 => ?_)
                            · skip
                              refine w_pushN 0 220 (by decide +kernel) ?_
                              refine w_addN 8 221 (by decide +kernel) (by omega) ?_
                              exact w_ret (by decide +kernel) (hq _ N_98 hS trivial)
                            · skip
                              refine w_pushN 16 216 (by decide +kernel) ?_
                              refine w_goto 220 (by decide +kernel) ?_
                              refine w_addN 24 221 (by decide +kernel) (by omega) ?_
                              exact w_ret (by decide +kernel) (hq _ N_98 hS trivial)
                        · skip
                          refine w_pushN 4 178 (by decide +kernel) ?_
                          refine w_goto 182 (by decide +kernel) ?_
                          refine w_addN 4 183 (by decide +kernel) (by omega) ?_
                          refine w_store (ls' := [.ref 76, .int (nI k2), .int (nI ((kr5 / 3))), .int x3_20, .int x4_98, .int (nI 4)]) (.istore 5) 185 (by decide +kernel) rfl rfl ?_
                          refine w_load (.iload 5) 187 (by decide +kernel) rfl rfl ?_
                          refine w_load (.aload_n 0) 188 (by decide +kernel) rfl rfl ?_
                          refine w_pushN 1 189 (by decide +kernel) ?_
                          refine w_callV1 165 8 2 192 (by decide +kernel) sh_76 (Nat.le_of_ble_eq_true rfl) rfl (by decide) (by omega) ?_
                          refine k_165 hS.1 (by omega) (by omega) (fun r20 hr20 => ?_)
                          dsimp only [Option.toList, List.cons_append, List.nil_append]
                          refine w_load (.aload_n 0) 193 (by decide +kernel) rfl rfl ?_
                          refine w_pushN 0 194 (by decide +kernel) ?_
                          refine w_callV1 165 8 2 197 (by decide +kernel) sh_76 (Nat.le_of_ble_eq_true rfl) rfl (by decide) (by omega) ?_
                          refine k_165 hS.1 (by omega) (by omega) (fun r21 hr21 => ?_)
                          dsimp only [Option.toList, List.cons_append, List.nil_append]
                          refine w_ceq 205 200 (by decide +kernel) (fun h22 => ?_) (fun h22 => ?_)
                          · skip
                            refine w_pushN 0 206 (by decide +kernel) ?_
                            refine w_addN 4 207 (by decide +kernel) (by omega) ?_
                            refine w_load (.aload_n 0) 208 (by decide +kernel) rfl rfl ?_
                            refine w_getI (k := 7) 211 (by decide +kernel) sh_76 rfl ?_
                            refine w_ile 219 214 (by decide +kernel) (fun h23 => ?_) (fun h23 => ?_)
                            · skip
                              refine w_pushN 0 220 (by decide +kernel) ?_
                              refine w_addN 4 221 (by decide +kernel) (by omega) ?_
                              exact w_ret (by decide +kernel) (hq _ N_98 hS trivial)
                            · skip
                              refine w_pushN 16 216 (by decide +kernel) ?_
                              refine w_goto 220 (by decide +kernel) ?_
                              refine w_addN 20 221 (by decide +kernel) (by omega) ?_
                              exact w_ret (by decide +kernel) (hq _ N_98 hS trivial)
                          · skip
                            refine w_pushN 8 202 (by decide +kernel) ?_
                            refine w_goto 206 (by decide +kernel) ?_
                            refine w_addN 12 207 (by decide +kernel) (by omega) ?_
                            refine w_load (.aload_n 0) 208 (by decide +kernel) rfl rfl ?_
                            refine w_getI (k := 7) 211 (by decide +kernel) sh_76 rfl ?_
                            refine w_ile 219 214 (by decide +kernel) (fun h24 => ?_) (fun h24 => ?_)
                            · skip
                              refine w_pushN 0 220 (by decide +kernel) ?_
                              refine w_addN 12 221 (by decide +kernel) (by omega) ?_
                              exact w_ret (by decide +kernel) (hq _ N_98 hS trivial)
                            · skip
                              refine w_pushN 16 216 (by decide +kernel) ?_
                              refine w_goto 220 (by decide +kernel) ?_
                              refine w_addN 28 221 (by decide +kernel) (by omega) ?_
                              exact w_ret (by decide +kernel) (hq _ N_98 hS trivial)
                      · skip
                        refine w_pushN 2 167 (by decide +kernel) ?_
                        refine w_goto 171 (by decide +kernel) ?_
                        refine w_addN 2 172 (by decide +kernel) (by omega) ?_
                        refine w_load (.iload 4) 174 (by decide +kernel) rfl rfl ?_
                        refine w_ieq 181 177 (by decide +kernel) (fun h25 => ?_) (fun h25 => ?_)
                        · skip
                          refine w_pushN 0 182 (by decide +kernel) ?_
                          refine w_addN 2 183 (by decide +kernel) (by omega) ?_
                          refine w_store (ls' := [.ref 76, .int (nI k2), .int (nI ((kr5 / 3))), .int x3_20, .int x4_98, .int (nI 2)]) (.istore 5) 185 (by decide +kernel) rfl rfl ?_
                          refine w_load (.iload 5) 187 (by decide +kernel) rfl rfl ?_
                          refine w_load (.aload_n 0) 188 (by decide +kernel) rfl rfl ?_
                          refine w_pushN 1 189 (by decide +kernel) ?_
                          refine w_callV1 165 8 2 192 (by decide +kernel) sh_76 (Nat.le_of_ble_eq_true rfl) rfl (by decide) (by omega) ?_
                          refine k_165 hS.1 (by omega) (by omega) (fun r26 hr26 => ?_)
                          dsimp only [Option.toList, List.cons_append, List.nil_append]
                          refine w_load (.aload_n 0) 193 (by decide +kernel) rfl rfl ?_
                          refine w_pushN 0 194 (by decide +kernel) ?_
                          refine w_callV1 165 8 2 197 (by decide +kernel) sh_76 (Nat.le_of_ble_eq_true rfl) rfl (by decide) (by omega) ?_
                          refine k_165 hS.1 (by omega) (by omega) (fun r27 hr27 => ?_)
                          dsimp only [Option.toList, List.cons_append, List.nil_append]
                          refine w_ceq 205 200 (by decide +kernel) (fun h28 => ?_) (fun h28 => ?_)
                          · skip
                            refine w_pushN 0 206 (by decide +kernel) ?_
                            refine w_addN 2 207 (by decide +kernel) (by omega) ?_
                            refine w_load (.aload_n 0) 208 (by decide +kernel) rfl rfl ?_
                            refine w_getI (k := 7) 211 (by decide +kernel) sh_76 rfl ?_
                            refine w_ile 219 214 (by decide +kernel) (fun h29 => ?_) (fun h29 => ?_)
                            · skip
                              refine w_pushN 0 220 (by decide +kernel) ?_
                              refine w_addN 2 221 (by decide +kernel) (by omega) ?_
                              exact w_ret (by decide +kernel) (hq _ N_98 hS trivial)
                            · skip
                              refine w_pushN 16 216 (by decide +kernel) ?_
                              refine w_goto 220 (by decide +kernel) ?_
                              refine w_addN 18 221 (by decide +kernel) (by omega) ?_
                              exact w_ret (by decide +kernel) (hq _ N_98 hS trivial)
                          · skip
                            refine w_pushN 8 202 (by decide +kernel) ?_
                            refine w_goto 206 (by decide +kernel) ?_
                            refine w_addN 10 207 (by decide +kernel) (by omega) ?_
                            refine w_load (.aload_n 0) 208 (by decide +kernel) rfl rfl ?_
                            refine w_getI (k := 7) 211 (by decide +kernel) sh_76 rfl ?_
                            refine w_ile 219 214 (by decide +kernel) (fun h30 => ?_) (fun h30 => ?_)
                            · skip
                              refine w_pushN 0 220 (by decide +kernel) ?_
                              refine w_addN 10 221 (by decide +kernel) (by omega) ?_
                              exact w_ret (by decide +kernel) (hq _ N_98 hS trivial)
                            · skip
                              refine w_pushN 16 216 (by decide +kernel) ?_
                              refine w_goto 220 (by decide +kernel) ?_
                              refine w_addN 26 221 (by decide +kernel) (by omega) ?_
                              exact w_ret (by decide +kernel) (hq _ N_98 hS trivial)
                        · skip
                          refine w_pushN 4 178 (by decide +kernel) ?_
                          refine w_goto 182 (by decide +kernel) ?_
                          refine w_addN 6 183 (by decide +kernel) (by omega) ?_
                          refine w_store (ls' := [.ref 76, .int (nI k2), .int (nI ((kr5 / 3))), .int x3_20, .int x4_98, .int (nI 6)]) (.istore 5) 185 (by decide +kernel) rfl rfl ?_
                          refine w_load (.iload 5) 187 (by decide +kernel) rfl rfl ?_
                          refine w_load (.aload_n 0) 188 (by decide +kernel) rfl rfl ?_
                          refine w_pushN 1 189 (by decide +kernel) ?_
                          refine w_callV1 165 8 2 192 (by decide +kernel) sh_76 (Nat.le_of_ble_eq_true rfl) rfl (by decide) (by omega) ?_
                          refine k_165 hS.1 (by omega) (by omega) (fun r31 hr31 => ?_)
                          dsimp only [Option.toList, List.cons_append, List.nil_append]
                          refine w_load (.aload_n 0) 193 (by decide +kernel) rfl rfl ?_
                          refine w_pushN 0 194 (by decide +kernel) ?_
                          refine w_callV1 165 8 2 197 (by decide +kernel) sh_76 (Nat.le_of_ble_eq_true rfl) rfl (by decide) (by omega) ?_
                          refine k_165 hS.1 (by omega) (by omega) (fun r32 hr32 => ?_)
                          dsimp only [Option.toList, List.cons_append, List.nil_append]
                          refine w_ceq 205 200 (by decide +kernel) (fun h33 => ?_) (fun h33 => ?_)
                          · skip
                            refine w_pushN 0 206 (by decide +kernel) ?_
                            refine w_addN 6 207 (by decide +kernel) (by omega) ?_
                            refine w_load (.aload_n 0) 208 (by decide +kernel) rfl rfl ?_
                            refine w_getI (k := 7) 211 (by decide +kernel) sh_76 rfl ?_
                            refine w_ile 219 214 (by decide +kernel) (fun h34 => ?_) (fun h34 => ?_)
                            · skip
                              refine w_pushN 0 220 (by decide +kernel) ?_
                              refine w_addN 6 221 (by decide +kernel) (by omega) ?_
                              exact w_ret (by decide +kernel) (hq _ N_98 hS trivial)
                            · skip
                              refine w_pushN 16 216 (by decide +kernel) ?_
                              refine w_goto 220 (by decide +kernel) ?_
                              refine w_addN 22 221 (by decide +kernel) (by omega) ?_
                              exact w_ret (by decide +kernel) (hq _ N_98 hS trivial)
                          · skip
                            refine w_pushN 8 202 (by decide +kernel) ?_
                            refine w_goto 206 (by decide +kernel) ?_
                            refine w_addN 14 207 (by decide +kernel) (by omega) ?_
                            refine w_load (.aload_n 0) 208 (by decide +kernel) rfl rfl ?_
                            refine w_getI (k := 7) 211 (by decide +kernel) sh_76 rfl ?_
                            refine w_ile 219 214 (by decide +kernel) (fun h35 => ?_) (fun h35 => ?_)
                            · skip
                              refine w_pushN 0 220 (by decide +kernel) ?_
                              refine w_addN 14 221 (by decide +kernel) (by omega) ?_
                              exact w_ret (by decide +kernel) (hq _ N_98 hS trivial)
                            · skip
                              refine w_pushN 16 216 (by decide +kernel) ?_
                              refine w_goto 220 (by decide +kernel) ?_
                              refine w_addN 30 221 (by decide +kernel) (by omega) ?_
                              exact w_ret (by decide +kernel) (hq _ N_98 hS trivial)
                  · skip
                    refine w_pushN 1 148 (by decide +kernel) ?_
                    refine w_goto 152 (by decide +kernel) ?_
                    refine w_load (.aload_n 0) 153 (by decide +kernel) rfl rfl ?_
                    refine w_load (.iload_n 1) 154 (by decide +kernel) rfl rfl ?_
                    refine w_callV1 146 8 5 157 (by decide +kernel) sh_76 (Nat.le_of_ble_eq_true rfl) rfl (by decide) (by omega) ?_
                    obtain ⟨n36, hn36, en36⟩ := inv_81 hS.1 k2
                    refine k_146 hS.1 (by omega) (by omega) en36 (by omega) (fun r37 hr37 => ?_)
                    dsimp only [Option.toList, List.cons_append, List.nil_append]
                    rcases hr37 with ⟨kr37, hsr37, er37⟩
                    · skip
                      have hlr37 := hsr37.1
                      refine w_load (.aload_n 0) 158 (by decide +kernel) rfl rfl ?_
                      refine w_getR (k := 6) (r := 81) 161 (by decide +kernel) sh_76 rfl ?_
                      refine w_load (.iload_n 1) 162 (by decide +kernel) rfl rfl ?_
                      refine w_ialdK 163 (by decide +kernel) sh_81 (by decide) (by omega) en36 ?_
                      refine w_cne 170 166 (by decide +kernel) (fun h38 => ?_) (fun h38 => ?_)
                      · skip
                        refine w_pushN 0 171 (by decide +kernel) ?_
                        refine w_addN 1 172 (by decide +kernel) (by omega) ?_
                        refine w_load (.iload 4) 174 (by decide +kernel) rfl rfl ?_
                        refine w_ieq 181 177 (by decide +kernel) (fun h39 => ?_) (fun h39 => ?_)
                        · skip
                          refine w_pushN 0 182 (by decide +kernel) ?_
                          refine w_addN 1 183 (by decide +kernel) (by omega) ?_
                          refine w_store (ls' := [.ref 76, .int (nI k2), .int (nI ((kr5 / 3))), .int x3_20, .int x4_98, .int (nI 1)]) (.istore 5) 185 (by decide +kernel) rfl rfl ?_
                          refine w_load (.iload 5) 187 (by decide +kernel) rfl rfl ?_
                          refine w_load (.aload_n 0) 188 (by decide +kernel) rfl rfl ?_
                          refine w_pushN 1 189 (by decide +kernel) ?_
                          refine w_callV1 165 8 2 192 (by decide +kernel) sh_76 (Nat.le_of_ble_eq_true rfl) rfl (by decide) (by omega) ?_
                          refine k_165 hS.1 (by omega) (by omega) (fun r40 hr40 => ?_)
                          dsimp only [Option.toList, List.cons_append, List.nil_append]
                          refine w_load (.aload_n 0) 193 (by decide +kernel) rfl rfl ?_
                          refine w_pushN 0 194 (by decide +kernel) ?_
                          refine w_callV1 165 8 2 197 (by decide +kernel) sh_76 (Nat.le_of_ble_eq_true rfl) rfl (by decide) (by omega) ?_
                          refine k_165 hS.1 (by omega) (by omega) (fun r41 hr41 => ?_)
                          dsimp only [Option.toList, List.cons_append, List.nil_append]
                          refine w_ceq 205 200 (by decide +kernel) (fun h42 => ?_) (fun h42 => ?_)
                          · skip
                            refine w_pushN 0 206 (by decide +kernel) ?_
                            refine w_addN 1 207 (by decide +kernel) (by omega) ?_
                            refine w_load (.aload_n 0) 208 (by decide +kernel) rfl rfl ?_
                            refine w_getI (k := 7) 211 (by decide +kernel) sh_76 rfl ?_
                            refine w_ile 219 214 (by decide +kernel) (fun h43 => ?_) (fun h43 => ?_)
                            · skip
                              refine w_pushN 0 220 (by decide +kernel) ?_
                              refine w_addN 1 221 (by decide +kernel) (by omega) ?_
                              exact w_ret (by decide +kernel) (hq _ N_98 hS trivial)
                            · skip
                              refine w_pushN 16 216 (by decide +kernel) ?_
                              refine w_goto 220 (by decide +kernel) ?_
                              refine w_addN 17 221 (by decide +kernel) (by omega) ?_
                              exact w_ret (by decide +kernel) (hq _ N_98 hS trivial)
                          · skip
                            refine w_pushN 8 202 (by decide +kernel) ?_
                            refine w_goto 206 (by decide +kernel) ?_
                            refine w_addN 9 207 (by decide +kernel) (by omega) ?_
                            refine w_load (.aload_n 0) 208 (by decide +kernel) rfl rfl ?_
                            refine w_getI (k := 7) 211 (by decide +kernel) sh_76 rfl ?_
                            refine w_ile 219 214 (by decide +kernel) (fun h44 => ?_) (fun h44 => ?_)
                            · skip
                              refine w_pushN 0 220 (by decide +kernel) ?_
                              refine w_addN 9 221 (by decide +kernel) (by omega) ?_
                              exact w_ret (by decide +kernel) (hq _ N_98 hS trivial)
                            · skip
                              refine w_pushN 16 216 (by decide +kernel) ?_
                              refine w_goto 220 (by decide +kernel) ?_
                              refine w_addN 25 221 (by decide +kernel) (by omega) ?_
                              exact w_ret (by decide +kernel) (hq _ N_98 hS trivial)
                        · skip
                          refine w_pushN 4 178 (by decide +kernel) ?_
                          refine w_goto 182 (by decide +kernel) ?_
                          refine w_addN 5 183 (by decide +kernel) (by omega) ?_
                          refine w_store (ls' := [.ref 76, .int (nI k2), .int (nI ((kr5 / 3))), .int x3_20, .int x4_98, .int (nI 5)]) (.istore 5) 185 (by decide +kernel) rfl rfl ?_
                          refine w_load (.iload 5) 187 (by decide +kernel) rfl rfl ?_
                          refine w_load (.aload_n 0) 188 (by decide +kernel) rfl rfl ?_
                          refine w_pushN 1 189 (by decide +kernel) ?_
                          refine w_callV1 165 8 2 192 (by decide +kernel) sh_76 (Nat.le_of_ble_eq_true rfl) rfl (by decide) (by omega) ?_
                          refine k_165 hS.1 (by omega) (by omega) (fun r45 hr45 => ?_)
                          dsimp only [Option.toList, List.cons_append, List.nil_append]
                          refine w_load (.aload_n 0) 193 (by decide +kernel) rfl rfl ?_
                          refine w_pushN 0 194 (by decide +kernel) ?_
                          refine w_callV1 165 8 2 197 (by decide +kernel) sh_76 (Nat.le_of_ble_eq_true rfl) rfl (by decide) (by omega) ?_
                          refine k_165 hS.1 (by omega) (by omega) (fun r46 hr46 => ?_)
                          dsimp only [Option.toList, List.cons_append, List.nil_append]
                          refine w_ceq 205 200 (by decide +kernel) (fun h47 => ?_) (fun h47 => ?_)
                          · skip
                            refine w_pushN 0 206 (by decide +kernel) ?_
                            refine w_addN 5 207 (by decide +kernel) (by omega) ?_
                            refine w_load (.aload_n 0) 208 (by decide +kernel) rfl rfl ?_
                            refine w_getI (k := 7) 211 (by decide +kernel) sh_76 rfl ?_
                            refine w_ile 219 214 (by decide +kernel) (fun h48 => ?_) (fun h48 => ?_)
                            · skip
                              refine w_pushN 0 220 (by decide +kernel) ?_
                              refine w_addN 5 221 (by decide +kernel) (by omega) ?_
                              exact w_ret (by decide +kernel) (hq _ N_98 hS trivial)
                            · skip
                              refine w_pushN 16 216 (by decide +kernel) ?_
                              refine w_goto 220 (by decide +kernel) ?_
                              refine w_addN 21 221 (by decide +kernel) (by omega) ?_
                              exact w_ret (by decide +kernel) (hq _ N_98 hS trivial)
                          · skip
                            refine w_pushN 8 202 (by decide +kernel) ?_
                            refine w_goto 206 (by decide +kernel) ?_
                            refine w_addN 13 207 (by decide +kernel) (by omega) ?_
                            refine w_load (.aload_n 0) 208 (by decide +kernel) rfl rfl ?_
                            refine w_getI (k := 7) 211 (by decide +kernel) sh_76 rfl ?_
                            refine w_ile 219 214 (by decide +kernel) (fun h49 => ?_) (fun h49 => ?_)
                            · skip
                              refine w_pushN 0 220 (by decide +kernel) ?_
                              refine w_addN 13 221 (by decide +kernel) (by omega) ?_
                              exact w_ret (by decide +kernel) (hq _ N_98 hS trivial)
                            · skip
                              refine w_pushN 16 216 (by decide +kernel) ?_
                              refine w_goto 220 (by decide +kernel) ?_
                              refine w_addN 29 221 (by decide +kernel) (by omega) ?_
                              exact w_ret (by decide +kernel) (hq _ N_98 hS trivial)
                      · skip
                        refine w_pushN 2 167 (by decide +kernel) ?_
                        refine w_goto 171 (by decide +kernel) ?_
                        refine w_addN 3 172 (by decide +kernel) (by omega) ?_
                        refine w_load (.iload 4) 174 (by decide +kernel) rfl rfl ?_
                        refine w_ieq 181 177 (by decide +kernel) (fun h50 => ?_) (fun h50 => ?_)
                        · skip
                          refine w_pushN 0 182 (by decide +kernel) ?_
                          refine w_addN 3 183 (by decide +kernel) (by omega) ?_
                          refine w_store (ls' := [.ref 76, .int (nI k2), .int (nI ((kr5 / 3))), .int x3_20, .int x4_98, .int (nI 3)]) (.istore 5) 185 (by decide +kernel) rfl rfl ?_
                          refine w_load (.iload 5) 187 (by decide +kernel) rfl rfl ?_
                          refine w_load (.aload_n 0) 188 (by decide +kernel) rfl rfl ?_
                          refine w_pushN 1 189 (by decide +kernel) ?_
                          refine w_callV1 165 8 2 192 (by decide +kernel) sh_76 (Nat.le_of_ble_eq_true rfl) rfl (by decide) (by omega) ?_
                          refine k_165 hS.1 (by omega) (by omega) (fun r51 hr51 => ?_)
                          dsimp only [Option.toList, List.cons_append, List.nil_append]
                          refine w_load (.aload_n 0) 193 (by decide +kernel) rfl rfl ?_
                          refine w_pushN 0 194 (by decide +kernel) ?_
                          refine w_callV1 165 8 2 197 (by decide +kernel) sh_76 (Nat.le_of_ble_eq_true rfl) rfl (by decide) (by omega) ?_
                          refine k_165 hS.1 (by omega) (by omega) (fun r52 hr52 => ?_)
                          dsimp only [Option.toList, List.cons_append, List.nil_append]
                          refine w_ceq 205 200 (by decide +kernel) (fun h53 => ?_) (fun h53 => ?_)
                          · skip
                            refine w_pushN 0 206 (by decide +kernel) ?_
                            refine w_addN 3 207 (by decide +kernel) (by omega) ?_
                            refine w_load (.aload_n 0) 208 (by decide +kernel) rfl rfl ?_
                            refine w_getI (k := 7) 211 (by decide +kernel) sh_76 rfl ?_
                            refine w_ile 219 214 (by decide +kernel) (fun h54 => ?_) (fun h54 => ?_)
                            · skip
                              refine w_pushN 0 220 (by decide +kernel) ?_
                              refine w_addN 3 221 (by decide +kernel) (by omega) ?_
                              exact w_ret (by decide +kernel) (hq _ N_98 hS trivial)
                            · skip
                              refine w_pushN 16 216 (by decide +kernel) ?_
                              refine w_goto 220 (by decide +kernel) ?_
                              refine w_addN 19 221 (by decide +kernel) (by omega) ?_
                              exact w_ret (by decide +kernel) (hq _ N_98 hS trivial)
                          · skip
                            refine w_pushN 8 202 (by decide +kernel) ?_
                            refine w_goto 206 (by decide +kernel) ?_
                            refine w_addN 11 207 (by decide +kernel) (by omega) ?_
                            refine w_load (.aload_n 0) 208 (by decide +kernel) rfl rfl ?_
                            refine w_getI (k := 7) 211 (by decide +kernel) sh_76 rfl ?_
                            refine w_ile 219 214 (by decide +kernel) (fun h55 => ?_) (fun h55 => ?_)
                            · skip
                              refine w_pushN 0 220 (by decide +kernel) ?_
                              refine w_addN 11 221 (by decide +kernel) (by omega) ?_
                              exact w_ret (by decide +kernel) (hq _ N_98 hS trivial)
                            · skip
                              refine w_pushN 16 216 (by decide +kernel) ?_
                              refine w_goto 220 (by decide +kernel) ?_
                              refine w_addN 27 221 (by decide +kernel) (by omega) ?_
                              exact w_ret (by decide +kernel) (hq _ N_98 hS trivial)
                        · skip
                          refine w_pushN 4 178 (by decide +kernel) ?_
                          refine w_goto 182 (by decide +kernel) ?_
                          refine w_addN 7 183 (by decide +kernel) (by omega) ?_
                          refine w_store (ls' := [.ref 76, .int (nI k2), .int (nI ((kr5 / 3))), .int x3_20, .int x4_98, .int (nI 7)]) (.istore 5) 185 (by decide +kernel) rfl rfl ?_
                          refine w_load (.iload 5) 187 (by decide +kernel) rfl rfl ?_
                          refine w_load (.aload_n 0) 188 (by decide +kernel) rfl rfl ?_
                          refine w_pushN 1 189 (by decide +kernel) ?_
                          refine w_callV1 165 8 2 192 (by decide +kernel) sh_76 (Nat.le_of_ble_eq_true rfl) rfl (by decide) (by omega) ?_
                          refine k_165 hS.1 (by omega) (by omega) (fun r56 hr56 => ?_)
                          dsimp only [Option.toList, List.cons_append, List.nil_append]
                          refine w_load (.aload_n 0) 193 (by decide +kernel) rfl rfl ?_
                          refine w_pushN 0 194 (by decide +kernel) ?_
                          refine w_callV1 165 8 2 197 (by decide +kernel) sh_76 (Nat.le_of_ble_eq_true rfl) rfl (by decide) (by omega) ?_
                          refine k_165 hS.1 (by omega) (by omega) (fun r57 hr57 => ?_)
                          dsimp only [Option.toList, List.cons_append, List.nil_append]
                          refine w_ceq 205 200 (by decide +kernel) (fun h58 => ?_) (fun h58 => ?_)
                          · skip
                            refine w_pushN 0 206 (by decide +kernel) ?_
                            refine w_addN 7 207 (by decide +kernel) (by omega) ?_
                            refine w_load (.aload_n 0) 208 (by decide +kernel) rfl rfl ?_
                            refine w_getI (k := 7) 211 (by decide +kernel) sh_76 rfl ?_
                            refine w_ile 219 214 (by decide +kernel) (fun h59 => ?_) (fun h59 => ?_)
                            · skip
                              refine w_pushN 0 220 (by decide +kernel) ?_
                              refine w_addN 7 221 (by decide +kernel) (by omega) ?_
                              exact w_ret (by decide +kernel) (hq _ N_98 hS trivial)
                            · skip
                              refine w_pushN 16 216 (by decide +kernel) ?_
                              refine w_goto 220 (by decide +kernel) ?_
                              refine w_addN 23 221 (by decide +kernel) (by omega) ?_
                              exact w_ret (by decide +kernel) (hq _ N_98 hS trivial)
                          · skip
                            refine w_pushN 8 202 (by decide +kernel) ?_
                            refine w_goto 206 (by decide +kernel) ?_
                            refine w_addN 15 207 (by decide +kernel) (by omega) ?_
                            refine w_load (.aload_n 0) 208 (by decide +kernel) rfl rfl ?_
                            refine w_getI (k := 7) 211 (by decide +kernel) sh_76 rfl ?_
                            refine w_ile 219 214 (by decide +kernel) (fun h60 => ?_) (fun h60 => ?_)
                            · skip
                              refine w_pushN 0 220 (by decide +kernel) ?_
                              refine w_addN 15 221 (by decide +kernel) (by omega) ?_
                              exact w_ret (by decide +kernel) (hq _ N_98 hS trivial)
                            · skip
                              refine w_pushN 16 216 (by decide +kernel) ?_
                              refine w_goto 220 (by decide +kernel) ?_
                              refine w_addN 31 221 (by decide +kernel) (by omega) ?_
                              exact w_ret (by decide +kernel) (hq _ N_98 hS trivial)
                · skip
                  refine w_load (.iload 4) 107 (by decide +kernel) rfl rfl ?_
                  refine w_ieq 134 110 (by decide +kernel) (fun h61 => ?_) (fun h61 => ?_)
                  · skip
                    refine w_pushN 0 135 (by decide +kernel) ?_
                    refine w_store (ls' := [.ref 76, .int (nI k2), .int (nI ((kr5 / 3))), .int x3_20, .int (nI 0), .int (nI g5)]) (.istore 4) 137 (by decide +kernel) rfl rfl ?_
                    refine w_iincN (z := 5) (g5 + 1) 140 (by decide +kernel) rfl (Nat.le_of_ble_eq_true rfl) rfl rfl ?_
                    show Wp _ _ _ [.ref 76, .int (nI k2), .int (nI ((kr5 / 3))), .int x3_20, .int (nI 0), .int (nI (g5 + 1))] _ _ _ _
                    refine w_goto 98 (by decide +kernel) ?_
                    exact ih_98 N_98 _ (g5 + 1) hS (by omega) (by omega)
                  · skip
                    refine w_load (.aload_n 0) 111 (by decide +kernel) rfl rfl ?_
                    refine w_getR (k := 2) (r := 78) 114 (by decide +kernel) sh_76 rfl ?_
                    refine w_load (.iload 5) 116 (by decide +kernel) rfl rfl ?_
                    refine w_ialdN 117 (by decide +kernel) sh_78 (by omega) (by omega) ?_
                    refine w_load (.aload_n 0) 118 (by decide +kernel) rfl rfl ?_
                    refine w_getR (k := 2) (r := 78) 121 (by decide +kernel) sh_76 rfl ?_
                    refine w_pushN 22 123 (by decide +kernel) ?_
                    refine w_load (.iload 5) 125 (by decide +kernel) rfl rfl ?_
                    refine w_addN (22 + g5) 126 (by decide +kernel) (by omega) ?_
                    refine w_ialdN 127 (by decide +kernel) sh_78 (by omega) (by omega) ?_
                    refine w_cne 134 130 (by decide +kernel) (fun h62 => ?_) (fun h62 => ?_)
                    · skip
                      refine w_pushN 0 135 (by decide +kernel) ?_
                      refine w_store (ls' := [.ref 76, .int (nI k2), .int (nI ((kr5 / 3))), .int x3_20, .int (nI 0), .int (nI g5)]) (.istore 4) 137 (by decide +kernel) rfl rfl ?_
                      refine w_iincN (z := 5) (g5 + 1) 140 (by decide +kernel) rfl (Nat.le_of_ble_eq_true rfl) rfl rfl ?_
                      show Wp _ _ _ [.ref 76, .int (nI k2), .int (nI ((kr5 / 3))), .int x3_20, .int (nI 0), .int (nI (g5 + 1))] _ _ _ _
                      refine w_goto 98 (by decide +kernel) ?_
                      exact ih_98 N_98 _ (g5 + 1) hS (by omega) (by omega)
                    · skip
                      refine w_pushN 1 131 (by decide +kernel) ?_
                      refine w_goto 135 (by decide +kernel) ?_
                      refine w_store (ls' := [.ref 76, .int (nI k2), .int (nI ((kr5 / 3))), .int x3_20, .int (nI 1), .int (nI g5)]) (.istore 4) 137 (by decide +kernel) rfl rfl ?_
                      refine w_iincN (z := 5) (g5 + 1) 140 (by decide +kernel) rfl (Nat.le_of_ble_eq_true rfl) rfl rfl ?_
                      show Wp _ _ _ [.ref 76, .int (nI k2), .int (nI ((kr5 / 3))), .int x3_20, .int (nI 1), .int (nI (g5 + 1))] _ _ _ _
                      refine w_goto 98 (by decide +kernel) ?_
                      exact ih_98 N_98 _ (g5 + 1) hS (by omega) (by omega)
            exact LP_98 _ Nr8 _ 0 hS (by omega) (Nat.lt_succ_self _)
          · skip
            refine w_load (.iload_n 3) 27 (by decide +kernel) rfl rfl ?_
            refine w_ieq 70 30 (by decide +kernel) (fun h63 => ?_) (fun h63 => ?_)
            · skip
              refine w_pushN 0 71 (by decide +kernel) ?_
              refine w_store (ls' := [.ref 76, .int (nI k2), .int (nI ((kr5 / 3))), .int (nI 0), .int (nI g4), .null]) (.istore_n 3) 72 (by decide +kernel) rfl rfl ?_
              refine w_iincN (z := 4) (g4 + 1) 75 (by decide +kernel) rfl (Nat.le_of_ble_eq_true rfl) rfl rfl ?_
              show Wp _ _ _ [.ref 76, .int (nI k2), .int (nI ((kr5 / 3))), .int (nI 0), .int (nI (g4 + 1)), .null] _ _ _ _
              refine w_goto 20 (by decide +kernel) ?_
              exact ih_20 N_20 _ (g4 + 1) hS (by omega) (by omega)
            · skip
              refine w_load (.aload_n 0) 31 (by decide +kernel) rfl rfl ?_
              refine w_pushN 0 32 (by decide +kernel) ?_
              refine w_load (.aload_n 0) 33 (by decide +kernel) rfl rfl ?_
              refine w_load (.iload_n 1) 34 (by decide +kernel) rfl rfl ?_
              refine w_load (.iload 4) 36 (by decide +kernel) rfl rfl ?_
              refine w_callV2 149 8 4 39 (by decide +kernel) sh_76 (Nat.le_of_ble_eq_true rfl) rfl rfl (by decide) (by omega) ?_
              refine k_149 hS.1 (by omega) (by omega) (by omega) (fun r64 hr64 => ?_)
              dsimp only [Option.toList, List.cons_append, List.nil_append]
              refine w_pushN 4 40 (by decide +kernel) ?_
              refine w_div 41 (by decide +kernel) (by decide) ?_
              refine w_pushN 4 42 (by decide +kernel) ?_
              refine w_rem 43 (by decide +kernel) (by decide) ?_
              refine w_callV2 152 8 6 46 (by decide +kernel) sh_76 (Nat.le_of_ble_eq_true rfl) rfl rfl (by decide) (by omega) ?_
              refine k_152 hS.1 (by omega) (by omega) (fun r65 hr65 => ?_)
              dsimp only [Option.toList, List.cons_append, List.nil_append]
              refine w_ine 70 49 (by decide +kernel) (fun h66 => ?_) (fun h66 => ?_)
              · skip
                refine w_pushN 0 71 (by decide +kernel) ?_
                refine w_store (ls' := [.ref 76, .int (nI k2), .int (nI ((kr5 / 3))), .int (nI 0), .int (nI g4), .null]) (.istore_n 3) 72 (by decide +kernel) rfl rfl ?_
                refine w_iincN (z := 4) (g4 + 1) 75 (by decide +kernel) rfl (Nat.le_of_ble_eq_true rfl) rfl rfl ?_
                show Wp _ _ _ [.ref 76, .int (nI k2), .int (nI ((kr5 / 3))), .int (nI 0), .int (nI (g4 + 1)), .null] _ _ _ _
                refine w_goto 20 (by decide +kernel) ?_
                exact ih_20 N_20 _ (g4 + 1) hS (by omega) (by omega)
              · skip
                refine w_load (.aload_n 0) 50 (by decide +kernel) rfl rfl ?_
                refine w_pushN 0 51 (by decide +kernel) ?_
                refine w_load (.aload_n 0) 52 (by decide +kernel) rfl rfl ?_
                refine w_load (.iload_n 1) 53 (by decide +kernel) rfl rfl ?_
                refine w_load (.iload 4) 55 (by decide +kernel) rfl rfl ?_
                refine w_callV2 149 8 4 58 (by decide +kernel) sh_76 (Nat.le_of_ble_eq_true rfl) rfl rfl (by decide) (by omega) ?_
                refine k_149 hS.1 (by omega) (by omega) (by omega) (fun r67 hr67 => ?_)
                dsimp only [Option.toList, List.cons_append, List.nil_append]
                refine w_pushN 4 59 (by decide +kernel) ?_
                refine w_rem 60 (by decide +kernel) (by decide) ?_
                refine w_callV2 152 8 6 63 (by decide +kernel) sh_76 (Nat.le_of_ble_eq_true rfl) rfl rfl (by decide) (by omega) ?_
                refine k_152 hS.1 (by omega) (by omega) (fun r68 hr68 => ?_)
                dsimp only [Option.toList, List.cons_append, List.nil_append]
                refine w_ine 70 66 (by decide +kernel) (fun h69 => ?_) (fun h69 => ?_)
                · skip
                  refine w_pushN 0 71 (by decide +kernel) ?_
                  refine w_store (ls' := [.ref 76, .int (nI k2), .int (nI ((kr5 / 3))), .int (nI 0), .int (nI g4), .null]) (.istore_n 3) 72 (by decide +kernel) rfl rfl ?_
                  refine w_iincN (z := 4) (g4 + 1) 75 (by decide +kernel) rfl (Nat.le_of_ble_eq_true rfl) rfl rfl ?_
                  show Wp _ _ _ [.ref 76, .int (nI k2), .int (nI ((kr5 / 3))), .int (nI 0), .int (nI (g4 + 1)), .null] _ _ _ _
                  refine w_goto 20 (by decide +kernel) ?_
                  exact ih_20 N_20 _ (g4 + 1) hS (by omega) (by omega)
                · skip
                  refine w_pushN 1 67 (by decide +kernel) ?_
                  refine w_goto 71 (by decide +kernel) ?_
                  refine w_store (ls' := [.ref 76, .int (nI k2), .int (nI ((kr5 / 3))), .int (nI 1), .int (nI g4), .null]) (.istore_n 3) 72 (by decide +kernel) rfl rfl ?_
                  refine w_iincN (z := 4) (g4 + 1) 75 (by decide +kernel) rfl (Nat.le_of_ble_eq_true rfl) rfl rfl ?_
                  show Wp _ _ _ [.ref 76, .int (nI k2), .int (nI ((kr5 / 3))), .int (nI 1), .int (nI (g4 + 1)), .null] _ _ _ _
                  refine w_goto 20 (by decide +kernel) ?_
                  exact ih_20 N_20 _ (g4 + 1) hS (by omega) (by omega)
      exact LP_20 _ N _ 0 hS (by omega) (Nat.lt_succ_self _)
  · skip
    refine w_ine 9 7 (by decide +kernel) (fun hz => absurd hz (by decide)) (fun _ => ?_)
    refine w_push (-1) 8 (by decide +kernel) ?_
    exact w_ret (by decide +kernel) (hq _ N hS trivial)
