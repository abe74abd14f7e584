/-- the tries up to d, each at most 40 -/
def chI (f : Nat → Int32) (n d : Nat) : Prop := ∀ i, 1 ≤ i → i ≤ d → i ≤ n → ∃ t, t ≤ 40 ∧ f i = nI t
def chS (f : Nat → Int32) (n : Nat) : Nat → Nat
  | 0 => 0
  | m + 1 => chS f n m + (41 - (f (m + 1)).toInt.toNat) * 64 ^ (n - (m + 1))
def chM (f : Nat → Int32) (n d : Nat) : Nat := 2 * chS f n (min d n) + (if d = n + 1 then 1 else 0)
theorem chS_eq {f e : Nat → Int32} {n : Nat} : ∀ {m : Nat}, (∀ i, i ≤ m → e i = f i) → chS e n m = chS f n m
  | 0, _ => rfl
  | m + 1, h => by
    unfold chS
    rw [chS_eq (fun i hi => h i (by omega)), h (m + 1) (by omega)]
theorem ch_t {f e : Nat → Int32} {n d : Nat} (_hd : 0 < d) (he : ∀ i, e i = f i) (h : chI f n d) : chI e n (d - 1) := by
  intro i h1 h2 h3
  rw [he i]
  exact h i h1 (by omega) h3
theorem ch_a {f e : Nat → Int32} {n d : Nat} (hd : 0 < d) (he : ∀ i, i ≠ d → e i = f i) (h : chI f n d) : chI e n (d - 1) := by
  intro i h1 h2 h3
  rw [he i (by omega)]
  exact h i h1 (by omega) h3
theorem ch_b {f e : Nat → Int32} {n d t : Nat} (he : ∀ i, i ≠ d → i ≠ d + 1 → e i = f i) (h : chI f n d) (h1 : e d = nI (t + 1)) (ht : t < 40) (h2 : e (d + 1) = nI 0) : chI e n (d + 1) := by
  intro i hi1 hi2 hi3
  by_cases a : i = d
  · subst a; exact ⟨t + 1, by omega, h1⟩
  · by_cases b : i = d + 1
    · subst b; exact ⟨0, by omega, h2⟩
    · rw [he i a b]
      exact h i hi1 (by omega) hi3
theorem cm_t {f e : Nat → Int32} {n d : Nat} (hd : d = n + 1) (he : ∀ i, e i = f i) : chM e n (d - 1) < chM f n d := by
  subst hd
  unfold chM
  have e1 : min (n + 1 - 1) n = n := by omega
  have e2 : min (n + 1) n = n := by omega
  rw [e1, e2, chS_eq (fun i _ => he i), if_pos rfl, if_neg (by omega)]
  omega
theorem nI_nat {n : Nat} (h : n < 2 ^ 31) : (nI n).toInt.toNat = n := by
  rw [nI_toInt h]; omega
theorem cm_a {f e : Nat → Int32} {n d t : Nat} (hd : 0 < d) (hn : d ≤ n) (ht : f d = nI t) (hl : t ≤ 40) (he : ∀ i, i ≠ d → e i = f i) : chM e n (d - 1) < chM f n d := by
  obtain ⟨m, rfl⟩ : ∃ m, d = m + 1 := ⟨d - 1, by omega⟩
  unfold chM
  have e1 : min (m + 1 - 1) n = m := by omega
  have e2 : min (m + 1) n = m + 1 := by omega
  have e3 : chS f n (m + 1) = chS f n m + (41 - (f (m + 1)).toInt.toNat) * 64 ^ (n - (m + 1)) := rfl
  rw [e1, e2, e3, chS_eq (m := m) (fun i hi => he i (by omega)), ht, nI_nat (by omega), if_neg (by omega), if_neg (by omega)]
  have h1 : 1 ≤ (41 - t) * 64 ^ (n - (m + 1)) := Nat.mul_pos (by omega) (Nat.pow_pos (by decide))
  omega
theorem cm_b {f e : Nat → Int32} {n d t : Nat} (hd : 0 < d) (hn : d ≤ n) (ht : f d = nI t) (hl : t < 40) (h1 : e d = nI (t + 1)) (h2 : e (d + 1) = nI 0) (he : ∀ i, i ≠ d → i ≠ d + 1 → e i = f i) : chM e n (d + 1) < chM f n d := by
  obtain ⟨m, rfl⟩ : ∃ m, d = m + 1 := ⟨d - 1, by omega⟩
  unfold chM
  have e2 : min (m + 1) n = m + 1 := by omega
  have e3 : chS f n (m + 1) = chS f n m + (41 - (f (m + 1)).toInt.toNat) * 64 ^ (n - (m + 1)) := rfl
  have e4 : chS e n (m + 1) = chS e n m + (41 - (e (m + 1)).toInt.toNat) * 64 ^ (n - (m + 1)) := rfl
  have e6 : chS e n m = chS f n m := chS_eq (fun i hi => he i (by omega) (by omega))
  rw [ht, nI_nat (by omega)] at e3
  rw [h1, nI_nat (by omega), e6] at e4
  have hp : 41 - t = (41 - (t + 1)) + 1 := by omega
  rw [hp, Nat.add_mul, Nat.one_mul] at e3
  by_cases hc : m + 1 = n
  · have e1 : min (m + 1 + 1) n = m + 1 := by omega
    rw [e1, e2, e3, e4, if_pos (by omega), if_neg (by omega)]
    have : 1 ≤ 64 ^ (n - (m + 1)) := Nat.pow_pos (by decide)
    omega
  · have e1 : min (m + 1 + 1) n = m + 1 + 1 := by omega
    have e5 : chS e n (m + 1 + 1) = chS e n (m + 1) + (41 - (e (m + 1 + 1)).toInt.toNat) * 64 ^ (n - (m + 1 + 1)) := rfl
    rw [h2, nI_nat (by omega)] at e5
    rw [e1, e2, e5, e3, e4, if_neg (by omega), if_neg (by omega)]
    have hq : 64 ^ (n - (m + 1)) = 64 ^ (n - (m + 1 + 1)) * 64 := by
      rw [← Nat.pow_succ]; congr 1; omega
    have : 1 ≤ 64 ^ (n - (m + 1 + 1)) := Nat.pow_pos (by decide)
    rw [hq]
    omega
-- X8_layShortest
set_option maxRecDepth 10000 in
theorem k_171 {d : Nat} {M : Mt} {L : Lt} {Q : Option Value → Mt → Lt → Prop} {g : Nat} {e : Int32} {v : Int32} (hI : Inv M) (hg : g < 5) (hd : 3 ≤ d) (hq : ∀ (r : Int32) (N : Mt), St (fun i k => (i = 78 ∧ 22 ≤ k) ∨ i = 83 ∨ i = 84 ∨ (i = 76 ∧ (k = 7 ∨ k = 11))) M N → True → Q (some (.int r)) N L) : Wp d 171 0 [.ref 76, .int (nI g), .int e, .int v, .null] [] M L Q := by
  refine (show ∀ N : Mt, N = M → St (fun i k => (i = 78 ∧ 22 ≤ k) ∨ i = 83 ∨ i = 84 ∨ (i = 76 ∧ (k = 7 ∨ k = 11))) M N → Wp d 171 0 [.ref 76, .int (nI g), .int e, .int v, .null] [] N L Q from ?_) M rfl (St.rf hI)
  intro N hNM hS
  refine w_load (.aload_n 0) 1 (by decide +kernel) rfl rfl ?_
  refine w_pushN 0 2 (by decide +kernel) ?_
  refine w_load (.iload_n 1) 3 (by decide +kernel) rfl rfl ?_
  refine w_load (.iload_n 2) 4 (by decide +kernel) rfl rfl ?_
  refine w_load (.iload_n 3) 5 (by decide +kernel) rfl rfl ?_
  refine w_callV4 169 8 6 8 (by decide +kernel) sh_76 (Nat.le_of_ble_eq_true rfl) rfl rfl rfl rfl (by decide) (by omega) ?_
  refine k_169 hS.1 (by omega) (by omega) (by omega) (fun r1 hr1 => ?_)
  dsimp only [Option.toList, List.cons_append, List.nil_append]
  refine w_ieq 13 11 (by decide +kernel) (fun h2 => ?_) (fun h2 => ?_)
  · skip
    refine w_pushN 0 14 (by decide +kernel) ?_
    refine w_store (ls' := [.ref 76, .int (nI g), .int e, .int v, .int (nI 0)]) (.istore 4) 16 (by decide +kernel) rfl rfl ?_
    have LP_16 : ∀ (kk : Nat) (N_16 : Mt) (g4 : Nat), St (fun i k => (i = 78 ∧ 22 ≤ k) ∨ i = 83 ∨ i = 84 ∨ (i = 76 ∧ (k = 7 ∨ k = 11))) M N_16 → g4 ≤ 64 → 64 - g4 < kk → Wp d 171 16 [.ref 76, .int (nI g), .int e, .int v, .int (nI g4)] [] N_16 L Q := by
      intro kk
      induction kk with
      | zero => intro N_16 g4 hS hi0_16 hm_16; exact absurd hm_16 (Nat.not_lt_zero _)
      | succ kk ih_16 =>
        intro N_16 g4 hS hi0_16 hm_16
        refine w_load (.iload 4) 18 (by decide +kernel) rfl rfl ?_
        refine w_pushN 64 20 (by decide +kernel) ?_
        refine w_cgeN 67 23 (by decide +kernel) (by omega) (by omega) (fun h3 => ?_) (fun h3 => ?_)
        · skip
          refine w_pushN 0 68 (by decide +kernel) ?_
          refine w_store (ls' := [.ref 76, .int (nI g), .int e, .int v, .int (nI 0)]) (.istore 4) 70 (by decide +kernel) rfl rfl ?_
          have LP_70 : ∀ (kk : Nat) (N_70 : Mt) (g4 : Nat), St (fun i k => (i = 78 ∧ 22 ≤ k) ∨ i = 83 ∨ i = 84 ∨ (i = 76 ∧ (k = 7 ∨ k = 11))) M N_70 → g4 ≤ 4096 → 4096 - g4 < kk → Wp d 171 70 [.ref 76, .int (nI g), .int e, .int v, .int (nI g4)] [] N_70 L Q := by
            intro kk
            induction kk with
            | zero => intro N_70 g4 hS hi0_70 hm_70; exact absurd hm_70 (Nat.not_lt_zero _)
            | succ kk ih_70 =>
              intro N_70 g4 hS hi0_70 hm_70
              refine w_load (.iload 4) 72 (by decide +kernel) rfl rfl ?_
              refine w_pushN 4096 75 (by decide +kernel) ?_
              refine w_cgeN 136 78 (by decide +kernel) (by omega) (by omega) (fun h4 => ?_) (fun h4 => ?_)
              · skip
                refine w_push (-9) 138 (by decide +kernel) ?_
                exact w_ret (by decide +kernel) (hq _ N_70 hS trivial)
              · skip
                refine w_load (.aload_n 0) 79 (by decide +kernel) rfl rfl ?_
                refine w_pushN 0 80 (by decide +kernel) ?_
                refine w_pushN 1 81 (by decide +kernel) ?_
                refine w_callV2 160 8 4 84 (by decide +kernel) sh_76 (Nat.le_of_ble_eq_true rfl) rfl rfl (by decide) (by omega) ?_
                refine k_160 hS.1 (by omega) (by omega) (by omega) (fun Nr5 hTr5 hr5 => ?_)
                have hS := hS.tr hTr5 (by intro i k; first | exact rfl | exact fun h => h.elim | omega | (dsimp only; omega) | (simp only [Hs, Tl, Sc, isHs, isScr, isTs] at *; omega))
                dsimp only [Option.toList, List.nil_append]
                refine w_load (.aload_n 0) 85 (by decide +kernel) rfl rfl ?_
                refine w_pushN 1 86 (by decide +kernel) ?_
                refine w_callV1 158 8 3 89 (by decide +kernel) sh_76 (Nat.le_of_ble_eq_true rfl) rfl (by decide) (by omega) ?_
                refine k_158 hS.1 (by omega) (by omega) (fun Nr6 hTr6 hr6 => ?_)
                have hS := hS.tr hTr6 (by intro i k; first | exact rfl | exact fun h => h.elim | omega | (dsimp only; omega) | (simp only [Hs, Tl, Sc, isHs, isScr, isTs] at *; omega))
                dsimp only [Option.toList, List.nil_append]
                refine w_load (.aload_n 0) 90 (by decide +kernel) rfl rfl ?_
                refine w_pushN 1 91 (by decide +kernel) ?_
                refine w_load (.iload 4) 93 (by decide +kernel) rfl rfl ?_
                refine w_pushN 64 95 (by decide +kernel) ?_
                refine w_divN (g4 / 64) 96 (by decide +kernel) (by decide) (by decide) (by omega) rfl ?_
                refine w_callV2 157 8 7 99 (by decide +kernel) sh_76 (Nat.le_of_ble_eq_true rfl) rfl rfl (by decide) (by omega) ?_
                refine k_157 hS.1 (by omega) (by omega) (fun r7 Nr7 hTr7 hr7 => ?_)
                have hS := hS.tr hTr7 (by intro i k; first | exact rfl | exact fun h => h.elim | omega | (dsimp only; omega) | (simp only [Hs, Tl, Sc, isHs, isScr, isTs] at *; omega))
                dsimp only [Option.toList, List.cons_append, List.nil_append]
                refine w_pure .pop 100 (by decide +kernel) rfl rfl ?_
                refine w_load (.aload_n 0) 101 (by decide +kernel) rfl rfl ?_
                refine w_pushN 1 102 (by decide +kernel) ?_
                refine w_load (.iload 4) 104 (by decide +kernel) rfl rfl ?_
                refine w_pushN 64 106 (by decide +kernel) ?_
                refine w_remN (g4 % 64) 107 (by decide +kernel) (by decide) (by decide) (by omega) rfl ?_
                refine w_callV2 157 8 7 110 (by decide +kernel) sh_76 (Nat.le_of_ble_eq_true rfl) rfl rfl (by decide) (by omega) ?_
                refine k_157 hS.1 (by omega) (by omega) (fun r8 Nr8 hTr8 hr8 => ?_)
                have hS := hS.tr hTr8 (by intro i k; first | exact rfl | exact fun h => h.elim | omega | (dsimp only; omega) | (simp only [Hs, Tl, Sc, isHs, isScr, isTs] at *; omega))
                dsimp only [Option.toList, List.cons_append, List.nil_append]
                refine w_pure .pop 111 (by decide +kernel) rfl rfl ?_
                refine w_load (.aload_n 0) 112 (by decide +kernel) rfl rfl ?_
                refine w_pushN 1 113 (by decide +kernel) ?_
                refine w_load (.iload_n 1) 114 (by decide +kernel) rfl rfl ?_
                refine w_load (.iload_n 2) 115 (by decide +kernel) rfl rfl ?_
                refine w_load (.iload_n 3) 116 (by decide +kernel) rfl rfl ?_
                refine w_callV4 169 8 6 119 (by decide +kernel) sh_76 (Nat.le_of_ble_eq_true rfl) rfl rfl rfl rfl (by decide) (by omega) ?_
                refine k_169 hS.1 (by omega) (by omega) (by omega) (fun r9 hr9 => ?_)
                dsimp only [Option.toList, List.cons_append, List.nil_append]
                refine w_ieq 130 122 (by decide +kernel) (fun h10 => ?_) (fun h10 => ?_)
                · skip
                  refine w_iincN (z := 4) (g4 + 1) 133 (by decide +kernel) rfl (Nat.le_of_ble_eq_true rfl) rfl rfl ?_
                  show Wp _ _ _ [.ref 76, .int (nI g), .int e, .int v, .int (nI (g4 + 1))] _ _ _ _
                  refine w_goto 70 (by decide +kernel) ?_
                  exact ih_70 Nr8 (g4 + 1) hS (by omega) (by omega)
                · skip
                  refine w_load (.aload_n 0) 123 (by decide +kernel) rfl rfl ?_
                  refine w_load (.iload 4) 125 (by decide +kernel) rfl rfl ?_
                  refine w_putE (k := 11) 128 (by decide +kernel) sh_76 rfl hS (rg_76 (by decide)) (by first | exact rfl | omega | (dsimp only; omega) | (simp only [Hs, Tl, Sc, isHs, isScr, isTs] at *; omega)) (fun Nq11 hS hq11 oq11 mq11 => ?_)
                  refine w_pushN 2 129 (by decide +kernel) ?_
                  exact w_ret (by decide +kernel) (hq _ Nq11 hS trivial)
          exact LP_70 _ N_16 0 hS (by omega) (Nat.lt_succ_self _)
        · skip
          refine w_load (.aload_n 0) 24 (by decide +kernel) rfl rfl ?_
          refine w_pushN 0 25 (by decide +kernel) ?_
          refine w_pushN 1 26 (by decide +kernel) ?_
          refine w_callV2 160 8 4 29 (by decide +kernel) sh_76 (Nat.le_of_ble_eq_true rfl) rfl rfl (by decide) (by omega) ?_
          refine k_160 hS.1 (by omega) (by omega) (by omega) (fun Nr12 hTr12 hr12 => ?_)
          have hS := hS.tr hTr12 (by intro i k; first | exact rfl | exact fun h => h.elim | omega | (dsimp only; omega) | (simp only [Hs, Tl, Sc, isHs, isScr, isTs] at *; omega))
          dsimp only [Option.toList, List.nil_append]
          refine w_load (.aload_n 0) 30 (by decide +kernel) rfl rfl ?_
          refine w_pushN 1 31 (by decide +kernel) ?_
          refine w_callV1 158 8 3 34 (by decide +kernel) sh_76 (Nat.le_of_ble_eq_true rfl) rfl (by decide) (by omega) ?_
          refine k_158 hS.1 (by omega) (by omega) (fun Nr13 hTr13 hr13 => ?_)
          have hS := hS.tr hTr13 (by intro i k; first | exact rfl | exact fun h => h.elim | omega | (dsimp only; omega) | (simp only [Hs, Tl, Sc, isHs, isScr, isTs] at *; omega))
          dsimp only [Option.toList, List.nil_append]
          refine w_load (.aload_n 0) 35 (by decide +kernel) rfl rfl ?_
          refine w_pushN 1 36 (by decide +kernel) ?_
          refine w_load (.iload 4) 38 (by decide +kernel) rfl rfl ?_
          refine w_callV2 157 8 7 41 (by decide +kernel) sh_76 (Nat.le_of_ble_eq_true rfl) rfl rfl (by decide) (by omega) ?_
          refine k_157 hS.1 (by omega) (by omega) (fun r14 Nr14 hTr14 hr14 => ?_)
          have hS := hS.tr hTr14 (by intro i k; first | exact rfl | exact fun h => h.elim | omega | (dsimp only; omega) | (simp only [Hs, Tl, Sc, isHs, isScr, isTs] at *; omega))
          dsimp only [Option.toList, List.cons_append, List.nil_append]
          refine w_pure .pop 42 (by decide +kernel) rfl rfl ?_
          refine w_load (.aload_n 0) 43 (by decide +kernel) rfl rfl ?_
          refine w_pushN 1 44 (by decide +kernel) ?_
          refine w_load (.iload_n 1) 45 (by decide +kernel) rfl rfl ?_
          refine w_load (.iload_n 2) 46 (by decide +kernel) rfl rfl ?_
          refine w_load (.iload_n 3) 47 (by decide +kernel) rfl rfl ?_
          refine w_callV4 169 8 6 50 (by decide +kernel) sh_76 (Nat.le_of_ble_eq_true rfl) rfl rfl rfl rfl (by decide) (by omega) ?_
          refine k_169 hS.1 (by omega) (by omega) (by omega) (fun r15 hr15 => ?_)
          dsimp only [Option.toList, List.cons_append, List.nil_append]
          refine w_ieq 61 53 (by decide +kernel) (fun h16 => ?_) (fun h16 => ?_)
          · skip
            refine w_iincN (z := 4) (g4 + 1) 64 (by decide +kernel) rfl (Nat.le_of_ble_eq_true rfl) rfl rfl ?_
            show Wp _ _ _ [.ref 76, .int (nI g), .int e, .int v, .int (nI (g4 + 1))] _ _ _ _
            refine w_goto 16 (by decide +kernel) ?_
            exact ih_16 Nr14 (g4 + 1) hS (by omega) (by omega)
          · skip
            refine w_load (.aload_n 0) 54 (by decide +kernel) rfl rfl ?_
            refine w_load (.iload 4) 56 (by decide +kernel) rfl rfl ?_
            refine w_putE (k := 11) 59 (by decide +kernel) sh_76 rfl hS (rg_76 (by decide)) (by first | exact rfl | omega | (dsimp only; omega) | (simp only [Hs, Tl, Sc, isHs, isScr, isTs] at *; omega)) (fun Nq17 hS hq17 oq17 mq17 => ?_)
            refine w_pushN 1 60 (by decide +kernel) ?_
            exact w_ret (by decide +kernel) (hq _ Nq17 hS trivial)
    exact LP_16 _ N 0 hS (by omega) (Nat.lt_succ_self _)
  · skip
    refine w_pushN 0 12 (by decide +kernel) ?_
    exact w_ret (by decide +kernel) (hq _ N hS trivial)
-- X8_toldDeed
set_option maxRecDepth 10000 in
theorem k_173 {d : Nat} {M : Mt} {L : Lt} {Q : Option Value → Mt → Lt → Prop} {a : Int32} (hI : Inv M)  (hd : 0 ≤ d) (hq : ∀ (r : Int32), True → Q (some (.int r)) M L) : Wp d 173 0 [.int a] [] M L Q := by
  refine w_pushN 100 2 (by decide +kernel) ?_
  refine w_load (.iload_n 0) 3 (by decide +kernel) rfl rfl ?_
  refine w_pushN 16 5 (by decide +kernel) ?_
  refine w_div 6 (by decide +kernel) (by decide) ?_
  refine w_pure .imul 7 (by decide +kernel) rfl rfl ?_
  refine w_pushN 10 9 (by decide +kernel) ?_
  refine w_load (.iload_n 0) 10 (by decide +kernel) rfl rfl ?_
  refine w_pushN 4 11 (by decide +kernel) ?_
  refine w_div 12 (by decide +kernel) (by decide) ?_
  refine w_pushN 4 13 (by decide +kernel) ?_
  refine w_rem 14 (by decide +kernel) (by decide) ?_
  refine w_pure .imul 15 (by decide +kernel) rfl rfl ?_
  refine w_pure .iadd 16 (by decide +kernel) rfl rfl ?_
  refine w_load (.iload_n 0) 17 (by decide +kernel) rfl rfl ?_
  refine w_pushN 4 18 (by decide +kernel) ?_
  refine w_rem 19 (by decide +kernel) (by decide) ?_
  refine w_pure .iadd 20 (by decide +kernel) rfl rfl ?_
  exact w_ret (by decide +kernel) (hq _ trivial)
-- X8_shortestAt
set_option maxRecDepth 10000 in
theorem k_174 {d : Nat} {M : Mt} {L : Lt} {Q : Option Value → Mt → Lt → Prop} {g : Int32} {e : Int32} {v : Int32} {i : Int32} (hI : Inv M)  (hd : 4 ≤ d) (hq : ∀ (r : Int32) (N : Mt), St (fun i k => (i = 78 ∧ 22 ≤ k) ∨ i = 83 ∨ i = 84 ∨ (i = 76 ∧ (k = 7 ∨ k = 11))) M N → True → Q (some (.int r)) N L) : Wp d 174 0 [.ref 76, .int g, .int e, .int v, .int i, .null, .null] [] M L Q := by
  refine (show ∀ N : Mt, N = M → St (fun i k => (i = 78 ∧ 22 ≤ k) ∨ i = 83 ∨ i = 84 ∨ (i = 76 ∧ (k = 7 ∨ k = 11))) M N → Wp d 174 0 [.ref 76, .int g, .int e, .int v, .int i, .null, .null] [] N L Q from ?_) M rfl (St.rf hI)
  intro N hNM hS
  refine w_load (.aload_n 0) 1 (by decide +kernel) rfl rfl ?_
  refine w_load (.iload_n 1) 2 (by decide +kernel) rfl rfl ?_
  refine w_load (.iload_n 2) 3 (by decide +kernel) rfl rfl ?_
  refine w_load (.iload_n 3) 4 (by decide +kernel) rfl rfl ?_
  refine w_callV3 170 8 5 7 (by decide +kernel) sh_76 (Nat.le_of_ble_eq_true rfl) rfl rfl rfl (by decide) (by omega) ?_
  refine k_170 hS.1  (by omega) (fun r1 hr1 => ?_)
  dsimp only [Option.toList, List.cons_append, List.nil_append]
  rcases hr1 with ⟨rfl, kg, hkg, rfl⟩ | hno
  · skip
    refine w_store (ls' := [.ref 76, .int (nI kg), .int e, .int v, .int i, .int (0), .null]) (.istore 5) 9 (by decide +kernel) rfl rfl ?_
    refine w_load (.iload 5) 11 (by decide +kernel) rfl rfl ?_
    refine w_ieq 17 14 (by decide +kernel) (fun _ => ?_) (fun hz => absurd hz (by decide))
    refine w_load (.aload_n 0) 18 (by decide +kernel) rfl rfl ?_
    refine w_load (.iload_n 1) 19 (by decide +kernel) rfl rfl ?_
    refine w_load (.iload_n 2) 20 (by decide +kernel) rfl rfl ?_
    refine w_load (.iload_n 3) 21 (by decide +kernel) rfl rfl ?_
    refine w_callV3 171 8 5 24 (by decide +kernel) sh_76 (Nat.le_of_ble_eq_true rfl) rfl rfl rfl (by decide) (by omega) ?_
    refine k_171 hS.1 (by omega) (by omega) (fun r3 Nr3 hTr3 hr3 => ?_)
    have hS := hS.tr hTr3 (by intro i k; first | exact rfl | exact fun h => h.elim | omega | (dsimp only; omega) | (simp only [Hs, Tl, Sc, isHs, isScr, isTs] at *; omega))
    dsimp only [Option.toList, List.cons_append, List.nil_append]
    refine w_store (ls' := [.ref 76, .int (nI kg), .int e, .int v, .int i, .int (0), .int r3]) (.istore 6) 26 (by decide +kernel) rfl rfl ?_
    refine w_load (.iload 4) 28 (by decide +kernel) rfl rfl ?_
    refine w_pure .i2l 29 (by decide +kernel) rfl rfl ?_
    refine w_pushL (0) 30 (by decide +kernel) ?_
    refine w_load (.iload 6) 32 (by decide +kernel) rfl rfl ?_
    refine w_pushN 1 33 (by decide +kernel) ?_
    refine w_pure .isub 34 (by decide +kernel) rfl rfl ?_
    refine w_pure .i2l 35 (by decide +kernel) rfl rfl ?_
    refine w_callSL 134 6 38 (by decide +kernel) (Nat.le_of_ble_eq_true rfl) rfl (by omega) ?_
    refine k_134 hS.1  (by omega) (fun r4 hr4 => ?_)
    dsimp only [Option.toList, List.cons_append, List.nil_append]
    rcases hr4 with ⟨rfl, hlok6, hhik6⟩ | ⟨rfl, hnok6⟩
    · skip
      refine w_ine 44 41 (by decide +kernel) (fun _ => ?_) (fun hz => absurd hz (by decide))
      refine w_load (.iload 6) 46 (by decide +kernel) rfl rfl ?_
      refine w_pushN 2 47 (by decide +kernel) ?_
      refine w_cne 65 50 (by decide +kernel) (fun h8 => ?_) (fun h8 => ?_)
      · skip
        refine w_load (.aload_n 0) 66 (by decide +kernel) rfl rfl ?_
        refine w_getI (k := 11) 69 (by decide +kernel) sh_76 rfl ?_
        refine w_pushN 64 71 (by decide +kernel) ?_
        refine w_rem 72 (by decide +kernel) (by decide) ?_
        refine w_callS1 173 1 75 (by decide +kernel) (Nat.le_of_ble_eq_true rfl) rfl (by decide) (by omega) ?_
        refine k_173 hS.1  (by omega) (fun r9 hr9 => ?_)
        dsimp only [Option.toList, List.cons_append, List.nil_append]
        exact w_ret (by decide +kernel) (hq _ Nr3 hS trivial)
      · skip
        refine w_load (.iload 4) 52 (by decide +kernel) rfl rfl ?_
        refine w_ine 65 55 (by decide +kernel) (fun h10 => ?_) (fun h10 => ?_)
        · skip
          refine w_load (.aload_n 0) 66 (by decide +kernel) rfl rfl ?_
          refine w_getI (k := 11) 69 (by decide +kernel) sh_76 rfl ?_
          refine w_pushN 64 71 (by decide +kernel) ?_
          refine w_rem 72 (by decide +kernel) (by decide) ?_
          refine w_callS1 173 1 75 (by decide +kernel) (Nat.le_of_ble_eq_true rfl) rfl (by decide) (by omega) ?_
          refine k_173 hS.1  (by omega) (fun r11 hr11 => ?_)
          dsimp only [Option.toList, List.cons_append, List.nil_append]
          exact w_ret (by decide +kernel) (hq _ Nr3 hS trivial)
        · skip
          refine w_load (.aload_n 0) 56 (by decide +kernel) rfl rfl ?_
          refine w_getI (k := 11) 59 (by decide +kernel) sh_76 rfl ?_
          refine w_pushN 64 61 (by decide +kernel) ?_
          refine w_div 62 (by decide +kernel) (by decide) ?_
          refine w_goto 72 (by decide +kernel) ?_
          refine w_callS1 173 1 75 (by decide +kernel) (Nat.le_of_ble_eq_true rfl) rfl (by decide) (by omega) ?_
          refine k_173 hS.1  (by omega) (fun r12 hr12 => ?_)
          dsimp only [Option.toList, List.cons_append, List.nil_append]
          exact w_ret (by decide +kernel) (hq _ Nr3 hS trivial)
    · skip
      refine w_ine 44 41 (by decide +kernel) (fun hz => absurd hz (by decide)) (fun _ => ?_)
      refine w_push (-9) 43 (by decide +kernel) ?_
      exact w_ret (by decide +kernel) (hq _ Nr3 hS trivial)
  · skip
    refine w_store (ls' := [.ref 76, .int g, .int e, .int v, .int i, .int r1, .null]) (.istore 5) 9 (by decide +kernel) rfl rfl ?_
    refine w_load (.iload 5) 11 (by decide +kernel) rfl rfl ?_
    refine w_ieq 17 14 (by decide +kernel) (fun hz => absurd hz hno) (fun _ => ?_)
    refine w_load (.iload 5) 16 (by decide +kernel) rfl rfl ?_
    exact w_ret (by decide +kernel) (hq _ N hS trivial)
-- X8_cut
set_option maxRecDepth 10000 in
theorem k_175 {d : Nat} {M : Mt} {L : Lt} {Q : Option Value → Mt → Lt → Prop} {a : Int32} (hI : Inv M)  (hd : 4 ≤ d) (hq : ∀ (r : Int32) (N : Mt), St (fun i k => (i = 78 ∧ 22 ≤ k) ∨ i = 83 ∨ i = 84 ∨ (i = 76 ∧ (k = 7 ∨ k = 11))) M N → True → Q (some (.int r)) N L) : Wp d 175 0 [.ref 76, .int a, .null, .null, .null, .null] [] M L Q := by
  refine (show ∀ N : Mt, N = M → St (fun i k => (i = 78 ∧ 22 ≤ k) ∨ i = 83 ∨ i = 84 ∨ (i = 76 ∧ (k = 7 ∨ k = 11))) M N → Wp d 175 0 [.ref 76, .int a, .null, .null, .null, .null] [] N L Q from ?_) M rfl (St.rf hI)
  intro N hNM hS
  refine w_load (.iload_n 1) 1 (by decide +kernel) rfl rfl ?_
  refine w_callS1 142 1 4 (by decide +kernel) (Nat.le_of_ble_eq_true rfl) rfl (by decide) (by omega) ?_
  refine k_142 hS.1  (by omega) (fun r1 hr1 => ?_)
  dsimp only [Option.toList, List.cons_append, List.nil_append]
  rcases hr1 with ⟨rfl, k2, hk2, rfl⟩ | ⟨rfl, hnok2⟩
  · skip
    refine w_ine 9 7 (by decide +kernel) (fun _ => ?_) (fun hz => absurd hz (by decide))
    refine w_pushN 1 10 (by decide +kernel) ?_
    refine w_load (.aload_n 0) 11 (by decide +kernel) rfl rfl ?_
    refine w_load (.iload_n 1) 12 (by decide +kernel) rfl rfl ?_
    refine w_callV1 148 8 3 15 (by decide +kernel) sh_76 (Nat.le_of_ble_eq_true rfl) rfl (by decide) (by omega) ?_
    obtain ⟨n4, hn4, en4⟩ := inv_81 hS.1 k2
    refine k_148 hS.1 (by omega) (by omega) en4 (by omega) (fun r5 hr5 => ?_)
    dsimp only [Option.toList, List.cons_append, List.nil_append]
    rcases hr5 with ⟨kr5, hsr5, rfl⟩
    · skip
      have hlr5 := hsr5.1
      refine w_shl1 16 (by decide +kernel) (by omega) (fun p6 hp6 => ?_)
      refine w_pushN 1 17 (by decide +kernel) ?_
      refine w_subN (p6 - 1) 18 (by decide +kernel) (by omega) rfl ?_
      refine w_store (ls' := [.ref 76, .int (nI k2), .int (nI ((p6 - 1))), .null, .null, .null]) (.istore_n 2) 19 (by decide +kernel) rfl rfl ?_
      refine w_load (.iload_n 2) 20 (by decide +kernel) rfl rfl ?_
      refine w_store (ls' := [.ref 76, .int (nI k2), .int (nI ((p6 - 1))), .int (nI ((p6 - 1))), .null, .null]) (.istore_n 3) 21 (by decide +kernel) rfl rfl ?_
      refine w_load (.iload_n 2) 22 (by decide +kernel) rfl rfl ?_
      refine w_store (ls' := [.ref 76, .int (nI k2), .int (nI ((p6 - 1))), .int (nI ((p6 - 1))), .int (nI ((p6 - 1))), .null]) (.istore 4) 24 (by decide +kernel) rfl rfl ?_
      have LP_24 : ∀ (kk : Nat) (N_24 : Mt) (x3_24 : Int32) (x4_24 : Int32), St (fun i k => (i = 78 ∧ 22 ≤ k) ∨ i = 83 ∨ i = 84 ∨ (i = 76 ∧ (k = 7 ∨ k = 11))) M N_24 → (x4_24.toInt + 1).toNat < kk → Wp d 175 24 [.ref 76, .int (nI k2), .int (nI ((p6 - 1))), .int x3_24, .int x4_24, .null] [] N_24 L Q := by
        intro kk
        induction kk with
        | zero => intro N_24 x3_24 x4_24 hS hm_24; exact absurd hm_24 (Nat.not_lt_zero _)
        | succ kk ih_24 =>
          intro N_24 x3_24 x4_24 hS hm_24
          refine w_load (.iload 4) 26 (by decide +kernel) rfl rfl ?_
          refine w_ilt 89 29 (by decide +kernel) (fun h7 => ?_) (fun h7 => ?_)
          · skip
            refine w_load (.iload_n 3) 90 (by decide +kernel) rfl rfl ?_
            exact w_ret (by decide +kernel) (hq _ N_24 hS trivial)
          · skip
            refine w_load (.aload_n 0) 30 (by decide +kernel) rfl rfl ?_
            refine w_pushN 0 31 (by decide +kernel) ?_
            refine w_pushN 1 32 (by decide +kernel) ?_
            refine w_callV2 160 8 4 35 (by decide +kernel) sh_76 (Nat.le_of_ble_eq_true rfl) rfl rfl (by decide) (by omega) ?_
            refine k_160 hS.1 (by omega) (by omega) (by omega) (fun Nr8 hTr8 hr8 => ?_)
            have hS := hS.tr hTr8 (by intro i k; first | exact rfl | exact fun h => h.elim | omega | (dsimp only; omega) | (simp only [Hs, Tl, Sc, isHs, isScr, isTs] at *; omega))
            dsimp only [Option.toList, List.nil_append]
            refine w_load (.aload_n 0) 36 (by decide +kernel) rfl rfl ?_
            refine w_pushN 1 37 (by decide +kernel) ?_
            refine w_load (.iload_n 1) 38 (by decide +kernel) rfl rfl ?_
            refine w_load (.iload 4) 40 (by decide +kernel) rfl rfl ?_
            refine w_callV3 159 8 7 43 (by decide +kernel) sh_76 (Nat.le_of_ble_eq_true rfl) rfl rfl rfl (by decide) (by omega) ?_
            refine k_159 hS.1 (by omega) (by omega) (by omega) (fun r9 Nr9 hTr9 hr9 => ?_)
            have hS := hS.tr hTr9 (by intro i k; first | exact rfl | exact fun h => h.elim | omega | (dsimp only; omega) | (simp only [Hs, Tl, Sc, isHs, isScr, isTs] at *; omega))
            dsimp only [Option.toList, List.cons_append, List.nil_append]
            refine w_load (.iload_n 2) 44 (by decide +kernel) rfl rfl ?_
            refine w_load (.iload 4) 46 (by decide +kernel) rfl rfl ?_
            refine w_push (-1) 47 (by decide +kernel) ?_
            refine w_pure .ixor 48 (by decide +kernel) rfl rfl ?_
            refine w_pure .iand 49 (by decide +kernel) rfl rfl ?_
            refine w_cne 56 52 (by decide +kernel) (fun h10 => ?_) (fun h10 => ?_)
            · skip
              refine w_pushN 0 57 (by decide +kernel) ?_
              refine w_store (ls' := [.ref 76, .int (nI k2), .int (nI ((p6 - 1))), .int x3_24, .int x4_24, .int (nI 0)]) (.istore 5) 59 (by decide +kernel) rfl rfl ?_
              refine w_load (.iload 5) 61 (by decide +kernel) rfl rfl ?_
              refine w_ieq 81 64 (by decide +kernel) (fun _ => ?_) (fun hz => absurd hz (by decide))
              refine w_load (.iload_n 3) 82 (by decide +kernel) rfl rfl ?_
              refine w_store (ls' := [.ref 76, .int (nI k2), .int (nI ((p6 - 1))), .int x3_24, .int x4_24, .int (nI 0)]) (.istore_n 3) 83 (by decide +kernel) rfl rfl ?_
              obtain ⟨v12, ev12⟩ : ∃ y : Int32, y = x4_24 + Int32.ofInt (-1) := ⟨_, rfl⟩
              refine w_store (ls' := [.ref 76, .int (nI k2), .int (nI ((p6 - 1))), .int x3_24, .int v12, .int (nI 0)]) (.iinc 4 (-1)) 86 (by decide +kernel) rfl (by rw [ev12]; rfl) ?_
              refine w_goto 24 (by decide +kernel) ?_
              refine Wp.forget (ls := [.ref 76, .int (nI k2), .int (nI ((p6 - 1))), .int x3_24, .int v12, .null]) ⟨Or.inl rfl, Or.inl rfl, Or.inl rfl, Or.inl rfl, Or.inl rfl, Or.inr ⟨rfl, rfl⟩, trivial⟩ ?_
              exact ih_24 Nr9 _ _ hS  (by have hdm := dec_mu0 (by assumption); subst_vars; omega)
            · skip
              refine w_pushN 1 53 (by decide +kernel) ?_
              refine w_goto 57 (by decide +kernel) ?_
              refine w_store (ls' := [.ref 76, .int (nI k2), .int (nI ((p6 - 1))), .int x3_24, .int x4_24, .int (nI 1)]) (.istore 5) 59 (by decide +kernel) rfl rfl ?_
              refine w_load (.iload 5) 61 (by decide +kernel) rfl rfl ?_
              refine w_ieq 81 64 (by decide +kernel) (fun hz => absurd hz (by decide)) (fun _ => ?_)
              refine w_load (.iload 4) 66 (by decide +kernel) rfl rfl ?_
              refine w_callS1 136 3 69 (by decide +kernel) (Nat.le_of_ble_eq_true rfl) rfl (by decide) (by omega) ?_
              refine k_136 hS.1  (by omega) (fun r14 hr14 => ?_)
              dsimp only [Option.toList, List.cons_append, List.nil_append]
              rcases hr14 with ⟨n15, hn15, rfl⟩
              · skip
                refine w_load (.iload_n 3) 70 (by decide +kernel) rfl rfl ?_
                refine w_callS1 136 3 73 (by decide +kernel) (Nat.le_of_ble_eq_true rfl) rfl (by decide) (by omega) ?_
                refine k_136 hS.1  (by omega) (fun r16 hr16 => ?_)
                dsimp only [Option.toList, List.cons_append, List.nil_append]
                rcases hr16 with ⟨n17, hn17, rfl⟩
                · skip
                  refine w_cgtN 81 76 (by decide +kernel) (by omega) (by omega) (fun h18 => ?_) (fun h18 => ?_)
                  · skip
                    refine w_load (.iload_n 3) 82 (by decide +kernel) rfl rfl ?_
                    refine w_store (ls' := [.ref 76, .int (nI k2), .int (nI ((p6 - 1))), .int x3_24, .int x4_24, .int (nI 1)]) (.istore_n 3) 83 (by decide +kernel) rfl rfl ?_
                    obtain ⟨v19, ev19⟩ : ∃ y : Int32, y = x4_24 + Int32.ofInt (-1) := ⟨_, rfl⟩
                    refine w_store (ls' := [.ref 76, .int (nI k2), .int (nI ((p6 - 1))), .int x3_24, .int v19, .int (nI 1)]) (.iinc 4 (-1)) 86 (by decide +kernel) rfl (by rw [ev19]; rfl) ?_
                    refine w_goto 24 (by decide +kernel) ?_
                    refine Wp.forget (ls := [.ref 76, .int (nI k2), .int (nI ((p6 - 1))), .int x3_24, .int v19, .null]) ⟨Or.inl rfl, Or.inl rfl, Or.inl rfl, Or.inl rfl, Or.inl rfl, Or.inr ⟨rfl, rfl⟩, trivial⟩ ?_
                    exact ih_24 Nr9 _ _ hS  (by have hdm := dec_mu0 (by assumption); subst_vars; omega)
                  · skip
                    refine w_load (.iload 4) 78 (by decide +kernel) rfl rfl ?_
                    refine w_goto 82 (by decide +kernel) ?_
                    refine w_store (ls' := [.ref 76, .int (nI k2), .int (nI ((p6 - 1))), .int x4_24, .int x4_24, .int (nI 1)]) (.istore_n 3) 83 (by decide +kernel) rfl rfl ?_
                    obtain ⟨v20, ev20⟩ : ∃ y : Int32, y = x4_24 + Int32.ofInt (-1) := ⟨_, rfl⟩
                    refine w_store (ls' := [.ref 76, .int (nI k2), .int (nI ((p6 - 1))), .int x4_24, .int v20, .int (nI 1)]) (.iinc 4 (-1)) 86 (by decide +kernel) rfl (by rw [ev20]; rfl) ?_
                    refine w_goto 24 (by decide +kernel) ?_
                    refine Wp.forget (ls := [.ref 76, .int (nI k2), .int (nI ((p6 - 1))), .int x4_24, .int v20, .null]) ⟨Or.inl rfl, Or.inl rfl, Or.inl rfl, Or.inl rfl, Or.inl rfl, Or.inr ⟨rfl, rfl⟩, trivial⟩ ?_
                    exact ih_24 Nr9 _ _ hS  (by have hdm := dec_mu0 (by assumption); subst_vars; omega)
      exact LP_24 _ N _ _ hS  (Nat.lt_succ_self _)
  · skip
    refine w_ine 9 7 (by decide +kernel) (fun hz => absurd hz (by decide)) (fun _ => ?_)
    refine w_push (-1) 8 (by decide +kernel) ?_
    exact w_ret (by decide +kernel) (hq _ N hS trivial)
-- X8_choose
set_option maxRecDepth 10000 in
theorem k_176 {d : Nat} {M : Mt} {L : Lt} {Q : Option Value → Mt → Lt → Prop} {lv k : Nat} {a : Int32} (hI : Inv M) (hlv : lv ≤ 7) (hk : k ≤ 40) (hd : 2 ≤ d) (hq : ∀ (r : Int32) (N : Mt), St (fun i k => (i = 78 ∧ 22 * lv ≤ k ∧ k < 22 * lv + 22)) M N → ((r = 1 ∧ k < 40) ∨ r = 0) → Q (some (.int r)) N L) : Wp d 176 0 [.ref 76, .int (nI lv), .int a, .int (nI k), .null, .null, .null, .null, .null, .null, .null, .null] [] M L Q := by
  refine (show ∀ N : Mt, N = M → St (fun i k => (i = 78 ∧ 22 * lv ≤ k ∧ k < 22 * lv + 22)) M N → Wp d 176 0 [.ref 76, .int (nI lv), .int a, .int (nI k), .null, .null, .null, .null, .null, .null, .null, .null] [] N L Q from ?_) M rfl (St.rf hI)
  intro N hNM hS
  refine w_load (.aload_n 0) 1 (by decide +kernel) rfl rfl ?_
  refine w_load (.iload_n 1) 2 (by decide +kernel) rfl rfl ?_
  refine w_load (.iload_n 2) 3 (by decide +kernel) rfl rfl ?_
  refine w_pushN 4 4 (by decide +kernel) ?_
  refine w_div 5 (by decide +kernel) (by decide) ?_
  refine w_pushN 4 6 (by decide +kernel) ?_
  refine w_rem 7 (by decide +kernel) (by decide) ?_
  refine w_callV2 152 8 6 10 (by decide +kernel) sh_76 (Nat.le_of_ble_eq_true rfl) rfl rfl (by decide) (by omega) ?_
  refine k_152 hS.1 (by omega) (by omega) (fun r1 hr1 => ?_)
  dsimp only [Option.toList, List.cons_append, List.nil_append]
  refine w_store (ls' := [.ref 76, .int (nI lv), .int a, .int (nI k), .int r1, .null, .null, .null, .null, .null, .null, .null]) (.istore 4) 12 (by decide +kernel) rfl rfl ?_
  refine w_load (.aload_n 0) 13 (by decide +kernel) rfl rfl ?_
  refine w_load (.iload_n 1) 14 (by decide +kernel) rfl rfl ?_
  refine w_load (.iload 4) 16 (by decide +kernel) rfl rfl ?_
  refine w_callV2 155 8 5 19 (by decide +kernel) sh_76 (Nat.le_of_ble_eq_true rfl) rfl rfl (by decide) (by omega) ?_
  refine k_155 hS.1 (by omega) (by omega) (fun r2 hr2 => ?_)
  dsimp only [Option.toList, List.cons_append, List.nil_append]
  refine w_store (ls' := [.ref 76, .int (nI lv), .int a, .int (nI k), .int r1, .int r2, .null, .null, .null, .null, .null, .null]) (.istore 5) 21 (by decide +kernel) rfl rfl ?_
  refine w_load (.iload 5) 23 (by decide +kernel) rfl rfl ?_
  refine w_ine 66 26 (by decide +kernel) (fun h3 => ?_) (fun h3 => ?_)
  · skip
    refine w_load (.iload_n 3) 67 (by decide +kernel) rfl rfl ?_
    refine w_store (ls' := [.ref 76, .int (nI lv), .int a, .int (nI k), .int r1, .int r2, .int (nI k), .null, .null, .null, .null, .null]) (.istore 6) 69 (by decide +kernel) rfl rfl ?_
    refine w_pushN 0 70 (by decide +kernel) ?_
    refine w_store (ls' := [.ref 76, .int (nI lv), .int a, .int (nI k), .int r1, .int r2, .int (nI k), .int (nI 0), .null, .null, .null, .null]) (.istore 7) 72 (by decide +kernel) rfl rfl ?_
    have LP_72 : ∀ (kk : Nat) (N_72 : Mt) (g6 : Nat) (g7 : Nat), St (fun i k => (i = 78 ∧ 22 * lv ≤ k ∧ k < 22 * lv + 22)) M N_72 → g7 ≤ 5 → k ≤ g6 + 8 * g7 → g6 ≤ 40 → 5 - g7 < kk → Wp d 176 72 [.ref 76, .int (nI lv), .int a, .int (nI k), .int r1, .int r2, .int (nI g6), .int (nI g7), .null, .null, .null, .null] [] N_72 L Q := by
      intro kk
      induction kk with
      | zero => intro N_72 g6 g7 hS hi0_72 hi1_72 hi2_72 hm_72; exact absurd hm_72 (Nat.not_lt_zero _)
      | succ kk ih_72 =>
        intro N_72 g6 g7 hS hi0_72 hi1_72 hi2_72 hm_72
        refine w_load (.iload 7) 74 (by decide +kernel) rfl rfl ?_
        refine w_load (.aload_n 0) 75 (by decide +kernel) rfl rfl ?_
        refine w_getN (B := 5) (k := 0) 78 (by decide +kernel) sh_76 rfl (inv_g hS.1) (fun n4 hn4 en4 => ?_)
        refine w_cgeN 229 81 (by decide +kernel) (by omega) (by omega) (fun h5 => ?_) (fun h5 => ?_)
        · skip
          refine w_pushN 0 230 (by decide +kernel) ?_
          exact w_retZ (by decide +kernel) (Or.inl rfl) (hq _ N_72 hS (Or.inr rfl))
        · skip
          refine w_load (.iload 5) 83 (by decide +kernel) rfl rfl ?_
          refine w_load (.iload 7) 85 (by decide +kernel) rfl rfl ?_
          refine w_callS2 135 2 88 (by decide +kernel) (Nat.le_of_ble_eq_true rfl) rfl rfl (by decide) (by omega) ?_
          refine k_135 hS.1  (by omega) (fun r6 hr6 => ?_)
          dsimp only [Option.toList, List.cons_append, List.nil_append]
          rcases hr6 with ⟨rfl, hbr6⟩ | ⟨rfl, hbr6⟩
          · skip
            refine w_ieq 109 91 (by decide +kernel) (fun hz => absurd hz (by decide)) (fun _ => ?_)
            refine w_load (.aload_n 0) 92 (by decide +kernel) rfl rfl ?_
            refine w_load (.iload_n 1) 93 (by decide +kernel) rfl rfl ?_
            refine w_load (.iload_n 2) 94 (by decide +kernel) rfl rfl ?_
            refine w_pushN 4 95 (by decide +kernel) ?_
            refine w_rem 96 (by decide +kernel) (by decide) ?_
            refine w_callV2 152 8 6 99 (by decide +kernel) sh_76 (Nat.le_of_ble_eq_true rfl) rfl rfl (by decide) (by omega) ?_
            refine k_152 hS.1 (by omega) (by omega) (fun r8 hr8 => ?_)
            dsimp only [Option.toList, List.cons_append, List.nil_append]
            refine w_pushN 1 100 (by decide +kernel) ?_
            refine w_load (.iload 7) 102 (by decide +kernel) rfl rfl ?_
            refine w_pure .ishl 103 (by decide +kernel) rfl rfl ?_
            refine w_push (-1) 104 (by decide +kernel) ?_
            refine w_pure .ixor 105 (by decide +kernel) rfl rfl ?_
            refine w_pure .iand 106 (by decide +kernel) rfl rfl ?_
            refine w_goto 110 (by decide +kernel) ?_
            refine w_topi (fun v9 ev9 => ?_)
            refine w_store (ls' := [.ref 76, .int (nI lv), .int a, .int (nI k), .int r1, .int r2, .int (nI g6), .int (nI g7), .int v9, .null, .null, .null]) (.istore 8) 112 (by decide +kernel) rfl rfl ?_
            refine w_load (.iload 5) 114 (by decide +kernel) rfl rfl ?_
            refine w_load (.iload 7) 116 (by decide +kernel) rfl rfl ?_
            refine w_callS2 135 2 119 (by decide +kernel) (Nat.le_of_ble_eq_true rfl) rfl rfl (by decide) (by omega) ?_
            refine k_135 hS.1  (by omega) (fun r10 hr10 => ?_)
            dsimp only [Option.toList, List.cons_append, List.nil_append]
            rcases hr10 with ⟨rfl, hbr10⟩ | ⟨rfl, hbr10⟩
            · skip
              refine w_ine 126 122 (by decide +kernel) (fun _ => ?_) (fun hz => absurd hz (by decide))
              refine w_load (.iload 8) 128 (by decide +kernel) rfl rfl ?_
              refine w_ine 135 131 (by decide +kernel) (fun h12 => ?_) (fun h12 => ?_)
              · skip
                refine w_load (.iload 8) 137 (by decide +kernel) rfl rfl ?_
                refine w_callS1 136 3 140 (by decide +kernel) (Nat.le_of_ble_eq_true rfl) rfl (by decide) (by omega) ?_
                refine k_136 hS.1  (by omega) (fun r13 hr13 => ?_)
                dsimp only [Option.toList, List.cons_append, List.nil_append]
                rcases hr13 with ⟨n14, hn14, rfl⟩
                · skip
                  refine w_store (ls' := [.ref 76, .int (nI lv), .int a, .int (nI k), .int r1, .int r2, .int (nI g6), .int (nI g7), .int v9, .int (nI n14), .null, .null]) (.istore 9) 142 (by decide +kernel) rfl rfl ?_
                  refine w_load (.iload 6) 144 (by decide +kernel) rfl rfl ?_
                  refine w_iltN 216 147 (by decide +kernel) (by omega) ?_
                  refine w_load (.iload 6) 149 (by decide +kernel) rfl rfl ?_
                  refine w_load (.iload 9) 151 (by decide +kernel) rfl rfl ?_
                  refine w_cgeN 216 154 (by decide +kernel) (by omega) (by omega) (fun h16 => ?_) (fun h16 => ?_)
                  · skip
                    refine w_load (.iload 6) 218 (by decide +kernel) rfl rfl ?_
                    refine w_load (.iload 9) 220 (by decide +kernel) rfl rfl ?_
                    refine w_subN (g6 - n14) 221 (by decide +kernel) (by omega) rfl ?_
                    refine w_store (ls' := [.ref 76, .int (nI lv), .int a, .int (nI k), .int r1, .int r2, .int (nI ((g6 - n14))), .int (nI g7), .int v9, .int (nI n14), .null, .null]) (.istore 6) 223 (by decide +kernel) rfl rfl ?_
                    refine w_iincN (z := 7) (g7 + 1) 226 (by decide +kernel) rfl (Nat.le_of_ble_eq_true rfl) rfl rfl ?_
                    show Wp _ _ _ [.ref 76, .int (nI lv), .int a, .int (nI k), .int r1, .int r2, .int (nI ((g6 - n14))), .int (nI (g7 + 1)), .int v9, .int (nI n14), .null, .null] _ _ _ _
                    refine w_goto 72 (by decide +kernel) ?_
                    refine Wp.forget (ls := [.ref 76, .int (nI lv), .int a, .int (nI k), .int r1, .int r2, .int (nI ((g6 - n14))), .int (nI (g7 + 1)), .null, .null, .null, .null]) ⟨Or.inl rfl, Or.inl rfl, Or.inl rfl, Or.inl rfl, Or.inl rfl, Or.inl rfl, Or.inl rfl, Or.inl rfl, Or.inr ⟨rfl, rfl⟩, Or.inr ⟨rfl, rfl⟩, Or.inl rfl, Or.inl rfl, trivial⟩ ?_
                    exact ih_72 N_72 ((g6 - n14)) (g7 + 1) hS (by omega) (by omega) (by omega) (by omega)
                  · skip
                    refine w_push (-9) 156 (by decide +kernel) ?_
                    refine w_store (ls' := [.ref 76, .int (nI lv), .int a, .int (nI k), .int r1, .int r2, .int (nI g6), .int (nI g7), .int v9, .int (nI n14), .int (-9), .null]) (.istore 10) 158 (by decide +kernel) rfl rfl ?_
                    refine w_pushN 0 159 (by decide +kernel) ?_
                    refine w_store (ls' := [.ref 76, .int (nI lv), .int a, .int (nI k), .int r1, .int r2, .int (nI g6), .int (nI g7), .int v9, .int (nI n14), .int (-9), .int (nI 0)]) (.istore 11) 161 (by decide +kernel) rfl rfl ?_
                    have LP_161 : ∀ (kk : Nat) (N_161 : Mt) (x6_161 : Int32) (x10_161 : Int32) (g11 : Nat), St (fun i k => (i = 78 ∧ 22 * lv ≤ k ∧ k < 22 * lv + 22)) M N_161 → g11 ≤ 5 → (x10_161 = -9 ∨ ∃ z, z < 5 ∧ x10_161 = nI z) → 5 - g11 < kk → Wp d 176 161 [.ref 76, .int (nI lv), .int a, .int (nI k), .int r1, .int r2, .int x6_161, .int (nI g7), .int v9, .int (nI n14), .int x10_161, .int (nI g11)] [] N_161 L Q := by
                      intro kk
                      induction kk with
                      | zero => intro N_161 x6_161 x10_161 g11 hS hi0_161 hi1_161 hm_161; exact absurd hm_161 (Nat.not_lt_zero _)
                      | succ kk ih_161 =>
                        intro N_161 x6_161 x10_161 g11 hS hi0_161 hi1_161 hm_161
                        refine w_load (.iload 11) 163 (by decide +kernel) rfl rfl ?_
                        refine w_load (.aload_n 0) 164 (by decide +kernel) rfl rfl ?_
                        refine w_getN (B := 5) (k := 0) 167 (by decide +kernel) sh_76 rfl (inv_g hS.1) (fun n17 hn17 en17 => ?_)
                        refine w_cgeN 203 170 (by decide +kernel) (by omega) (by omega) (fun h18 => ?_) (fun h18 => ?_)
                        · skip
                          refine w_load (.aload_n 0) 204 (by decide +kernel) rfl rfl ?_
                          refine w_load (.iload_n 1) 205 (by decide +kernel) rfl rfl ?_
                          refine w_load (.iload_n 2) 206 (by decide +kernel) rfl rfl ?_
                          refine w_load (.iload 7) 208 (by decide +kernel) rfl rfl ?_
                          refine w_load (.iload 10) 210 (by decide +kernel) rfl rfl ?_
                          refine w_callV4 156 8 9 213 (by decide +kernel) sh_76 (Nat.le_of_ble_eq_true rfl) rfl rfl rfl rfl (by decide) (by omega) ?_
                          refine k_156 hS.1 (by omega) (by omega) (by assumption) (by omega) (fun r19 Nr19 hTr19 hr19 => ?_)
                          have kn20 := (hTr19.2 (76) 0 (by (try dsimp only); omega)).trans en17
                          have hS := hS.tr hTr19 (by intro i k; first | exact rfl | exact fun h => h.elim | omega | (dsimp only; omega) | (simp only [Hs, Tl, Sc, isHs, isScr, isTs] at *; omega))
                          dsimp only [Option.toList, List.cons_append, List.nil_append]
                          refine w_pure .pop 214 (by decide +kernel) rfl rfl ?_
                          refine w_pushN 1 215 (by decide +kernel) ?_
                          exact w_retZ (by decide +kernel) (Or.inr rfl) (hq _ Nr19 hS (Or.inl ⟨rfl, by omega⟩))
                        · skip
                          refine w_load (.iload 8) 172 (by decide +kernel) rfl rfl ?_
                          refine w_load (.iload 11) 174 (by decide +kernel) rfl rfl ?_
                          refine w_callS2 135 2 177 (by decide +kernel) (Nat.le_of_ble_eq_true rfl) rfl rfl (by decide) (by omega) ?_
                          refine k_135 hS.1  (by omega) (fun r21 hr21 => ?_)
                          dsimp only [Option.toList, List.cons_append, List.nil_append]
                          rcases hr21 with ⟨rfl, hbr21⟩ | ⟨rfl, hbr21⟩
                          · skip
                            refine w_ieq 197 180 (by decide +kernel) (fun hz => absurd hz (by decide)) (fun _ => ?_)
                            refine w_load (.iload 6) 182 (by decide +kernel) rfl rfl ?_
                            refine w_ine 190 185 (by decide +kernel) (fun h23 => ?_) (fun h23 => ?_)
                            · skip
                              refine w_load (.iload 10) 192 (by decide +kernel) rfl rfl ?_
                              refine w_store (ls' := [.ref 76, .int (nI lv), .int a, .int (nI k), .int r1, .int r2, .int x6_161, .int (nI g7), .int v9, .int (nI n14), .int x10_161, .int (nI g11)]) (.istore 10) 194 (by decide +kernel) rfl rfl ?_
                              obtain ⟨v24, ev24⟩ : ∃ y : Int32, y = x6_161 + Int32.ofInt (-1) := ⟨_, rfl⟩
                              refine w_store (ls' := [.ref 76, .int (nI lv), .int a, .int (nI k), .int r1, .int r2, .int v24, .int (nI g7), .int v9, .int (nI n14), .int x10_161, .int (nI g11)]) (.iinc 6 (-1)) 197 (by decide +kernel) rfl (by rw [ev24]; rfl) ?_
                              refine w_iincN (z := 11) (g11 + 1) 200 (by decide +kernel) rfl (Nat.le_of_ble_eq_true rfl) rfl rfl ?_
                              show Wp _ _ _ [.ref 76, .int (nI lv), .int a, .int (nI k), .int r1, .int r2, .int v24, .int (nI g7), .int v9, .int (nI n14), .int x10_161, .int (nI (g11 + 1))] _ _ _ _
                              refine w_goto 161 (by decide +kernel) ?_
                              exact ih_161 N_161 _ _ (g11 + 1) hS (by first | omega | assumption | exact Or.inr ⟨_, by omega, rfl⟩) (by first | omega | assumption | exact Or.inr ⟨_, by omega, rfl⟩) (by omega)
                            · skip
                              refine w_load (.iload 11) 187 (by decide +kernel) rfl rfl ?_
                              refine w_goto 192 (by decide +kernel) ?_
                              refine w_store (ls' := [.ref 76, .int (nI lv), .int a, .int (nI k), .int r1, .int r2, .int x6_161, .int (nI g7), .int v9, .int (nI n14), .int (nI g11), .int (nI g11)]) (.istore 10) 194 (by decide +kernel) rfl rfl ?_
                              obtain ⟨v25, ev25⟩ : ∃ y : Int32, y = x6_161 + Int32.ofInt (-1) := ⟨_, rfl⟩
                              refine w_store (ls' := [.ref 76, .int (nI lv), .int a, .int (nI k), .int r1, .int r2, .int v25, .int (nI g7), .int v9, .int (nI n14), .int (nI g11), .int (nI g11)]) (.iinc 6 (-1)) 197 (by decide +kernel) rfl (by rw [ev25]; rfl) ?_
                              refine w_iincN (z := 11) (g11 + 1) 200 (by decide +kernel) rfl (Nat.le_of_ble_eq_true rfl) rfl rfl ?_
                              show Wp _ _ _ [.ref 76, .int (nI lv), .int a, .int (nI k), .int r1, .int r2, .int v25, .int (nI g7), .int v9, .int (nI n14), .int (nI g11), .int (nI (g11 + 1))] _ _ _ _
                              refine w_goto 161 (by decide +kernel) ?_
                              exact ih_161 N_161 _ _ (g11 + 1) hS (by first | omega | assumption | exact Or.inr ⟨_, by omega, rfl⟩) (by first | omega | assumption | exact Or.inr ⟨_, by omega, rfl⟩) (by omega)
                          · skip
                            refine w_ieq 197 180 (by decide +kernel) (fun _ => ?_) (fun hz => absurd hz (by decide))
                            refine w_iincN (z := 11) (g11 + 1) 200 (by decide +kernel) rfl (Nat.le_of_ble_eq_true rfl) rfl rfl ?_
                            show Wp _ _ _ [.ref 76, .int (nI lv), .int a, .int (nI k), .int r1, .int r2, .int x6_161, .int (nI g7), .int v9, .int (nI n14), .int x10_161, .int (nI (g11 + 1))] _ _ _ _
                            refine w_goto 161 (by decide +kernel) ?_
                            exact ih_161 N_161 _ _ (g11 + 1) hS (by first | omega | assumption | exact Or.inr ⟨_, by omega, rfl⟩) (by first | omega | assumption | exact Or.inr ⟨_, by omega, rfl⟩) (by omega)
                    exact LP_161 _ N_72 _ _ 0 hS (by first | omega | exact Or.inl rfl) (by first | omega | exact Or.inl rfl) (Nat.lt_succ_self _)
              · skip
                refine w_pushN 1 132 (by decide +kernel) ?_
                refine w_goto 140 (by decide +kernel) ?_
                refine w_store (ls' := [.ref 76, .int (nI lv), .int a, .int (nI k), .int r1, .int r2, .int (nI g6), .int (nI g7), .int v9, .int (nI 1), .null, .null]) (.istore 9) 142 (by decide +kernel) rfl rfl ?_
                refine w_load (.iload 6) 144 (by decide +kernel) rfl rfl ?_
                refine w_iltN 216 147 (by decide +kernel) (by omega) ?_
                refine w_load (.iload 6) 149 (by decide +kernel) rfl rfl ?_
                refine w_load (.iload 9) 151 (by decide +kernel) rfl rfl ?_
                refine w_cgeN 216 154 (by decide +kernel) (by omega) (by omega) (fun h28 => ?_) (fun h28 => ?_)
                · skip
                  refine w_load (.iload 6) 218 (by decide +kernel) rfl rfl ?_
                  refine w_load (.iload 9) 220 (by decide +kernel) rfl rfl ?_
                  refine w_subN (g6 - 1) 221 (by decide +kernel) (by omega) rfl ?_
                  refine w_store (ls' := [.ref 76, .int (nI lv), .int a, .int (nI k), .int r1, .int r2, .int (nI ((g6 - 1))), .int (nI g7), .int v9, .int (nI 1), .null, .null]) (.istore 6) 223 (by decide +kernel) rfl rfl ?_
                  refine w_iincN (z := 7) (g7 + 1) 226 (by decide +kernel) rfl (Nat.le_of_ble_eq_true rfl) rfl rfl ?_
                  show Wp _ _ _ [.ref 76, .int (nI lv), .int a, .int (nI k), .int r1, .int r2, .int (nI ((g6 - 1))), .int (nI (g7 + 1)), .int v9, .int (nI 1), .null, .null] _ _ _ _
                  refine w_goto 72 (by decide +kernel) ?_
                  refine Wp.forget (ls := [.ref 76, .int (nI lv), .int a, .int (nI k), .int r1, .int r2, .int (nI ((g6 - 1))), .int (nI (g7 + 1)), .null, .null, .null, .null]) ⟨Or.inl rfl, Or.inl rfl, Or.inl rfl, Or.inl rfl, Or.inl rfl, Or.inl rfl, Or.inl rfl, Or.inl rfl, Or.inr ⟨rfl, rfl⟩, Or.inr ⟨rfl, rfl⟩, Or.inl rfl, Or.inl rfl, trivial⟩ ?_
                  exact ih_72 N_72 ((g6 - 1)) (g7 + 1) hS (by omega) (by omega) (by omega) (by omega)
                · skip
                  refine w_push (-9) 156 (by decide +kernel) ?_
                  refine w_store (ls' := [.ref 76, .int (nI lv), .int a, .int (nI k), .int r1, .int r2, .int (nI g6), .int (nI g7), .int v9, .int (nI 1), .int (-9), .null]) (.istore 10) 158 (by decide +kernel) rfl rfl ?_
                  refine w_pushN 0 159 (by decide +kernel) ?_
                  refine w_store (ls' := [.ref 76, .int (nI lv), .int a, .int (nI k), .int r1, .int r2, .int (nI g6), .int (nI g7), .int v9, .int (nI 1), .int (-9), .int (nI 0)]) (.istore 11) 161 (by decide +kernel) rfl rfl ?_
                  have LP_161 : ∀ (kk : Nat) (N_161 : Mt) (x6_161 : Int32) (x10_161 : Int32) (g11 : Nat), St (fun i k => (i = 78 ∧ 22 * lv ≤ k ∧ k < 22 * lv + 22)) M N_161 → g11 ≤ 5 → (x10_161 = -9 ∨ ∃ z, z < 5 ∧ x10_161 = nI z) → 5 - g11 < kk → Wp d 176 161 [.ref 76, .int (nI lv), .int a, .int (nI k), .int r1, .int r2, .int x6_161, .int (nI g7), .int v9, .int (nI 1), .int x10_161, .int (nI g11)] [] N_161 L Q := by
                    intro kk
                    induction kk with
                    | zero => intro N_161 x6_161 x10_161 g11 hS hi0_161 hi1_161 hm_161; exact absurd hm_161 (Nat.not_lt_zero _)
                    | succ kk ih_161 =>
                      intro N_161 x6_161 x10_161 g11 hS hi0_161 hi1_161 hm_161
                      refine w_load (.iload 11) 163 (by decide +kernel) rfl rfl ?_
                      refine w_load (.aload_n 0) 164 (by decide +kernel) rfl rfl ?_
                      refine w_getN (B := 5) (k := 0) 167 (by decide +kernel) sh_76 rfl (inv_g hS.1) (fun n29 hn29 en29 => ?_)
                      refine w_cgeN 203 170 (by decide +kernel) (by omega) (by omega) (fun h30 => ?_) (fun h30 => ?_)
                      · skip
                        refine w_load (.aload_n 0) 204 (by decide +kernel) rfl rfl ?_
                        refine w_load (.iload_n 1) 205 (by decide +kernel) rfl rfl ?_
                        refine w_load (.iload_n 2) 206 (by decide +kernel) rfl rfl ?_
                        refine w_load (.iload 7) 208 (by decide +kernel) rfl rfl ?_
                        refine w_load (.iload 10) 210 (by decide +kernel) rfl rfl ?_
                        refine w_callV4 156 8 9 213 (by decide +kernel) sh_76 (Nat.le_of_ble_eq_true rfl) rfl rfl rfl rfl (by decide) (by omega) ?_
                        refine k_156 hS.1 (by omega) (by omega) (by assumption) (by omega) (fun r31 Nr31 hTr31 hr31 => ?_)
                        have kn32 := (hTr31.2 (76) 0 (by (try dsimp only); omega)).trans en29
                        have hS := hS.tr hTr31 (by intro i k; first | exact rfl | exact fun h => h.elim | omega | (dsimp only; omega) | (simp only [Hs, Tl, Sc, isHs, isScr, isTs] at *; omega))
                        dsimp only [Option.toList, List.cons_append, List.nil_append]
                        refine w_pure .pop 214 (by decide +kernel) rfl rfl ?_
                        refine w_pushN 1 215 (by decide +kernel) ?_
                        exact w_retZ (by decide +kernel) (Or.inr rfl) (hq _ Nr31 hS (Or.inl ⟨rfl, by omega⟩))
                      · skip
                        refine w_load (.iload 8) 172 (by decide +kernel) rfl rfl ?_
                        refine w_load (.iload 11) 174 (by decide +kernel) rfl rfl ?_
                        refine w_callS2 135 2 177 (by decide +kernel) (Nat.le_of_ble_eq_true rfl) rfl rfl (by decide) (by omega) ?_
                        refine k_135 hS.1  (by omega) (fun r33 hr33 => ?_)
                        dsimp only [Option.toList, List.cons_append, List.nil_append]
                        rcases hr33 with ⟨rfl, hbr33⟩ | ⟨rfl, hbr33⟩
                        · skip
                          refine w_ieq 197 180 (by decide +kernel) (fun hz => absurd hz (by decide)) (fun _ => ?_)
                          refine w_load (.iload 6) 182 (by decide +kernel) rfl rfl ?_
                          refine w_ine 190 185 (by decide +kernel) (fun h35 => ?_) (fun h35 => ?_)
                          · skip
                            refine w_load (.iload 10) 192 (by decide +kernel) rfl rfl ?_
                            refine w_store (ls' := [.ref 76, .int (nI lv), .int a, .int (nI k), .int r1, .int r2, .int x6_161, .int (nI g7), .int v9, .int (nI 1), .int x10_161, .int (nI g11)]) (.istore 10) 194 (by decide +kernel) rfl rfl ?_
                            obtain ⟨v36, ev36⟩ : ∃ y : Int32, y = x6_161 + Int32.ofInt (-1) := ⟨_, rfl⟩
                            refine w_store (ls' := [.ref 76, .int (nI lv), .int a, .int (nI k), .int r1, .int r2, .int v36, .int (nI g7), .int v9, .int (nI 1), .int x10_161, .int (nI g11)]) (.iinc 6 (-1)) 197 (by decide +kernel) rfl (by rw [ev36]; rfl) ?_
                            refine w_iincN (z := 11) (g11 + 1) 200 (by decide +kernel) rfl (Nat.le_of_ble_eq_true rfl) rfl rfl ?_
                            show Wp _ _ _ [.ref 76, .int (nI lv), .int a, .int (nI k), .int r1, .int r2, .int v36, .int (nI g7), .int v9, .int (nI 1), .int x10_161, .int (nI (g11 + 1))] _ _ _ _
                            refine w_goto 161 (by decide +kernel) ?_
                            exact ih_161 N_161 _ _ (g11 + 1) hS (by first | omega | assumption | exact Or.inr ⟨_, by omega, rfl⟩) (by first | omega | assumption | exact Or.inr ⟨_, by omega, rfl⟩) (by omega)
                          · skip
                            refine w_load (.iload 11) 187 (by decide +kernel) rfl rfl ?_
                            refine w_goto 192 (by decide +kernel) ?_
                            refine w_store (ls' := [.ref 76, .int (nI lv), .int a, .int (nI k), .int r1, .int r2, .int x6_161, .int (nI g7), .int v9, .int (nI 1), .int (nI g11), .int (nI g11)]) (.istore 10) 194 (by decide +kernel) rfl rfl ?_
                            obtain ⟨v37, ev37⟩ : ∃ y : Int32, y = x6_161 + Int32.ofInt (-1) := ⟨_, rfl⟩
                            refine w_store (ls' := [.ref 76, .int (nI lv), .int a, .int (nI k), .int r1, .int r2, .int v37, .int (nI g7), .int v9, .int (nI 1), .int (nI g11), .int (nI g11)]) (.iinc 6 (-1)) 197 (by decide +kernel) rfl (by rw [ev37]; rfl) ?_
                            refine w_iincN (z := 11) (g11 + 1) 200 (by decide +kernel) rfl (Nat.le_of_ble_eq_true rfl) rfl rfl ?_
                            show Wp _ _ _ [.ref 76, .int (nI lv), .int a, .int (nI k), .int r1, .int r2, .int v37, .int (nI g7), .int v9, .int (nI 1), .int (nI g11), .int (nI (g11 + 1))] _ _ _ _
                            refine w_goto 161 (by decide +kernel) ?_
                            exact ih_161 N_161 _ _ (g11 + 1) hS (by first | omega | assumption | exact Or.inr ⟨_, by omega, rfl⟩) (by first | omega | assumption | exact Or.inr ⟨_, by omega, rfl⟩) (by omega)
                        · skip
                          refine w_ieq 197 180 (by decide +kernel) (fun _ => ?_) (fun hz => absurd hz (by decide))
                          refine w_iincN (z := 11) (g11 + 1) 200 (by decide +kernel) rfl (Nat.le_of_ble_eq_true rfl) rfl rfl ?_
                          show Wp _ _ _ [.ref 76, .int (nI lv), .int a, .int (nI k), .int r1, .int r2, .int x6_161, .int (nI g7), .int v9, .int (nI 1), .int x10_161, .int (nI (g11 + 1))] _ _ _ _
                          refine w_goto 161 (by decide +kernel) ?_
                          exact ih_161 N_161 _ _ (g11 + 1) hS (by first | omega | assumption | exact Or.inr ⟨_, by omega, rfl⟩) (by first | omega | assumption | exact Or.inr ⟨_, by omega, rfl⟩) (by omega)
                  exact LP_161 _ N_72 _ _ 0 hS (by first | omega | exact Or.inl rfl) (by first | omega | exact Or.inl rfl) (Nat.lt_succ_self _)
            · skip
              refine w_ine 126 122 (by decide +kernel) (fun hz => absurd hz (by decide)) (fun _ => ?_)
              refine w_pushN 0 123 (by decide +kernel) ?_
              refine w_goto 140 (by decide +kernel) ?_
              refine w_store (ls' := [.ref 76, .int (nI lv), .int a, .int (nI k), .int r1, .int r2, .int (nI g6), .int (nI g7), .int v9, .int (nI 0), .null, .null]) (.istore 9) 142 (by decide +kernel) rfl rfl ?_
              refine w_load (.iload 6) 144 (by decide +kernel) rfl rfl ?_
              refine w_iltN 216 147 (by decide +kernel) (by omega) ?_
              refine w_load (.iload 6) 149 (by decide +kernel) rfl rfl ?_
              refine w_load (.iload 9) 151 (by decide +kernel) rfl rfl ?_
              refine w_cgeN 216 154 (by decide +kernel) (by omega) (by omega) (fun h41 => ?_) (fun h41 => ?_)
              · skip
                refine w_load (.iload 6) 218 (by decide +kernel) rfl rfl ?_
                refine w_load (.iload 9) 220 (by decide +kernel) rfl rfl ?_
                refine w_subN (g6 - 0) 221 (by decide +kernel) (by omega) rfl ?_
                refine w_store (ls' := [.ref 76, .int (nI lv), .int a, .int (nI k), .int r1, .int r2, .int (nI ((g6 - 0))), .int (nI g7), .int v9, .int (nI 0), .null, .null]) (.istore 6) 223 (by decide +kernel) rfl rfl ?_
                refine w_iincN (z := 7) (g7 + 1) 226 (by decide +kernel) rfl (Nat.le_of_ble_eq_true rfl) rfl rfl ?_
                show Wp _ _ _ [.ref 76, .int (nI lv), .int a, .int (nI k), .int r1, .int r2, .int (nI ((g6 - 0))), .int (nI (g7 + 1)), .int v9, .int (nI 0), .null, .null] _ _ _ _
                refine w_goto 72 (by decide +kernel) ?_
                refine Wp.forget (ls := [.ref 76, .int (nI lv), .int a, .int (nI k), .int r1, .int r2, .int (nI ((g6 - 0))), .int (nI (g7 + 1)), .null, .null, .null, .null]) ⟨Or.inl rfl, Or.inl rfl, Or.inl rfl, Or.inl rfl, Or.inl rfl, Or.inl rfl, Or.inl rfl, Or.inl rfl, Or.inr ⟨rfl, rfl⟩, Or.inr ⟨rfl, rfl⟩, Or.inl rfl, Or.inl rfl, trivial⟩ ?_
                exact ih_72 N_72 ((g6 - 0)) (g7 + 1) hS (by omega) (by omega) (by omega) (by omega)
              · skip
                refine w_push (-9) 156 (by decide +kernel) ?_
                refine w_store (ls' := [.ref 76, .int (nI lv), .int a, .int (nI k), .int r1, .int r2, .int (nI g6), .int (nI g7), .int v9, .int (nI 0), .int (-9), .null]) (.istore 10) 158 (by decide +kernel) rfl rfl ?_
                refine w_pushN 0 159 (by decide +kernel) ?_
                refine w_store (ls' := [.ref 76, .int (nI lv), .int a, .int (nI k), .int r1, .int r2, .int (nI g6), .int (nI g7), .int v9, .int (nI 0), .int (-9), .int (nI 0)]) (.istore 11) 161 (by decide +kernel) rfl rfl ?_
                have LP_161 : ∀ (kk : Nat) (N_161 : Mt) (x6_161 : Int32) (x10_161 : Int32) (g11 : Nat), St (fun i k => (i = 78 ∧ 22 * lv ≤ k ∧ k < 22 * lv + 22)) M N_161 → g11 ≤ 5 → (x10_161 = -9 ∨ ∃ z, z < 5 ∧ x10_161 = nI z) → 5 - g11 < kk → Wp d 176 161 [.ref 76, .int (nI lv), .int a, .int (nI k), .int r1, .int r2, .int x6_161, .int (nI g7), .int v9, .int (nI 0), .int x10_161, .int (nI g11)] [] N_161 L Q := by
                  intro kk
                  induction kk with
                  | zero => intro N_161 x6_161 x10_161 g11 hS hi0_161 hi1_161 hm_161; exact absurd hm_161 (Nat.not_lt_zero _)
                  | succ kk ih_161 =>
                    intro N_161 x6_161 x10_161 g11 hS hi0_161 hi1_161 hm_161
                    refine w_load (.iload 11) 163 (by decide +kernel) rfl rfl ?_
                    refine w_load (.aload_n 0) 164 (by decide +kernel) rfl rfl ?_
                    refine w_getN (B := 5) (k := 0) 167 (by decide +kernel) sh_76 rfl (inv_g hS.1) (fun n42 hn42 en42 => ?_)
                    refine w_cgeN 203 170 (by decide +kernel) (by omega) (by omega) (fun h43 => ?_) (fun h43 => ?_)
                    · skip
                      refine w_load (.aload_n 0) 204 (by decide +kernel) rfl rfl ?_
                      refine w_load (.iload_n 1) 205 (by decide +kernel) rfl rfl ?_
                      refine w_load (.iload_n 2) 206 (by decide +kernel) rfl rfl ?_
                      refine w_load (.iload 7) 208 (by decide +kernel) rfl rfl ?_
                      refine w_load (.iload 10) 210 (by decide +kernel) rfl rfl ?_
                      refine w_callV4 156 8 9 213 (by decide +kernel) sh_76 (Nat.le_of_ble_eq_true rfl) rfl rfl rfl rfl (by decide) (by omega) ?_
                      refine k_156 hS.1 (by omega) (by omega) (by assumption) (by omega) (fun r44 Nr44 hTr44 hr44 => ?_)
                      have kn45 := (hTr44.2 (76) 0 (by (try dsimp only); omega)).trans en42
                      have hS := hS.tr hTr44 (by intro i k; first | exact rfl | exact fun h => h.elim | omega | (dsimp only; omega) | (simp only [Hs, Tl, Sc, isHs, isScr, isTs] at *; omega))
                      dsimp only [Option.toList, List.cons_append, List.nil_append]
                      refine w_pure .pop 214 (by decide +kernel) rfl rfl ?_
                      refine w_pushN 1 215 (by decide +kernel) ?_
                      exact w_retZ (by decide +kernel) (Or.inr rfl) (hq _ Nr44 hS (Or.inl ⟨rfl, by omega⟩))
                    · skip
                      refine w_load (.iload 8) 172 (by decide +kernel) rfl rfl ?_
                      refine w_load (.iload 11) 174 (by decide +kernel) rfl rfl ?_
                      refine w_callS2 135 2 177 (by decide +kernel) (Nat.le_of_ble_eq_true rfl) rfl rfl (by decide) (by omega) ?_
                      refine k_135 hS.1  (by omega) (fun r46 hr46 => ?_)
                      dsimp only [Option.toList, List.cons_append, List.nil_append]
                      rcases hr46 with ⟨rfl, hbr46⟩ | ⟨rfl, hbr46⟩
                      · skip
                        refine w_ieq 197 180 (by decide +kernel) (fun hz => absurd hz (by decide)) (fun _ => ?_)
                        refine w_load (.iload 6) 182 (by decide +kernel) rfl rfl ?_
                        refine w_ine 190 185 (by decide +kernel) (fun h48 => ?_) (fun h48 => ?_)
                        · skip
                          refine w_load (.iload 10) 192 (by decide +kernel) rfl rfl ?_
                          refine w_store (ls' := [.ref 76, .int (nI lv), .int a, .int (nI k), .int r1, .int r2, .int x6_161, .int (nI g7), .int v9, .int (nI 0), .int x10_161, .int (nI g11)]) (.istore 10) 194 (by decide +kernel) rfl rfl ?_
                          obtain ⟨v49, ev49⟩ : ∃ y : Int32, y = x6_161 + Int32.ofInt (-1) := ⟨_, rfl⟩
                          refine w_store (ls' := [.ref 76, .int (nI lv), .int a, .int (nI k), .int r1, .int r2, .int v49, .int (nI g7), .int v9, .int (nI 0), .int x10_161, .int (nI g11)]) (.iinc 6 (-1)) 197 (by decide +kernel) rfl (by rw [ev49]; rfl) ?_
                          refine w_iincN (z := 11) (g11 + 1) 200 (by decide +kernel) rfl (Nat.le_of_ble_eq_true rfl) rfl rfl ?_
                          show Wp _ _ _ [.ref 76, .int (nI lv), .int a, .int (nI k), .int r1, .int r2, .int v49, .int (nI g7), .int v9, .int (nI 0), .int x10_161, .int (nI (g11 + 1))] _ _ _ _
                          refine w_goto 161 (by decide +kernel) ?_
                          exact ih_161 N_161 _ _ (g11 + 1) hS (by first | omega | assumption | exact Or.inr ⟨_, by omega, rfl⟩) (by first | omega | assumption | exact Or.inr ⟨_, by omega, rfl⟩) (by omega)
                        · skip
                          refine w_load (.iload 11) 187 (by decide +kernel) rfl rfl ?_
                          refine w_goto 192 (by decide +kernel) ?_
                          refine w_store (ls' := [.ref 76, .int (nI lv), .int a, .int (nI k), .int r1, .int r2, .int x6_161, .int (nI g7), .int v9, .int (nI 0), .int (nI g11), .int (nI g11)]) (.istore 10) 194 (by decide +kernel) rfl rfl ?_
                          obtain ⟨v50, ev50⟩ : ∃ y : Int32, y = x6_161 + Int32.ofInt (-1) := ⟨_, rfl⟩
                          refine w_store (ls' := [.ref 76, .int (nI lv), .int a, .int (nI k), .int r1, .int r2, .int v50, .int (nI g7), .int v9, .int (nI 0), .int (nI g11), .int (nI g11)]) (.iinc 6 (-1)) 197 (by decide +kernel) rfl (by rw [ev50]; rfl) ?_
                          refine w_iincN (z := 11) (g11 + 1) 200 (by decide +kernel) rfl (Nat.le_of_ble_eq_true rfl) rfl rfl ?_
                          show Wp _ _ _ [.ref 76, .int (nI lv), .int a, .int (nI k), .int r1, .int r2, .int v50, .int (nI g7), .int v9, .int (nI 0), .int (nI g11), .int (nI (g11 + 1))] _ _ _ _
                          refine w_goto 161 (by decide +kernel) ?_
                          exact ih_161 N_161 _ _ (g11 + 1) hS (by first | omega | assumption | exact Or.inr ⟨_, by omega, rfl⟩) (by first | omega | assumption | exact Or.inr ⟨_, by omega, rfl⟩) (by omega)
                      · skip
                        refine w_ieq 197 180 (by decide +kernel) (fun _ => ?_) (fun hz => absurd hz (by decide))
                        refine w_iincN (z := 11) (g11 + 1) 200 (by decide +kernel) rfl (Nat.le_of_ble_eq_true rfl) rfl rfl ?_
                        show Wp _ _ _ [.ref 76, .int (nI lv), .int a, .int (nI k), .int r1, .int r2, .int x6_161, .int (nI g7), .int v9, .int (nI 0), .int x10_161, .int (nI (g11 + 1))] _ _ _ _
                        refine w_goto 161 (by decide +kernel) ?_
                        exact ih_161 N_161 _ _ (g11 + 1) hS (by first | omega | assumption | exact Or.inr ⟨_, by omega, rfl⟩) (by first | omega | assumption | exact Or.inr ⟨_, by omega, rfl⟩) (by omega)
                exact LP_161 _ N_72 _ _ 0 hS (by first | omega | exact Or.inl rfl) (by first | omega | exact Or.inl rfl) (Nat.lt_succ_self _)
          · skip
            refine w_ieq 109 91 (by decide +kernel) (fun _ => ?_) (fun hz => absurd hz (by decide))
            refine w_pushN 0 110 (by decide +kernel) ?_
            refine w_store (ls' := [.ref 76, .int (nI lv), .int a, .int (nI k), .int r1, .int r2, .int (nI g6), .int (nI g7), .int (nI 0), .null, .null, .null]) (.istore 8) 112 (by decide +kernel) rfl rfl ?_
            refine w_load (.iload 5) 114 (by decide +kernel) rfl rfl ?_
            refine w_load (.iload 7) 116 (by decide +kernel) rfl rfl ?_
            refine w_callS2 135 2 119 (by decide +kernel) (Nat.le_of_ble_eq_true rfl) rfl rfl (by decide) (by omega) ?_
            refine k_135 hS.1  (by omega) (fun r53 hr53 => ?_)
            dsimp only [Option.toList, List.cons_append, List.nil_append]
            rcases hr53 with ⟨rfl, hbr53⟩ | ⟨rfl, hbr53⟩
            · skip
              refine w_ine 126 122 (by decide +kernel) (fun _ => ?_) (fun hz => absurd hz (by decide))
              refine w_load (.iload 8) 128 (by decide +kernel) rfl rfl ?_
              refine w_ine 135 131 (by decide +kernel) (fun hz => absurd hz (by decide)) (fun _ => ?_)
              refine w_pushN 1 132 (by decide +kernel) ?_
              refine w_goto 140 (by decide +kernel) ?_
              refine w_store (ls' := [.ref 76, .int (nI lv), .int a, .int (nI k), .int r1, .int r2, .int (nI g6), .int (nI g7), .int (nI 0), .int (nI 1), .null, .null]) (.istore 9) 142 (by decide +kernel) rfl rfl ?_
              refine w_load (.iload 6) 144 (by decide +kernel) rfl rfl ?_
              refine w_iltN 216 147 (by decide +kernel) (by omega) ?_
              refine w_load (.iload 6) 149 (by decide +kernel) rfl rfl ?_
              refine w_load (.iload 9) 151 (by decide +kernel) rfl rfl ?_
              refine w_cgeN 216 154 (by decide +kernel) (by omega) (by omega) (fun h57 => ?_) (fun h57 => ?_)
              · skip
                refine w_load (.iload 6) 218 (by decide +kernel) rfl rfl ?_
                refine w_load (.iload 9) 220 (by decide +kernel) rfl rfl ?_
                refine w_subN (g6 - 1) 221 (by decide +kernel) (by omega) rfl ?_
                refine w_store (ls' := [.ref 76, .int (nI lv), .int a, .int (nI k), .int r1, .int r2, .int (nI ((g6 - 1))), .int (nI g7), .int (nI 0), .int (nI 1), .null, .null]) (.istore 6) 223 (by decide +kernel) rfl rfl ?_
                refine w_iincN (z := 7) (g7 + 1) 226 (by decide +kernel) rfl (Nat.le_of_ble_eq_true rfl) rfl rfl ?_
                show Wp _ _ _ [.ref 76, .int (nI lv), .int a, .int (nI k), .int r1, .int r2, .int (nI ((g6 - 1))), .int (nI (g7 + 1)), .int (nI 0), .int (nI 1), .null, .null] _ _ _ _
                refine w_goto 72 (by decide +kernel) ?_
                refine Wp.forget (ls := [.ref 76, .int (nI lv), .int a, .int (nI k), .int r1, .int r2, .int (nI ((g6 - 1))), .int (nI (g7 + 1)), .null, .null, .null, .null]) ⟨Or.inl rfl, Or.inl rfl, Or.inl rfl, Or.inl rfl, Or.inl rfl, Or.inl rfl, Or.inl rfl, Or.inl rfl, Or.inr ⟨rfl, rfl⟩, Or.inr ⟨rfl, rfl⟩, Or.inl rfl, Or.inl rfl, trivial⟩ ?_
                exact ih_72 N_72 ((g6 - 1)) (g7 + 1) hS (by omega) (by omega) (by omega) (by omega)
              · skip
                refine w_push (-9) 156 (by decide +kernel) ?_
                refine w_store (ls' := [.ref 76, .int (nI lv), .int a, .int (nI k), .int r1, .int r2, .int (nI g6), .int (nI g7), .int (nI 0), .int (nI 1), .int (-9), .null]) (.istore 10) 158 (by decide +kernel) rfl rfl ?_
                refine w_pushN 0 159 (by decide +kernel) ?_
                refine w_store (ls' := [.ref 76, .int (nI lv), .int a, .int (nI k), .int r1, .int r2, .int (nI g6), .int (nI g7), .int (nI 0), .int (nI 1), .int (-9), .int (nI 0)]) (.istore 11) 161 (by decide +kernel) rfl rfl ?_
                have LP_161 : ∀ (kk : Nat) (N_161 : Mt) (x6_161 : Int32) (x10_161 : Int32) (g11 : Nat), St (fun i k => (i = 78 ∧ 22 * lv ≤ k ∧ k < 22 * lv + 22)) M N_161 → g11 ≤ 5 → (x10_161 = -9 ∨ ∃ z, z < 5 ∧ x10_161 = nI z) → 5 - g11 < kk → Wp d 176 161 [.ref 76, .int (nI lv), .int a, .int (nI k), .int r1, .int r2, .int x6_161, .int (nI g7), .int (nI 0), .int (nI 1), .int x10_161, .int (nI g11)] [] N_161 L Q := by
                  intro kk
                  induction kk with
                  | zero => intro N_161 x6_161 x10_161 g11 hS hi0_161 hi1_161 hm_161; exact absurd hm_161 (Nat.not_lt_zero _)
                  | succ kk ih_161 =>
                    intro N_161 x6_161 x10_161 g11 hS hi0_161 hi1_161 hm_161
                    refine w_load (.iload 11) 163 (by decide +kernel) rfl rfl ?_
                    refine w_load (.aload_n 0) 164 (by decide +kernel) rfl rfl ?_
                    refine w_getN (B := 5) (k := 0) 167 (by decide +kernel) sh_76 rfl (inv_g hS.1) (fun n58 hn58 en58 => ?_)
                    refine w_cgeN 203 170 (by decide +kernel) (by omega) (by omega) (fun h59 => ?_) (fun h59 => ?_)
                    · skip
                      refine w_load (.aload_n 0) 204 (by decide +kernel) rfl rfl ?_
                      refine w_load (.iload_n 1) 205 (by decide +kernel) rfl rfl ?_
                      refine w_load (.iload_n 2) 206 (by decide +kernel) rfl rfl ?_
                      refine w_load (.iload 7) 208 (by decide +kernel) rfl rfl ?_
                      refine w_load (.iload 10) 210 (by decide +kernel) rfl rfl ?_
                      refine w_callV4 156 8 9 213 (by decide +kernel) sh_76 (Nat.le_of_ble_eq_true rfl) rfl rfl rfl rfl (by decide) (by omega) ?_
                      refine k_156 hS.1 (by omega) (by omega) (by assumption) (by omega) (fun r60 Nr60 hTr60 hr60 => ?_)
                      have kn61 := (hTr60.2 (76) 0 (by (try dsimp only); omega)).trans en58
                      have hS := hS.tr hTr60 (by intro i k; first | exact rfl | exact fun h => h.elim | omega | (dsimp only; omega) | (simp only [Hs, Tl, Sc, isHs, isScr, isTs] at *; omega))
                      dsimp only [Option.toList, List.cons_append, List.nil_append]
                      refine w_pure .pop 214 (by decide +kernel) rfl rfl ?_
                      refine w_pushN 1 215 (by decide +kernel) ?_
                      exact w_retZ (by decide +kernel) (Or.inr rfl) (hq _ Nr60 hS (Or.inl ⟨rfl, by omega⟩))
                    · skip
                      refine w_load (.iload 8) 172 (by decide +kernel) rfl rfl ?_
                      refine w_load (.iload 11) 174 (by decide +kernel) rfl rfl ?_
                      refine w_callS2 135 2 177 (by decide +kernel) (Nat.le_of_ble_eq_true rfl) rfl rfl (by decide) (by omega) ?_
                      refine k_135 hS.1  (by omega) (fun r62 hr62 => ?_)
                      dsimp only [Option.toList, List.cons_append, List.nil_append]
                      rcases hr62 with ⟨rfl, hbr62⟩ | ⟨rfl, hbr62⟩
                      · skip
                        refine w_ieq 197 180 (by decide +kernel) (fun hz => absurd hz (by decide)) (fun _ => ?_)
                        refine w_load (.iload 6) 182 (by decide +kernel) rfl rfl ?_
                        refine w_ine 190 185 (by decide +kernel) (fun h64 => ?_) (fun h64 => ?_)
                        · skip
                          refine w_load (.iload 10) 192 (by decide +kernel) rfl rfl ?_
                          refine w_store (ls' := [.ref 76, .int (nI lv), .int a, .int (nI k), .int r1, .int r2, .int x6_161, .int (nI g7), .int (nI 0), .int (nI 1), .int x10_161, .int (nI g11)]) (.istore 10) 194 (by decide +kernel) rfl rfl ?_
                          obtain ⟨v65, ev65⟩ : ∃ y : Int32, y = x6_161 + Int32.ofInt (-1) := ⟨_, rfl⟩
                          refine w_store (ls' := [.ref 76, .int (nI lv), .int a, .int (nI k), .int r1, .int r2, .int v65, .int (nI g7), .int (nI 0), .int (nI 1), .int x10_161, .int (nI g11)]) (.iinc 6 (-1)) 197 (by decide +kernel) rfl (by rw [ev65]; rfl) ?_
                          refine w_iincN (z := 11) (g11 + 1) 200 (by decide +kernel) rfl (Nat.le_of_ble_eq_true rfl) rfl rfl ?_
                          show Wp _ _ _ [.ref 76, .int (nI lv), .int a, .int (nI k), .int r1, .int r2, .int v65, .int (nI g7), .int (nI 0), .int (nI 1), .int x10_161, .int (nI (g11 + 1))] _ _ _ _
                          refine w_goto 161 (by decide +kernel) ?_
                          exact ih_161 N_161 _ _ (g11 + 1) hS (by first | omega | assumption | exact Or.inr ⟨_, by omega, rfl⟩) (by first | omega | assumption | exact Or.inr ⟨_, by omega, rfl⟩) (by omega)
                        · skip
                          refine w_load (.iload 11) 187 (by decide +kernel) rfl rfl ?_
                          refine w_goto 192 (by decide +kernel) ?_
                          refine w_store (ls' := [.ref 76, .int (nI lv), .int a, .int (nI k), .int r1, .int r2, .int x6_161, .int (nI g7), .int (nI 0), .int (nI 1), .int (nI g11), .int (nI g11)]) (.istore 10) 194 (by decide +kernel) rfl rfl ?_
                          obtain ⟨v66, ev66⟩ : ∃ y : Int32, y = x6_161 + Int32.ofInt (-1) := ⟨_, rfl⟩
                          refine w_store (ls' := [.ref 76, .int (nI lv), .int a, .int (nI k), .int r1, .int r2, .int v66, .int (nI g7), .int (nI 0), .int (nI 1), .int (nI g11), .int (nI g11)]) (.iinc 6 (-1)) 197 (by decide +kernel) rfl (by rw [ev66]; rfl) ?_
                          refine w_iincN (z := 11) (g11 + 1) 200 (by decide +kernel) rfl (Nat.le_of_ble_eq_true rfl) rfl rfl ?_
                          show Wp _ _ _ [.ref 76, .int (nI lv), .int a, .int (nI k), .int r1, .int r2, .int v66, .int (nI g7), .int (nI 0), .int (nI 1), .int (nI g11), .int (nI (g11 + 1))] _ _ _ _
                          refine w_goto 161 (by decide +kernel) ?_
                          exact ih_161 N_161 _ _ (g11 + 1) hS (by first | omega | assumption | exact Or.inr ⟨_, by omega, rfl⟩) (by first | omega | assumption | exact Or.inr ⟨_, by omega, rfl⟩) (by omega)
                      · skip
                        refine w_ieq 197 180 (by decide +kernel) (fun _ => ?_) (fun hz => absurd hz (by decide))
                        refine w_iincN (z := 11) (g11 + 1) 200 (by decide +kernel) rfl (Nat.le_of_ble_eq_true rfl) rfl rfl ?_
                        show Wp _ _ _ [.ref 76, .int (nI lv), .int a, .int (nI k), .int r1, .int r2, .int x6_161, .int (nI g7), .int (nI 0), .int (nI 1), .int x10_161, .int (nI (g11 + 1))] _ _ _ _
                        refine w_goto 161 (by decide +kernel) ?_
                        exact ih_161 N_161 _ _ (g11 + 1) hS (by first | omega | assumption | exact Or.inr ⟨_, by omega, rfl⟩) (by first | omega | assumption | exact Or.inr ⟨_, by omega, rfl⟩) (by omega)
                exact LP_161 _ N_72 _ _ 0 hS (by first | omega | exact Or.inl rfl) (by first | omega | exact Or.inl rfl) (Nat.lt_succ_self _)
            · skip
              refine w_ine 126 122 (by decide +kernel) (fun hz => absurd hz (by decide)) (fun _ => ?_)
              refine w_pushN 0 123 (by decide +kernel) ?_
              refine w_goto 140 (by decide +kernel) ?_
              refine w_store (ls' := [.ref 76, .int (nI lv), .int a, .int (nI k), .int r1, .int r2, .int (nI g6), .int (nI g7), .int (nI 0), .int (nI 0), .null, .null]) (.istore 9) 142 (by decide +kernel) rfl rfl ?_
              refine w_load (.iload 6) 144 (by decide +kernel) rfl rfl ?_
              refine w_iltN 216 147 (by decide +kernel) (by omega) ?_
              refine w_load (.iload 6) 149 (by decide +kernel) rfl rfl ?_
              refine w_load (.iload 9) 151 (by decide +kernel) rfl rfl ?_
              refine w_cgeN 216 154 (by decide +kernel) (by omega) (by omega) (fun h70 => ?_) (fun h70 => ?_)
              · skip
                refine w_load (.iload 6) 218 (by decide +kernel) rfl rfl ?_
                refine w_load (.iload 9) 220 (by decide +kernel) rfl rfl ?_
                refine w_subN (g6 - 0) 221 (by decide +kernel) (by omega) rfl ?_
                refine w_store (ls' := [.ref 76, .int (nI lv), .int a, .int (nI k), .int r1, .int r2, .int (nI ((g6 - 0))), .int (nI g7), .int (nI 0), .int (nI 0), .null, .null]) (.istore 6) 223 (by decide +kernel) rfl rfl ?_
                refine w_iincN (z := 7) (g7 + 1) 226 (by decide +kernel) rfl (Nat.le_of_ble_eq_true rfl) rfl rfl ?_
                show Wp _ _ _ [.ref 76, .int (nI lv), .int a, .int (nI k), .int r1, .int r2, .int (nI ((g6 - 0))), .int (nI (g7 + 1)), .int (nI 0), .int (nI 0), .null, .null] _ _ _ _
                refine w_goto 72 (by decide +kernel) ?_
                refine Wp.forget (ls := [.ref 76, .int (nI lv), .int a, .int (nI k), .int r1, .int r2, .int (nI ((g6 - 0))), .int (nI (g7 + 1)), .null, .null, .null, .null]) ⟨Or.inl rfl, Or.inl rfl, Or.inl rfl, Or.inl rfl, Or.inl rfl, Or.inl rfl, Or.inl rfl, Or.inl rfl, Or.inr ⟨rfl, rfl⟩, Or.inr ⟨rfl, rfl⟩, Or.inl rfl, Or.inl rfl, trivial⟩ ?_
                exact ih_72 N_72 ((g6 - 0)) (g7 + 1) hS (by omega) (by omega) (by omega) (by omega)
              · skip
                refine w_push (-9) 156 (by decide +kernel) ?_
                refine w_store (ls' := [.ref 76, .int (nI lv), .int a, .int (nI k), .int r1, .int r2, .int (nI g6), .int (nI g7), .int (nI 0), .int (nI 0), .int (-9), .null]) (.istore 10) 158 (by decide +kernel) rfl rfl ?_
                refine w_pushN 0 159 (by decide +kernel) ?_
                refine w_store (ls' := [.ref 76, .int (nI lv), .int a, .int (nI k), .int r1, .int r2, .int (nI g6), .int (nI g7), .int (nI 0), .int (nI 0), .int (-9), .int (nI 0)]) (.istore 11) 161 (by decide +kernel) rfl rfl ?_
                have LP_161 : ∀ (kk : Nat) (N_161 : Mt) (x6_161 : Int32) (x10_161 : Int32) (g11 : Nat), St (fun i k => (i = 78 ∧ 22 * lv ≤ k ∧ k < 22 * lv + 22)) M N_161 → g11 ≤ 5 → (x10_161 = -9 ∨ ∃ z, z < 5 ∧ x10_161 = nI z) → 5 - g11 < kk → Wp d 176 161 [.ref 76, .int (nI lv), .int a, .int (nI k), .int r1, .int r2, .int x6_161, .int (nI g7), .int (nI 0), .int (nI 0), .int x10_161, .int (nI g11)] [] N_161 L Q := by
                  intro kk
                  induction kk with
                  | zero => intro N_161 x6_161 x10_161 g11 hS hi0_161 hi1_161 hm_161; exact absurd hm_161 (Nat.not_lt_zero _)
                  | succ kk ih_161 =>
                    intro N_161 x6_161 x10_161 g11 hS hi0_161 hi1_161 hm_161
                    refine w_load (.iload 11) 163 (by decide +kernel) rfl rfl ?_
                    refine w_load (.aload_n 0) 164 (by decide +kernel) rfl rfl ?_
                    refine w_getN (B := 5) (k := 0) 167 (by decide +kernel) sh_76 rfl (inv_g hS.1) (fun n71 hn71 en71 => ?_)
                    refine w_cgeN 203 170 (by decide +kernel) (by omega) (by omega) (fun h72 => ?_) (fun h72 => ?_)
                    · skip
                      refine w_load (.aload_n 0) 204 (by decide +kernel) rfl rfl ?_
                      refine w_load (.iload_n 1) 205 (by decide +kernel) rfl rfl ?_
                      refine w_load (.iload_n 2) 206 (by decide +kernel) rfl rfl ?_
                      refine w_load (.iload 7) 208 (by decide +kernel) rfl rfl ?_
                      refine w_load (.iload 10) 210 (by decide +kernel) rfl rfl ?_
                      refine w_callV4 156 8 9 213 (by decide +kernel) sh_76 (Nat.le_of_ble_eq_true rfl) rfl rfl rfl rfl (by decide) (by omega) ?_
                      refine k_156 hS.1 (by omega) (by omega) (by assumption) (by omega) (fun r73 Nr73 hTr73 hr73 => ?_)
                      have kn74 := (hTr73.2 (76) 0 (by (try dsimp only); omega)).trans en71
                      have hS := hS.tr hTr73 (by intro i k; first | exact rfl | exact fun h => h.elim | omega | (dsimp only; omega) | (simp only [Hs, Tl, Sc, isHs, isScr, isTs] at *; omega))
                      dsimp only [Option.toList, List.cons_append, List.nil_append]
                      refine w_pure .pop 214 (by decide +kernel) rfl rfl ?_
                      refine w_pushN 1 215 (by decide +kernel) ?_
                      exact w_retZ (by decide +kernel) (Or.inr rfl) (hq _ Nr73 hS (Or.inl ⟨rfl, by omega⟩))
                    · skip
                      refine w_load (.iload 8) 172 (by decide +kernel) rfl rfl ?_
                      refine w_load (.iload 11) 174 (by decide +kernel) rfl rfl ?_
                      refine w_callS2 135 2 177 (by decide +kernel) (Nat.le_of_ble_eq_true rfl) rfl rfl (by decide) (by omega) ?_
                      refine k_135 hS.1  (by omega) (fun r75 hr75 => ?_)
                      dsimp only [Option.toList, List.cons_append, List.nil_append]
                      rcases hr75 with ⟨rfl, hbr75⟩ | ⟨rfl, hbr75⟩
                      · skip
                        refine w_ieq 197 180 (by decide +kernel) (fun hz => absurd hz (by decide)) (fun _ => ?_)
                        refine w_load (.iload 6) 182 (by decide +kernel) rfl rfl ?_
                        refine w_ine 190 185 (by decide +kernel) (fun h77 => ?_) (fun h77 => ?_)
                        · skip
                          refine w_load (.iload 10) 192 (by decide +kernel) rfl rfl ?_
                          refine w_store (ls' := [.ref 76, .int (nI lv), .int a, .int (nI k), .int r1, .int r2, .int x6_161, .int (nI g7), .int (nI 0), .int (nI 0), .int x10_161, .int (nI g11)]) (.istore 10) 194 (by decide +kernel) rfl rfl ?_
                          obtain ⟨v78, ev78⟩ : ∃ y : Int32, y = x6_161 + Int32.ofInt (-1) := ⟨_, rfl⟩
                          refine w_store (ls' := [.ref 76, .int (nI lv), .int a, .int (nI k), .int r1, .int r2, .int v78, .int (nI g7), .int (nI 0), .int (nI 0), .int x10_161, .int (nI g11)]) (.iinc 6 (-1)) 197 (by decide +kernel) rfl (by rw [ev78]; rfl) ?_
                          refine w_iincN (z := 11) (g11 + 1) 200 (by decide +kernel) rfl (Nat.le_of_ble_eq_true rfl) rfl rfl ?_
                          show Wp _ _ _ [.ref 76, .int (nI lv), .int a, .int (nI k), .int r1, .int r2, .int v78, .int (nI g7), .int (nI 0), .int (nI 0), .int x10_161, .int (nI (g11 + 1))] _ _ _ _
                          refine w_goto 161 (by decide +kernel) ?_
                          exact ih_161 N_161 _ _ (g11 + 1) hS (by first | omega | assumption | exact Or.inr ⟨_, by omega, rfl⟩) (by first | omega | assumption | exact Or.inr ⟨_, by omega, rfl⟩) (by omega)
                        · skip
                          refine w_load (.iload 11) 187 (by decide +kernel) rfl rfl ?_
                          refine w_goto 192 (by decide +kernel) ?_
                          refine w_store (ls' := [.ref 76, .int (nI lv), .int a, .int (nI k), .int r1, .int r2, .int x6_161, .int (nI g7), .int (nI 0), .int (nI 0), .int (nI g11), .int (nI g11)]) (.istore 10) 194 (by decide +kernel) rfl rfl ?_
                          obtain ⟨v79, ev79⟩ : ∃ y : Int32, y = x6_161 + Int32.ofInt (-1) := ⟨_, rfl⟩
                          refine w_store (ls' := [.ref 76, .int (nI lv), .int a, .int (nI k), .int r1, .int r2, .int v79, .int (nI g7), .int (nI 0), .int (nI 0), .int (nI g11), .int (nI g11)]) (.iinc 6 (-1)) 197 (by decide +kernel) rfl (by rw [ev79]; rfl) ?_
                          refine w_iincN (z := 11) (g11 + 1) 200 (by decide +kernel) rfl (Nat.le_of_ble_eq_true rfl) rfl rfl ?_
                          show Wp _ _ _ [.ref 76, .int (nI lv), .int a, .int (nI k), .int r1, .int r2, .int v79, .int (nI g7), .int (nI 0), .int (nI 0), .int (nI g11), .int (nI (g11 + 1))] _ _ _ _
                          refine w_goto 161 (by decide +kernel) ?_
                          exact ih_161 N_161 _ _ (g11 + 1) hS (by first | omega | assumption | exact Or.inr ⟨_, by omega, rfl⟩) (by first | omega | assumption | exact Or.inr ⟨_, by omega, rfl⟩) (by omega)
                      · skip
                        refine w_ieq 197 180 (by decide +kernel) (fun _ => ?_) (fun hz => absurd hz (by decide))
                        refine w_iincN (z := 11) (g11 + 1) 200 (by decide +kernel) rfl (Nat.le_of_ble_eq_true rfl) rfl rfl ?_
                        show Wp _ _ _ [.ref 76, .int (nI lv), .int a, .int (nI k), .int r1, .int r2, .int x6_161, .int (nI g7), .int (nI 0), .int (nI 0), .int x10_161, .int (nI (g11 + 1))] _ _ _ _
                        refine w_goto 161 (by decide +kernel) ?_
                        exact ih_161 N_161 _ _ (g11 + 1) hS (by first | omega | assumption | exact Or.inr ⟨_, by omega, rfl⟩) (by first | omega | assumption | exact Or.inr ⟨_, by omega, rfl⟩) (by omega)
                exact LP_161 _ N_72 _ _ 0 hS (by first | omega | exact Or.inl rfl) (by first | omega | exact Or.inl rfl) (Nat.lt_succ_self _)
    exact LP_72 _ N k 0 hS (by omega) (by omega) (by omega) (Nat.lt_succ_self _)
  · skip
    refine w_load (.iload_n 3) 27 (by decide +kernel) rfl rfl ?_
    refine w_ineN 56 30 (by decide +kernel) (by omega) (fun h81 => ?_) (fun h81 => ?_)
    · skip
      refine w_load (.iload_n 3) 57 (by decide +kernel) rfl rfl ?_
      refine w_ineN 64 60 (by decide +kernel) (by omega) (fun h82 => ?_) (fun h82 => ?_)
      · skip
        refine w_pushN 0 65 (by decide +kernel) ?_
        exact w_retZ (by decide +kernel) (Or.inl rfl) (hq _ N hS (Or.inr rfl))
      · skip
        refine w_pushN 1 61 (by decide +kernel) ?_
        refine w_goto 65 (by decide +kernel) ?_
        exact w_retZ (by decide +kernel) (Or.inr rfl) (hq _ N hS (Or.inl ⟨rfl, by omega⟩))
    · skip
      refine w_load (.iload 4) 32 (by decide +kernel) rfl rfl ?_
      refine w_ieq 56 35 (by decide +kernel) (fun h83 => ?_) (fun h83 => ?_)
      · skip
        refine w_load (.iload_n 3) 57 (by decide +kernel) rfl rfl ?_
        refine w_ineN 64 60 (by decide +kernel) (by omega) (fun h84 => ?_) (fun h84 => ?_)
        · skip
          refine w_pushN 0 65 (by decide +kernel) ?_
          exact w_retZ (by decide +kernel) (Or.inl rfl) (hq _ N hS (Or.inr rfl))
        · skip
          refine w_pushN 1 61 (by decide +kernel) ?_
          refine w_goto 65 (by decide +kernel) ?_
          exact w_retZ (by decide +kernel) (Or.inr rfl) (hq _ N hS (Or.inl ⟨rfl, by omega⟩))
      · skip
        refine w_load (.aload_n 0) 36 (by decide +kernel) rfl rfl ?_
        refine w_getR (k := 2) (r := 78) 39 (by decide +kernel) sh_76 rfl ?_
        refine w_pushN 22 41 (by decide +kernel) ?_
        refine w_load (.iload_n 1) 42 (by decide +kernel) rfl rfl ?_
        refine w_mulN (22 * lv) 43 (by decide +kernel) rfl ?_
        refine w_pushN 5 44 (by decide +kernel) ?_
        refine w_addN (22 * lv + 5) 45 (by decide +kernel) (by omega) ?_
        refine w_load (.iload 4) 47 (by decide +kernel) rfl rfl ?_
        refine w_callS1 154 2 50 (by decide +kernel) (Nat.le_of_ble_eq_true rfl) rfl (by decide) (by omega) ?_
        refine k_154 hS.1  (by omega) (fun r85 hr85 => ?_)
        dsimp only [Option.toList, List.cons_append, List.nil_append]
        rcases hr85 with ⟨kr85, hkr85, rfl⟩ | ⟨rfl, hnor85⟩
        · skip
          refine w_addN (22 * lv + 5 + kr85) 51 (by decide +kernel) (by omega) ?_
          refine w_pure .dup2 52 (by decide +kernel) rfl rfl ?_
          refine w_ialdN 53 (by decide +kernel) sh_78 (by omega) (by omega) ?_
          refine w_pushN 1 54 (by decide +kernel) ?_
          refine w_pure .isub 55 (by decide +kernel) rfl rfl ?_
          refine w_iastE 56 (by decide +kernel) sh_78 (by omega) (by omega) hS (rg_78 (fun h1 h2 => by first | omega | exact Or.inl rfl | exact Or.inr ⟨_, by omega, rfl⟩ | exact inv_78 hS.1 _ (by omega) (by omega) | exact inv_82 hS.1 _ (by omega) (by omega) | exact inv_89 hS.1 _ (by omega) (by omega))) (by first | exact rfl | omega | (dsimp only; omega) | (simp only [Hs, Tl, Sc, isHs, isScr, isTs] at *; omega)) (fun Nq86 hS hq86 oq86 mq86 => ?_)
          refine w_load (.iload_n 3) 57 (by decide +kernel) rfl rfl ?_
          refine w_ineN 64 60 (by decide +kernel) (by omega) (fun h87 => ?_) (fun h87 => ?_)
          · skip
            refine w_pushN 0 65 (by decide +kernel) ?_
            exact w_retZ (by decide +kernel) (Or.inl rfl) (hq _ Nq86 hS (Or.inr rfl))
          · skip
            refine w_pushN 1 61 (by decide +kernel) ?_
            refine w_goto 65 (by decide +kernel) ?_
            exact w_retZ (by decide +kernel) (Or.inr rfl) (hq _ Nq86 hS (Or.inl ⟨rfl, by omega⟩))
        · skip
          exact (no_least (by assumption) (by assumption) hnor85).elim
-- X8_chosen
set_option maxRecDepth 10000 in
theorem k_177 {d : Nat} {M : Mt} {L : Lt} {Q : Option Value → Mt → Lt → Prop} {a : Int32} {b : Int32} (hI : Inv M)  (hd : 3 ≤ d) (hq : ∀ (r : Int32) (N : Mt), St (fun i k => (i = 78 ∧ 22 ≤ k) ∨ i = 83 ∨ i = 84 ∨ (i = 76 ∧ (k = 7 ∨ k = 11))) M N → True → Q (some (.int r)) N L) : Wp d 177 0 [.ref 76, .int a, .int b, .null, .null, .null, .null, .null] [] M L Q := by
  refine (show ∀ N : Mt, N = M → St (fun i k => (i = 78 ∧ 22 ≤ k) ∨ i = 83 ∨ i = 84 ∨ (i = 76 ∧ (k = 7 ∨ k = 11))) M N → Wp d 177 0 [.ref 76, .int a, .int b, .null, .null, .null, .null, .null] [] N L Q from ?_) M rfl (St.rf hI)
  intro N hNM hS
  refine w_load (.iload_n 1) 1 (by decide +kernel) rfl rfl ?_
  refine w_callS1 142 1 4 (by decide +kernel) (Nat.le_of_ble_eq_true rfl) rfl (by decide) (by omega) ?_
  refine k_142 hS.1  (by omega) (fun r1 hr1 => ?_)
  dsimp only [Option.toList, List.cons_append, List.nil_append]
  rcases hr1 with ⟨rfl, k2, hk2, rfl⟩ | ⟨rfl, hnok2⟩
  · skip
    refine w_ine 9 7 (by decide +kernel) (fun _ => ?_) (fun hz => absurd hz (by decide))
    refine w_load (.aload_n 0) 10 (by decide +kernel) rfl rfl ?_
    refine w_load (.iload_n 1) 11 (by decide +kernel) rfl rfl ?_
    refine w_callV1 148 8 3 14 (by decide +kernel) sh_76 (Nat.le_of_ble_eq_true rfl) rfl (by decide) (by omega) ?_
    obtain ⟨n4, hn4, en4⟩ := inv_81 hS.1 k2
    refine k_148 hS.1 (by omega) (by omega) en4 (by omega) (fun r5 hr5 => ?_)
    dsimp only [Option.toList, List.cons_append, List.nil_append]
    rcases hr5 with ⟨kr5, hsr5, rfl⟩
    · skip
      have hlr5 := hsr5.1
      refine w_store (ls' := [.ref 76, .int (nI k2), .int b, .int (nI ((kr5 / 3))), .null, .null, .null, .null]) (.istore_n 3) 15 (by decide +kernel) rfl rfl ?_
      refine w_load (.iload_n 3) 16 (by decide +kernel) rfl rfl ?_
      refine w_pushN 4 17 (by decide +kernel) ?_
      refine w_cleN 23 20 (by decide +kernel) (by omega) (by omega) (fun h6 => ?_) (fun h6 => ?_)
      · skip
        refine w_pushN 0 24 (by decide +kernel) ?_
        refine w_store (ls' := [.ref 76, .int (nI k2), .int b, .int (nI ((kr5 / 3))), .int (nI 0), .null, .null, .null]) (.istore 4) 26 (by decide +kernel) rfl rfl ?_
        refine w_pushN 1 27 (by decide +kernel) ?_
        refine w_load (.aload_n 0) 28 (by decide +kernel) rfl rfl ?_
        refine w_getN (B := 5) (k := 0) 31 (by decide +kernel) sh_76 rfl (inv_g hS.1) (fun n7 hn7 en7 => ?_)
        refine w_pure .ishl 32 (by decide +kernel) rfl rfl ?_
        refine w_pushN 1 33 (by decide +kernel) ?_
        refine w_pure .isub 34 (by decide +kernel) rfl rfl ?_
        refine w_topi (fun v8 ev8 => ?_)
        refine w_store (ls' := [.ref 76, .int (nI k2), .int b, .int (nI ((kr5 / 3))), .int (nI 0), .int v8, .null, .null]) (.istore 5) 36 (by decide +kernel) rfl rfl ?_
        refine w_pushN 1 37 (by decide +kernel) ?_
        refine w_store (ls' := [.ref 76, .int (nI k2), .int b, .int (nI ((kr5 / 3))), .int (nI 0), .int v8, .int (nI 1), .null]) (.istore 6) 39 (by decide +kernel) rfl rfl ?_
        refine w_load (.aload_n 0) 40 (by decide +kernel) rfl rfl ?_
        refine w_pushN 0 41 (by decide +kernel) ?_
        refine w_pushN 1 42 (by decide +kernel) ?_
        refine w_callV2 160 8 4 45 (by decide +kernel) sh_76 (Nat.le_of_ble_eq_true rfl) rfl rfl (by decide) (by omega) ?_
        refine k_160 hS.1 (by omega) (by omega) (by omega) (fun Nr9 hTr9 hr9 => ?_)
        have kn10 := (hTr9.2 (76) 0 (by (try dsimp only); omega)).trans en7
        have hS := hS.tr hTr9 (by intro i k; first | exact rfl | exact fun h => h.elim | omega | (dsimp only; omega) | (simp only [Hs, Tl, Sc, isHs, isScr, isTs] at *; omega))
        dsimp only [Option.toList, List.nil_append]
        refine w_load (.aload_n 0) 46 (by decide +kernel) rfl rfl ?_
        refine w_pushN 1 47 (by decide +kernel) ?_
        refine w_callV1 158 8 3 50 (by decide +kernel) sh_76 (Nat.le_of_ble_eq_true rfl) rfl (by decide) (by omega) ?_
        refine k_158 hS.1 (by omega) (by omega) (fun Nr11 hTr11 hr11 => ?_)
        have kn12 := (hTr11.2 (76) 0 (by (try dsimp only); omega)).trans kn10
        have hS := hS.tr hTr11 (by intro i k; first | exact rfl | exact fun h => h.elim | omega | (dsimp only; omega) | (simp only [Hs, Tl, Sc, isHs, isScr, isTs] at *; omega))
        dsimp only [Option.toList, List.nil_append]
        refine w_load (.aload_n 0) 51 (by decide +kernel) rfl rfl ?_
        refine w_getR (k := 12) (r := 83) 54 (by decide +kernel) sh_76 rfl ?_
        refine w_pushN 1 55 (by decide +kernel) ?_
        refine w_pushN 0 56 (by decide +kernel) ?_
        refine w_iastE 57 (by decide +kernel) sh_83 (by omega) (by omega) hS (Rg.free (by simp only [Hs, Tl, Sc, isScr, isHs, isTs] at *; omega)) (by first | exact rfl | omega | (dsimp only; omega) | (simp only [Hs, Tl, Sc, isHs, isScr, isTs] at *; omega)) (fun Nq13 hS hq13 oq13 mq13 => ?_)
        have kn14 := (oq13 (76) 0 (by first | omega | (simp only [Hs, Tl, Sc, isHs, isScr, isTs] at *; omega))).trans kn12
        have LP_57 : ∀ (kk : Nat) (N_57 : Mt) (x4_57 : Int32) (x5_57 : Int32) (g6 : Nat), St (fun i k => (i = 78 ∧ 22 ≤ k) ∨ i = 83 ∨ i = 84 ∨ (i = 76 ∧ (k = 7 ∨ k = 11))) M N_57 → g6 ≤ ((kr5 / 3)) + 1 → chI (N_57 83) ((kr5 / 3)) g6 → chM (N_57 83) ((kr5 / 3)) g6 < kk → Wp d 177 57 [.ref 76, .int (nI k2), .int b, .int (nI ((kr5 / 3))), .int x4_57, .int x5_57, .int (nI g6), .null] [] N_57 L Q := by
          intro kk
          induction kk with
          | zero => intro N_57 x4_57 x5_57 g6 hS hi0_57 hi1_57 hm_57; exact absurd hm_57 (Nat.not_lt_zero _)
          | succ kk ih_57 =>
            intro N_57 x4_57 x5_57 g6 hS hi0_57 hi1_57 hm_57
            refine w_load (.iload 6) 59 (by decide +kernel) rfl rfl ?_
            refine w_ileN 170 62 (by decide +kernel) (by omega) (fun h15 => ?_) (fun h15 => ?_)
            · skip
              refine w_load (.iload_n 2) 171 (by decide +kernel) rfl rfl ?_
              refine w_ieq 179 174 (by decide +kernel) (fun h16 => ?_) (fun h16 => ?_)
              · skip
                refine w_load (.iload 4) 181 (by decide +kernel) rfl rfl ?_
                exact w_ret (by decide +kernel) (hq _ N_57 hS trivial)
              · skip
                refine w_load (.iload 5) 176 (by decide +kernel) rfl rfl ?_
                refine w_goto 181 (by decide +kernel) ?_
                exact w_ret (by decide +kernel) (hq _ N_57 hS trivial)
            · skip
              refine w_load (.iload 6) 64 (by decide +kernel) rfl rfl ?_
              refine w_load (.iload_n 3) 65 (by decide +kernel) rfl rfl ?_
              refine w_pushN 1 66 (by decide +kernel) ?_
              refine w_addN ((kr5 / 3) + 1) 67 (by decide +kernel) (by omega) ?_
              refine w_cneN 98 70 (by decide +kernel) (by omega) (by omega) (fun h17 => ?_) (fun h17 => ?_)
              · skip
                obtain ⟨f, hf⟩ : ∃ f : Nat → Int32, f = N_57 83 := ⟨_, rfl⟩
                rw [← hf] at hi1_57 hm_57
                replace hf : ∀ i, N_57 83 i = f i := fun i => by rw [hf]
                obtain ⟨tk, htk, etf⟩ := hi1_57 g6 (by omega) (by omega) (by omega)
                have etk := (hf g6).trans etf
                refine w_load (.aload_n 0) 99 (by decide +kernel) rfl rfl ?_
                refine w_load (.iload 6) 101 (by decide +kernel) rfl rfl ?_
                refine w_load (.iload 6) 103 (by decide +kernel) rfl rfl ?_
                refine w_pushN 1 104 (by decide +kernel) ?_
                refine w_addN (g6 + 1) 105 (by decide +kernel) (by omega) ?_
                refine w_callV2 160 8 4 108 (by decide +kernel) sh_76 (Nat.le_of_ble_eq_true rfl) rfl rfl (by decide) (by omega) ?_
                refine k_160 hS.1 (by omega) (by omega) (by omega) (fun Nr18 hTr18 hr18 => ?_)
                have kn19 := (hTr18.2 (83) g6 (by (try dsimp only); omega)).trans etk
                have hS := hS.tr hTr18 (by intro i k; first | exact rfl | exact fun h => h.elim | omega | (dsimp only; omega) | (simp only [Hs, Tl, Sc, isHs, isScr, isTs] at *; omega))
                have hf : ∀ i, Nr18 83 i = f i := fun i => (hTr18.2 83 i (by (try dsimp only); omega)).trans (hf i)
                dsimp only [Option.toList, List.nil_append]
                refine w_load (.aload_n 0) 109 (by decide +kernel) rfl rfl ?_
                refine w_load (.iload 6) 111 (by decide +kernel) rfl rfl ?_
                refine w_pushN 1 112 (by decide +kernel) ?_
                refine w_addN (g6 + 1) 113 (by decide +kernel) (by omega) ?_
                refine w_load (.aload_n 0) 114 (by decide +kernel) rfl rfl ?_
                refine w_load (.iload_n 1) 115 (by decide +kernel) rfl rfl ?_
                refine w_load (.iload 6) 117 (by decide +kernel) rfl rfl ?_
                refine w_pushN 1 118 (by decide +kernel) ?_
                refine w_subN (g6 - 1) 119 (by decide +kernel) (by omega) rfl ?_
                refine w_callV2 149 8 4 122 (by decide +kernel) sh_76 (Nat.le_of_ble_eq_true rfl) rfl rfl (by decide) (by omega) ?_
                refine k_149 hS.1 (by omega) (by omega) (by omega) (fun r20 hr20 => ?_)
                dsimp only [Option.toList, List.cons_append, List.nil_append]
                refine w_load (.aload_n 0) 123 (by decide +kernel) rfl rfl ?_
                refine w_getR (k := 12) (r := 83) 126 (by decide +kernel) sh_76 rfl ?_
                refine w_load (.iload 6) 128 (by decide +kernel) rfl rfl ?_
                refine w_ialdK 129 (by decide +kernel) sh_83 (by decide) (by omega) kn19 ?_
                refine w_callV3 176 8 12 132 (by decide +kernel) sh_76 (Nat.le_of_ble_eq_true rfl) rfl rfl rfl (by decide) (by omega) ?_
                refine k_176 hS.1 (by omega) (by omega) (by omega) (fun r21 Nr21 hTr21 hr21 => ?_)
                have kn22 := (hTr21.2 (83) g6 (by (try dsimp only); omega)).trans kn19
                have hS := hS.tr hTr21 (by intro i k; first | exact rfl | exact fun h => h.elim | omega | (dsimp only; omega) | (simp only [Hs, Tl, Sc, isHs, isScr, isTs] at *; omega))
                have hf : ∀ i, Nr21 83 i = f i := fun i => (hTr21.2 83 i (by (try dsimp only); omega)).trans (hf i)
                dsimp only [Option.toList, List.cons_append, List.nil_append]
                rcases hr21 with ⟨rfl, hkr21⟩ | rfl
                · skip
                  refine w_store (ls' := [.ref 76, .int (nI k2), .int b, .int (nI ((kr5 / 3))), .int x4_57, .int x5_57, .int (nI g6), .int (1)]) (.istore 7) 134 (by decide +kernel) rfl rfl ?_
                  refine w_load (.aload_n 0) 135 (by decide +kernel) rfl rfl ?_
                  refine w_getR (k := 12) (r := 83) 138 (by decide +kernel) sh_76 rfl ?_
                  refine w_load (.iload 6) 140 (by decide +kernel) rfl rfl ?_
                  refine w_pure .dup2 141 (by decide +kernel) rfl rfl ?_
                  refine w_ialdK 142 (by decide +kernel) sh_83 (by decide) (by omega) kn22 ?_
                  refine w_pushN 1 143 (by decide +kernel) ?_
                  refine w_addN (tk + 1) 144 (by decide +kernel) (by omega) ?_
                  refine w_iastE 145 (by decide +kernel) sh_83 (by omega) (by omega) hS (Rg.free (by simp only [Hs, Tl, Sc, isScr, isHs, isTs] at *; omega)) (by first | exact rfl | omega | (dsimp only; omega) | (simp only [Hs, Tl, Sc, isHs, isScr, isTs] at *; omega)) (fun Nq23 hS hq23 oq23 mq23 => ?_)
                  have hf : ∀ i, i ≠ g6 → Nq23 83 i = f i := fun i hi => (oq23 83 i (fun hz => hi hz.2)).trans (hf i)
                  have hg6 := hq23
                  refine w_load (.iload 7) 147 (by decide +kernel) rfl rfl ?_
                  refine w_ieq 164 150 (by decide +kernel) (fun hz => absurd hz (by decide)) (fun _ => ?_)
                  refine w_iincN (z := 6) (g6 + 1) 153 (by decide +kernel) rfl (Nat.le_of_ble_eq_true rfl) rfl rfl ?_
                  show Wp _ _ _ [.ref 76, .int (nI k2), .int b, .int (nI ((kr5 / 3))), .int x4_57, .int x5_57, .int (nI (g6 + 1)), .int (1)] _ _ _ _
                  refine w_load (.aload_n 0) 154 (by decide +kernel) rfl rfl ?_
                  refine w_getR (k := 12) (r := 83) 157 (by decide +kernel) sh_76 rfl ?_
                  refine w_load (.iload 6) 159 (by decide +kernel) rfl rfl ?_
                  refine w_pushN 0 160 (by decide +kernel) ?_
                  refine w_iastE 161 (by decide +kernel) sh_83 (by omega) (by omega) hS (Rg.free (by simp only [Hs, Tl, Sc, isScr, isHs, isTs] at *; omega)) (by first | exact rfl | omega | (dsimp only; omega) | (simp only [Hs, Tl, Sc, isHs, isScr, isTs] at *; omega)) (fun Nq25 hS hq25 oq25 mq25 => ?_)
                  have hf : ∀ i, i ≠ g6 → i ≠ g6 + 1 → Nq25 83 i = f i := fun i hi1 hi2 => (oq25 83 i (fun hz => hi2 hz.2)).trans (hf i hi1)
                  have hg6 := (oq25 83 g6 (by omega)).trans hg6
                  have hg7 := hq25
                  refine w_goto 167 (by decide +kernel) ?_
                  refine w_goto 57 (by decide +kernel) ?_
                  refine Wp.forget (ls := [.ref 76, .int (nI k2), .int b, .int (nI ((kr5 / 3))), .int x4_57, .int x5_57, .int (nI (g6 + 1)), .null]) ⟨Or.inl rfl, Or.inl rfl, Or.inl rfl, Or.inl rfl, Or.inl rfl, Or.inl rfl, Or.inl rfl, Or.inr ⟨rfl, rfl⟩, trivial⟩ ?_
                  exact ih_57 Nq25 _ _ (g6 + 1) hS (by first | omega | exact ch_t (by omega) hf hi1_57 | exact ch_a (by omega) hf hi1_57 | exact ch_b hf hi1_57 hg6 (by omega) hg7) (by first | omega | exact ch_t (by omega) hf hi1_57 | exact ch_a (by omega) hf hi1_57 | exact ch_b hf hi1_57 hg6 (by omega) hg7) (by first | exact Nat.lt_of_lt_of_le (cm_t (by omega) hf) (Nat.le_of_lt_succ hm_57) | exact Nat.lt_of_lt_of_le (cm_a (by omega) (by omega) etf (by omega) hf) (Nat.le_of_lt_succ hm_57) | exact Nat.lt_of_lt_of_le (cm_b (by omega) (by omega) etf (by omega) hg6 hg7 hf) (Nat.le_of_lt_succ hm_57))
                · skip
                  refine w_store (ls' := [.ref 76, .int (nI k2), .int b, .int (nI ((kr5 / 3))), .int x4_57, .int x5_57, .int (nI g6), .int (0)]) (.istore 7) 134 (by decide +kernel) rfl rfl ?_
                  refine w_load (.aload_n 0) 135 (by decide +kernel) rfl rfl ?_
                  refine w_getR (k := 12) (r := 83) 138 (by decide +kernel) sh_76 rfl ?_
                  refine w_load (.iload 6) 140 (by decide +kernel) rfl rfl ?_
                  refine w_pure .dup2 141 (by decide +kernel) rfl rfl ?_
                  refine w_ialdK 142 (by decide +kernel) sh_83 (by decide) (by omega) kn22 ?_
                  refine w_pushN 1 143 (by decide +kernel) ?_
                  refine w_addN (tk + 1) 144 (by decide +kernel) (by omega) ?_
                  refine w_iastE 145 (by decide +kernel) sh_83 (by omega) (by omega) hS (Rg.free (by simp only [Hs, Tl, Sc, isScr, isHs, isTs] at *; omega)) (by first | exact rfl | omega | (dsimp only; omega) | (simp only [Hs, Tl, Sc, isHs, isScr, isTs] at *; omega)) (fun Nq26 hS hq26 oq26 mq26 => ?_)
                  have hf : ∀ i, i ≠ g6 → Nq26 83 i = f i := fun i hi => (oq26 83 i (fun hz => hi hz.2)).trans (hf i)
                  have hg6 := hq26
                  refine w_load (.iload 7) 147 (by decide +kernel) rfl rfl ?_
                  refine w_ieq 164 150 (by decide +kernel) (fun _ => ?_) (fun hz => absurd hz (by decide))
                  refine w_idecN (z := 6) ((g6 - 1)) 167 (by decide +kernel) rfl (Nat.le_of_ble_eq_true rfl) rfl (by omega) rfl ?_
                  show Wp _ _ _ [.ref 76, .int (nI k2), .int b, .int (nI ((kr5 / 3))), .int x4_57, .int x5_57, .int (nI ((g6 - 1))), .int (0)] _ _ _ _
                  refine w_goto 57 (by decide +kernel) ?_
                  refine Wp.forget (ls := [.ref 76, .int (nI k2), .int b, .int (nI ((kr5 / 3))), .int x4_57, .int x5_57, .int (nI ((g6 - 1))), .null]) ⟨Or.inl rfl, Or.inl rfl, Or.inl rfl, Or.inl rfl, Or.inl rfl, Or.inl rfl, Or.inl rfl, Or.inr ⟨rfl, rfl⟩, trivial⟩ ?_
                  exact ih_57 Nq26 _ _ ((g6 - 1)) hS (by first | omega | exact ch_t (by omega) hf hi1_57 | exact ch_a (by omega) hf hi1_57 | exact ch_b hf hi1_57 hg6 (by omega) hg7) (by first | omega | exact ch_t (by omega) hf hi1_57 | exact ch_a (by omega) hf hi1_57 | exact ch_b hf hi1_57 hg6 (by omega) hg7) (by first | exact Nat.lt_of_lt_of_le (cm_t (by omega) hf) (Nat.le_of_lt_succ hm_57) | exact Nat.lt_of_lt_of_le (cm_a (by omega) (by omega) etf (by omega) hf) (Nat.le_of_lt_succ hm_57) | exact Nat.lt_of_lt_of_le (cm_b (by omega) (by omega) etf (by omega) hg6 hg7 hf) (Nat.le_of_lt_succ hm_57))
              · skip
                obtain ⟨f, hf⟩ : ∃ f : Nat → Int32, f = N_57 83 := ⟨_, rfl⟩
                rw [← hf] at hi1_57 hm_57
                replace hf : ∀ i, N_57 83 i = f i := fun i => by rw [hf]
                refine w_load (.iload 4) 72 (by decide +kernel) rfl rfl ?_
                refine w_load (.aload_n 0) 73 (by decide +kernel) rfl rfl ?_
                refine w_load (.iload 6) 75 (by decide +kernel) rfl rfl ?_
                refine w_callV1 165 8 2 78 (by decide +kernel) sh_76 (Nat.le_of_ble_eq_true rfl) rfl (by decide) (by omega) ?_
                refine k_165 hS.1 (by omega) (by omega) (fun r28 hr28 => ?_)
                dsimp only [Option.toList, List.cons_append, List.nil_append]
                refine w_pure .ior 79 (by decide +kernel) rfl rfl ?_
                refine w_topi (fun v29 ev29 => ?_)
                refine w_store (ls' := [.ref 76, .int (nI k2), .int b, .int (nI ((kr5 / 3))), .int v29, .int x5_57, .int (nI g6), .null]) (.istore 4) 81 (by decide +kernel) rfl rfl ?_
                refine w_load (.iload 5) 83 (by decide +kernel) rfl rfl ?_
                refine w_load (.aload_n 0) 84 (by decide +kernel) rfl rfl ?_
                refine w_load (.iload 6) 86 (by decide +kernel) rfl rfl ?_
                refine w_callV1 165 8 2 89 (by decide +kernel) sh_76 (Nat.le_of_ble_eq_true rfl) rfl (by decide) (by omega) ?_
                refine k_165 hS.1 (by omega) (by omega) (fun r30 hr30 => ?_)
                dsimp only [Option.toList, List.cons_append, List.nil_append]
                refine w_pure .iand 90 (by decide +kernel) rfl rfl ?_
                refine w_topi (fun v31 ev31 => ?_)
                refine w_store (ls' := [.ref 76, .int (nI k2), .int b, .int (nI ((kr5 / 3))), .int v29, .int v31, .int (nI g6), .null]) (.istore 5) 92 (by decide +kernel) rfl rfl ?_
                refine w_idecN (z := 6) ((g6 - 1)) 95 (by decide +kernel) rfl (Nat.le_of_ble_eq_true rfl) rfl (by omega) rfl ?_
                show Wp _ _ _ [.ref 76, .int (nI k2), .int b, .int (nI ((kr5 / 3))), .int v29, .int v31, .int (nI ((g6 - 1))), .null] _ _ _ _
                refine w_goto 57 (by decide +kernel) ?_
                exact ih_57 N_57 _ _ ((g6 - 1)) hS (by first | omega | exact ch_t (by omega) hf hi1_57 | exact ch_a (by omega) hf hi1_57 | exact ch_b hf hi1_57 hg6 (by omega) hg7) (by first | omega | exact ch_t (by omega) hf hi1_57 | exact ch_a (by omega) hf hi1_57 | exact ch_b hf hi1_57 hg6 (by omega) hg7) (by first | exact Nat.lt_of_lt_of_le (cm_t (by omega) hf) (Nat.le_of_lt_succ hm_57) | exact Nat.lt_of_lt_of_le (cm_a (by omega) (by omega) etf (by omega) hf) (Nat.le_of_lt_succ hm_57) | exact Nat.lt_of_lt_of_le (cm_b (by omega) (by omega) etf (by omega) hg6 hg7 hf) (Nat.le_of_lt_succ hm_57))
        exact LP_57 _ Nq13 _ _ 1 hS (by first | omega | (intro i hi1 hi2 hi3; exact ⟨0, by omega, by rw [show i = 1 by omega]; assumption⟩)) (by first | omega | (intro i hi1 hi2 hi3; exact ⟨0, by omega, by rw [show i = 1 by omega]; assumption⟩)) (Nat.lt_succ_self _)
      · skip
        refine w_push (-3) 22 (by decide +kernel) ?_
        exact w_ret (by decide +kernel) (hq _ N hS trivial)
  · skip
    refine w_ine 9 7 (by decide +kernel) (fun hz => absurd hz (by decide)) (fun _ => ?_)
    refine w_push (-1) 8 (by decide +kernel) ?_
    exact w_ret (by decide +kernel) (hq _ N hS trivial)
-- X8_round
set_option maxRecDepth 10000 in
theorem k_178 {d : Nat} {M : Mt} {L : Lt} {Q : Option Value → Mt → Lt → Prop} {a : Int32} (hI : Inv M)  (hd : 4 ≤ d) (hq : ∀ (r : Int32) (N : Mt), St (fun i k => (i = 78 ∧ 22 ≤ k) ∨ i = 83 ∨ i = 84 ∨ (i = 76 ∧ (k = 7 ∨ k = 11))) M N → True → Q (some (.int r)) N L) : Wp d 178 0 [.ref 76, .int a, .null, .null, .null, .null] [] M L Q := by
  refine (show ∀ N : Mt, N = M → St (fun i k => (i = 78 ∧ 22 ≤ k) ∨ i = 83 ∨ i = 84 ∨ (i = 76 ∧ (k = 7 ∨ k = 11))) M N → Wp d 178 0 [.ref 76, .int a, .null, .null, .null, .null] [] N L Q from ?_) M rfl (St.rf hI)
  intro N hNM hS
  refine w_load (.iload_n 1) 1 (by decide +kernel) rfl rfl ?_
  refine w_callS1 142 1 4 (by decide +kernel) (Nat.le_of_ble_eq_true rfl) rfl (by decide) (by omega) ?_
  refine k_142 hS.1  (by omega) (fun r1 hr1 => ?_)
  dsimp only [Option.toList, List.cons_append, List.nil_append]
  rcases hr1 with ⟨rfl, k2, hk2, rfl⟩ | ⟨rfl, hnok2⟩
  · skip
    refine w_ine 9 7 (by decide +kernel) (fun _ => ?_) (fun hz => absurd hz (by decide))
    refine w_load (.aload_n 0) 10 (by decide +kernel) rfl rfl ?_
    refine w_pushN 0 11 (by decide +kernel) ?_
    refine w_pushN 1 12 (by decide +kernel) ?_
    refine w_callV2 160 8 4 15 (by decide +kernel) sh_76 (Nat.le_of_ble_eq_true rfl) rfl rfl (by decide) (by omega) ?_
    refine k_160 hS.1 (by omega) (by omega) (by omega) (fun Nr4 hTr4 hr4 => ?_)
    have hS := hS.tr hTr4 (by intro i k; first | exact rfl | exact fun h => h.elim | omega | (dsimp only; omega) | (simp only [Hs, Tl, Sc, isHs, isScr, isTs] at *; omega))
    dsimp only [Option.toList, List.nil_append]
    refine w_pushN 0 16 (by decide +kernel) ?_
    refine w_store (ls' := [.ref 76, .int (nI k2), .int (nI 0), .null, .null, .null]) (.istore_n 2) 17 (by decide +kernel) rfl rfl ?_
    have LP_17 : ∀ (kk : Nat) (N_17 : Mt) (g2 : Nat), St (fun i k => (i = 78 ∧ 22 ≤ k) ∨ i = 83 ∨ i = 84 ∨ (i = 76 ∧ (k = 7 ∨ k = 11))) M N_17 → g2 ≤ 61 → 61 - g2 < kk → Wp d 178 17 [.ref 76, .int (nI k2), .int (nI g2), .null, .null, .null] [] N_17 L Q := by
      intro kk
      induction kk with
      | zero => intro N_17 g2 hS hi0_17 hm_17; exact absurd hm_17 (Nat.not_lt_zero _)
      | succ kk ih_17 =>
        intro N_17 g2 hS hi0_17 hm_17
        refine w_load (.iload_n 2) 18 (by decide +kernel) rfl rfl ?_
        refine w_pushN 60 20 (by decide +kernel) ?_
        refine w_cgtN 154 23 (by decide +kernel) (by omega) (by omega) (fun h5 => ?_) (fun h5 => ?_)
        · skip
          refine w_push (-9) 156 (by decide +kernel) ?_
          exact w_ret (by decide +kernel) (hq _ N_17 hS trivial)
        · skip
          refine w_pushN 0 24 (by decide +kernel) ?_
          refine w_store (ls' := [.ref 76, .int (nI k2), .int (nI g2), .int (nI 0), .null, .null]) (.istore_n 3) 25 (by decide +kernel) rfl rfl ?_
          have LP_25 : ∀ (kk : Nat) (N_25 : Mt) (g3 : Nat), St (fun i k => (i = 78 ∧ 22 ≤ k) ∨ i = 83 ∨ i = 84 ∨ (i = 76 ∧ (k = 7 ∨ k = 11))) M N_25 → g3 ≤ 16 → 16 - g3 < kk → Wp d 178 25 [.ref 76, .int (nI k2), .int (nI g2), .int (nI g3), .null, .null] [] N_25 L Q := by
            intro kk
            induction kk with
            | zero => intro N_25 g3 hS hi0_25 hm_25; exact absurd hm_25 (Nat.not_lt_zero _)
            | succ kk ih_25 =>
              intro N_25 g3 hS hi0_25 hm_25
              refine w_load (.iload_n 3) 26 (by decide +kernel) rfl rfl ?_
              refine w_pushN 16 28 (by decide +kernel) ?_
              refine w_cgeN 57 31 (by decide +kernel) (by omega) (by omega) (fun h6 => ?_) (fun h6 => ?_)
              · skip
                refine w_pushN 0 58 (by decide +kernel) ?_
                refine w_store (ls' := [.ref 76, .int (nI k2), .int (nI g2), .int (nI 0), .null, .null]) (.istore_n 3) 59 (by decide +kernel) rfl rfl ?_
                have LP_59 : ∀ (kk : Nat) (N_59 : Mt) (g3 : Nat), St (fun i k => (i = 78 ∧ 22 ≤ k) ∨ i = 83 ∨ i = 84 ∨ (i = 76 ∧ (k = 7 ∨ k = 11))) M N_59 → g3 ≤ 61 → 61 - g3 < kk → Wp d 178 59 [.ref 76, .int (nI k2), .int (nI g2), .int (nI g3), .null, .null] [] N_59 L Q := by
                  intro kk
                  induction kk with
                  | zero => intro N_59 g3 hS hi0_59 hm_59; exact absurd hm_59 (Nat.not_lt_zero _)
                  | succ kk ih_59 =>
                    intro N_59 g3 hS hi0_59 hm_59
                    refine w_load (.iload_n 3) 60 (by decide +kernel) rfl rfl ?_
                    refine w_load (.iload_n 2) 61 (by decide +kernel) rfl rfl ?_
                    refine w_cgeN 140 64 (by decide +kernel) (by omega) (by omega) (fun h7 => ?_) (fun h7 => ?_)
                    · skip
                      refine w_load (.aload_n 0) 141 (by decide +kernel) rfl rfl ?_
                      refine w_pushN 1 142 (by decide +kernel) ?_
                      refine w_load (.iload_n 1) 143 (by decide +kernel) rfl rfl ?_
                      refine w_pushN 0 144 (by decide +kernel) ?_
                      refine w_callV3 159 8 7 147 (by decide +kernel) sh_76 (Nat.le_of_ble_eq_true rfl) rfl rfl rfl (by decide) (by omega) ?_
                      refine k_159 hS.1 (by omega) (by omega) (by omega) (fun r8 Nr8 hTr8 hr8 => ?_)
                      have hS := hS.tr hTr8 (by intro i k; first | exact rfl | exact fun h => h.elim | omega | (dsimp only; omega) | (simp only [Hs, Tl, Sc, isHs, isScr, isTs] at *; omega))
                      dsimp only [Option.toList, List.cons_append, List.nil_append]
                      refine w_pure .pop 148 (by decide +kernel) rfl rfl ?_
                      refine w_iincN (z := 2) (g2 + 1) 151 (by decide +kernel) rfl (Nat.le_of_ble_eq_true rfl) rfl rfl ?_
                      show Wp _ _ _ [.ref 76, .int (nI k2), .int (nI (g2 + 1)), .int (nI g3), .null, .null] _ _ _ _
                      refine w_goto 17 (by decide +kernel) ?_
                      refine Wp.forget (ls := [.ref 76, .int (nI k2), .int (nI (g2 + 1)), .null, .null, .null]) ⟨Or.inl rfl, Or.inl rfl, Or.inl rfl, Or.inr ⟨rfl, rfl⟩, Or.inl rfl, Or.inl rfl, trivial⟩ ?_
                      exact ih_17 Nr8 (g2 + 1) hS (by omega) (by omega)
                    · skip
                      refine w_pushN 1 65 (by decide +kernel) ?_
                      refine w_store (ls' := [.ref 76, .int (nI k2), .int (nI g2), .int (nI g3), .int (nI 1), .null]) (.istore 4) 67 (by decide +kernel) rfl rfl ?_
                      refine w_pushN 0 68 (by decide +kernel) ?_
                      refine w_store (ls' := [.ref 76, .int (nI k2), .int (nI g2), .int (nI g3), .int (nI 1), .int (nI 0)]) (.istore 5) 70 (by decide +kernel) rfl rfl ?_
                      have LP_70 : ∀ (kk : Nat) (N_70 : Mt) (x4_70 : Int32) (g5 : Nat), St (fun i k => (i = 78 ∧ 22 ≤ k) ∨ i = 83 ∨ i = 84 ∨ (i = 76 ∧ (k = 7 ∨ k = 11))) M N_70 → g5 ≤ 16 → 16 - g5 < kk → Wp d 178 70 [.ref 76, .int (nI k2), .int (nI g2), .int (nI g3), .int x4_70, .int (nI g5)] [] N_70 L Q := by
                        intro kk
                        induction kk with
                        | zero => intro N_70 x4_70 g5 hS hi0_70 hm_70; exact absurd hm_70 (Nat.not_lt_zero _)
                        | succ kk ih_70 =>
                          intro N_70 x4_70 g5 hS hi0_70 hm_70
                          refine w_load (.iload 5) 72 (by decide +kernel) rfl rfl ?_
                          refine w_pushN 16 74 (by decide +kernel) ?_
                          refine w_cgeN 122 77 (by decide +kernel) (by omega) (by omega) (fun h9 => ?_) (fun h9 => ?_)
                          · skip
                            refine w_load (.iload 4) 124 (by decide +kernel) rfl rfl ?_
                            refine w_ieq 134 127 (by decide +kernel) (fun h10 => ?_) (fun h10 => ?_)
                            · skip
                              refine w_iincN (z := 3) (g3 + 1) 137 (by decide +kernel) rfl (Nat.le_of_ble_eq_true rfl) rfl rfl ?_
                              show Wp _ _ _ [.ref 76, .int (nI k2), .int (nI g2), .int (nI (g3 + 1)), .int x4_70, .int (nI g5)] _ _ _ _
                              refine w_goto 59 (by decide +kernel) ?_
                              refine Wp.forget (ls := [.ref 76, .int (nI k2), .int (nI g2), .int (nI (g3 + 1)), .null, .null]) ⟨Or.inl rfl, Or.inl rfl, Or.inl rfl, Or.inl rfl, Or.inr ⟨rfl, rfl⟩, Or.inr ⟨rfl, rfl⟩, trivial⟩ ?_
                              exact ih_59 N_70 (g3 + 1) hS (by omega) (by omega)
                            · skip
                              refine w_pushN 100 129 (by decide +kernel) ?_
                              refine w_load (.iload_n 3) 130 (by decide +kernel) rfl rfl ?_
                              refine w_mulN (100 * g3) 131 (by decide +kernel) rfl ?_
                              refine w_load (.iload_n 2) 132 (by decide +kernel) rfl rfl ?_
                              refine w_addN (100 * g3 + g2) 133 (by decide +kernel) (by omega) ?_
                              exact w_ret (by decide +kernel) (hq _ N_70 hS trivial)
                          · skip
                            refine w_load (.iload 4) 79 (by decide +kernel) rfl rfl ?_
                            refine w_ieq 113 82 (by decide +kernel) (fun h11 => ?_) (fun h11 => ?_)
                            · skip
                              refine w_pushN 0 114 (by decide +kernel) ?_
                              refine w_store (ls' := [.ref 76, .int (nI k2), .int (nI g2), .int (nI g3), .int (nI 0), .int (nI g5)]) (.istore 4) 116 (by decide +kernel) rfl rfl ?_
                              refine w_iincN (z := 5) (g5 + 1) 119 (by decide +kernel) rfl (Nat.le_of_ble_eq_true rfl) rfl rfl ?_
                              show Wp _ _ _ [.ref 76, .int (nI k2), .int (nI g2), .int (nI g3), .int (nI 0), .int (nI (g5 + 1))] _ _ _ _
                              refine w_goto 70 (by decide +kernel) ?_
                              exact ih_70 N_70 _ (g5 + 1) hS (by omega) (by omega)
                            · skip
                              refine w_load (.aload_n 0) 83 (by decide +kernel) rfl rfl ?_
                              refine w_getR (k := 13) (r := 84) 86 (by decide +kernel) sh_76 rfl ?_
                              refine w_pushN 16 88 (by decide +kernel) ?_
                              refine w_load (.iload_n 3) 89 (by decide +kernel) rfl rfl ?_
                              refine w_mulN (16 * g3) 90 (by decide +kernel) rfl ?_
                              refine w_load (.iload 5) 92 (by decide +kernel) rfl rfl ?_
                              refine w_addN (16 * g3 + g5) 93 (by decide +kernel) (by omega) ?_
                              refine w_ialdN 94 (by decide +kernel) sh_84 (by omega) (by omega) ?_
                              refine w_load (.aload_n 0) 95 (by decide +kernel) rfl rfl ?_
                              refine w_getR (k := 13) (r := 84) 98 (by decide +kernel) sh_76 rfl ?_
                              refine w_pushN 16 100 (by decide +kernel) ?_
                              refine w_load (.iload_n 2) 101 (by decide +kernel) rfl rfl ?_
                              refine w_mulN (16 * g2) 102 (by decide +kernel) rfl ?_
                              refine w_load (.iload 5) 104 (by decide +kernel) rfl rfl ?_
                              refine w_addN (16 * g2 + g5) 105 (by decide +kernel) (by omega) ?_
                              refine w_ialdN 106 (by decide +kernel) sh_84 (by omega) (by omega) ?_
                              refine w_cne 113 109 (by decide +kernel) (fun h12 => ?_) (fun h12 => ?_)
                              · skip
                                refine w_pushN 0 114 (by decide +kernel) ?_
                                refine w_store (ls' := [.ref 76, .int (nI k2), .int (nI g2), .int (nI g3), .int (nI 0), .int (nI g5)]) (.istore 4) 116 (by decide +kernel) rfl rfl ?_
                                refine w_iincN (z := 5) (g5 + 1) 119 (by decide +kernel) rfl (Nat.le_of_ble_eq_true rfl) rfl rfl ?_
                                show Wp _ _ _ [.ref 76, .int (nI k2), .int (nI g2), .int (nI g3), .int (nI 0), .int (nI (g5 + 1))] _ _ _ _
                                refine w_goto 70 (by decide +kernel) ?_
                                exact ih_70 N_70 _ (g5 + 1) hS (by omega) (by omega)
                              · skip
                                refine w_pushN 1 110 (by decide +kernel) ?_
                                refine w_goto 114 (by decide +kernel) ?_
                                refine w_store (ls' := [.ref 76, .int (nI k2), .int (nI g2), .int (nI g3), .int (nI 1), .int (nI g5)]) (.istore 4) 116 (by decide +kernel) rfl rfl ?_
                                refine w_iincN (z := 5) (g5 + 1) 119 (by decide +kernel) rfl (Nat.le_of_ble_eq_true rfl) rfl rfl ?_
                                show Wp _ _ _ [.ref 76, .int (nI k2), .int (nI g2), .int (nI g3), .int (nI 1), .int (nI (g5 + 1))] _ _ _ _
                                refine w_goto 70 (by decide +kernel) ?_
                                exact ih_70 N_70 _ (g5 + 1) hS (by omega) (by omega)
                      exact LP_70 _ N_59 _ 0 hS (by omega) (Nat.lt_succ_self _)
                exact LP_59 _ N_25 0 hS (by omega) (Nat.lt_succ_self _)
              · skip
                refine w_load (.aload_n 0) 32 (by decide +kernel) rfl rfl ?_
                refine w_getR (k := 13) (r := 84) 35 (by decide +kernel) sh_76 rfl ?_
                refine w_pushN 16 37 (by decide +kernel) ?_
                refine w_load (.iload_n 2) 38 (by decide +kernel) rfl rfl ?_
                refine w_mulN (16 * g2) 39 (by decide +kernel) rfl ?_
                refine w_load (.iload_n 3) 40 (by decide +kernel) rfl rfl ?_
                refine w_addN (16 * g2 + g3) 41 (by decide +kernel) (by omega) ?_
                refine w_load (.aload_n 0) 42 (by decide +kernel) rfl rfl ?_
                refine w_getR (k := 2) (r := 78) 45 (by decide +kernel) sh_76 rfl ?_
                refine w_pushN 22 47 (by decide +kernel) ?_
                refine w_load (.iload_n 3) 48 (by decide +kernel) rfl rfl ?_
                refine w_addN (22 + g3) 49 (by decide +kernel) (by omega) ?_
                refine w_ialdN 50 (by decide +kernel) sh_78 (by omega) (by omega) ?_
                refine w_iastE 51 (by decide +kernel) sh_84 (by omega) (by omega) hS (Rg.free (by simp only [Hs, Tl, Sc, isScr, isHs, isTs] at *; omega)) (by first | exact rfl | omega | (dsimp only; omega) | (simp only [Hs, Tl, Sc, isHs, isScr, isTs] at *; omega)) (fun Nq13 hS hq13 oq13 mq13 => ?_)
                refine w_iincN (z := 3) (g3 + 1) 54 (by decide +kernel) rfl (Nat.le_of_ble_eq_true rfl) rfl rfl ?_
                show Wp _ _ _ [.ref 76, .int (nI k2), .int (nI g2), .int (nI (g3 + 1)), .null, .null] _ _ _ _
                refine w_goto 25 (by decide +kernel) ?_
                exact ih_25 Nq13 (g3 + 1) hS (by omega) (by omega)
          exact LP_25 _ N_17 0 hS (by omega) (Nat.lt_succ_self _)
    exact LP_17 _ Nr4 0 hS (by omega) (Nat.lt_succ_self _)
  · skip
    refine w_ine 9 7 (by decide +kernel) (fun hz => absurd hz (by decide)) (fun _ => ?_)
    refine w_push (-1) 8 (by decide +kernel) ?_
    exact w_ret (by decide +kernel) (hq _ N hS trivial)
-- X8_kinds
set_option maxRecDepth 10000 in
theorem k_179 {d : Nat} {M : Mt} {L : Lt} {Q : Option Value → Mt → Lt → Prop} {a : Int32} (hI : Inv M)  (hd : 4 ≤ d) (hq : ∀ (r : Int32) (N : Mt), St (fun i k => (i = 78 ∧ 22 ≤ k) ∨ i = 83 ∨ i = 84 ∨ (i = 76 ∧ (k = 7 ∨ k = 11))) M N → True → Q (some (.int r)) N L) : Wp d 179 0 [.ref 76, .int a, .null, .null, .null, .null] [] M L Q := by
  refine (show ∀ N : Mt, N = M → St (fun i k => (i = 78 ∧ 22 ≤ k) ∨ i = 83 ∨ i = 84 ∨ (i = 76 ∧ (k = 7 ∨ k = 11))) M N → Wp d 179 0 [.ref 76, .int a, .null, .null, .null, .null] [] N L Q from ?_) M rfl (St.rf hI)
  intro N hNM hS
  refine w_load (.iload_n 1) 1 (by decide +kernel) rfl rfl ?_
  refine w_callS1 142 1 4 (by decide +kernel) (Nat.le_of_ble_eq_true rfl) rfl (by decide) (by omega) ?_
  refine k_142 hS.1  (by omega) (fun r1 hr1 => ?_)
  dsimp only [Option.toList, List.cons_append, List.nil_append]
  rcases hr1 with ⟨rfl, k2, hk2, rfl⟩ | ⟨rfl, hnok2⟩
  · skip
    refine w_ine 9 7 (by decide +kernel) (fun _ => ?_) (fun hz => absurd hz (by decide))
    refine w_load (.aload_n 0) 10 (by decide +kernel) rfl rfl ?_
    refine w_load (.iload_n 1) 11 (by decide +kernel) rfl rfl ?_
    refine w_callV1 148 8 3 14 (by decide +kernel) sh_76 (Nat.le_of_ble_eq_true rfl) rfl (by decide) (by omega) ?_
    obtain ⟨n4, hn4, en4⟩ := inv_81 hS.1 k2
    refine k_148 hS.1 (by omega) (by omega) en4 (by omega) (fun r5 hr5 => ?_)
    dsimp only [Option.toList, List.cons_append, List.nil_append]
    rcases hr5 with ⟨kr5, hsr5, rfl⟩
    · skip
      have hlr5 := hsr5.1
      refine w_store (ls' := [.ref 76, .int (nI k2), .int (nI ((kr5 / 3))), .null, .null, .null]) (.istore_n 2) 15 (by decide +kernel) rfl rfl ?_
      refine w_pushN 1 16 (by decide +kernel) ?_
      refine w_store (ls' := [.ref 76, .int (nI k2), .int (nI ((kr5 / 3))), .int (nI 1), .null, .null]) (.istore_n 3) 17 (by decide +kernel) rfl rfl ?_
      refine w_pushN 0 18 (by decide +kernel) ?_
      refine w_store (ls' := [.ref 76, .int (nI k2), .int (nI ((kr5 / 3))), .int (nI 1), .int (nI 0), .null]) (.istore 4) 20 (by decide +kernel) rfl rfl ?_
      have LP_20 : ∀ (kk : Nat) (N_20 : Mt) (x3_20 : Int32) (g4 : Nat), St (fun i k => (i = 78 ∧ 22 ≤ k) ∨ i = 83 ∨ i = 84 ∨ (i = 76 ∧ (k = 7 ∨ k = 11))) M N_20 → g4 ≤ 8 → 8 - g4 < kk → Wp d 179 20 [.ref 76, .int (nI k2), .int (nI ((kr5 / 3))), .int x3_20, .int (nI g4), .null] [] N_20 L Q := by
        intro kk
        induction kk with
        | zero => intro N_20 x3_20 g4 hS hi0_20 hm_20; exact absurd hm_20 (Nat.not_lt_zero _)
        | succ kk ih_20 =>
          intro N_20 x3_20 g4 hS hi0_20 hm_20
          refine w_load (.iload 4) 22 (by decide +kernel) rfl rfl ?_
          refine w_load (.iload_n 2) 23 (by decide +kernel) rfl rfl ?_
          refine w_cgeN 78 26 (by decide +kernel) (by omega) (by omega) (fun h6 => ?_) (fun h6 => ?_)
          · skip
            refine w_load (.aload_n 0) 79 (by decide +kernel) rfl rfl ?_
            refine w_pushN 0 80 (by decide +kernel) ?_
            refine w_pushN 1 81 (by decide +kernel) ?_
            refine w_callV2 160 8 4 84 (by decide +kernel) sh_76 (Nat.le_of_ble_eq_true rfl) rfl rfl (by decide) (by omega) ?_
            refine k_160 hS.1 (by omega) (by omega) (by omega) (fun Nr7 hTr7 hr7 => ?_)
            have hS := hS.tr hTr7 (by intro i k; first | exact rfl | exact fun h => h.elim | omega | (dsimp only; omega) | (simp only [Hs, Tl, Sc, isHs, isScr, isTs] at *; omega))
            dsimp only [Option.toList, List.nil_append]
            refine w_load (.aload_n 0) 85 (by decide +kernel) rfl rfl ?_
            refine w_pushN 1 86 (by decide +kernel) ?_
            refine w_load (.iload_n 1) 87 (by decide +kernel) rfl rfl ?_
            refine w_pushN 0 88 (by decide +kernel) ?_
            refine w_callV3 159 8 7 91 (by decide +kernel) sh_76 (Nat.le_of_ble_eq_true rfl) rfl rfl rfl (by decide) (by omega) ?_
            refine k_159 hS.1 (by omega) (by omega) (by omega) (fun r8 Nr8 hTr8 hr8 => ?_)
            have hS := hS.tr hTr8 (by intro i k; first | exact rfl | exact fun h => h.elim | omega | (dsimp only; omega) | (simp only [Hs, Tl, Sc, isHs, isScr, isTs] at *; omega))
            dsimp only [Option.toList, List.cons_append, List.nil_append]
            refine w_pure .pop 92 (by decide +kernel) rfl rfl ?_
            refine w_pushN 1 93 (by decide +kernel) ?_
            refine w_store (ls' := [.ref 76, .int (nI k2), .int (nI ((kr5 / 3))), .int x3_20, .int (nI 1), .null]) (.istore 4) 95 (by decide +kernel) rfl rfl ?_
            refine w_pushN 0 96 (by decide +kernel) ?_
            refine w_store (ls' := [.ref 76, .int (nI k2), .int (nI ((kr5 / 3))), .int x3_20, .int (nI 1), .int (nI 0)]) (.istore 5) 98 (by decide +kernel) rfl rfl ?_
            have LP_98 : ∀ (kk : Nat) (N_98 : Mt) (x4_98 : Int32) (g5 : Nat), St (fun i k => (i = 78 ∧ 22 ≤ k) ∨ i = 83 ∨ i = 84 ∨ (i = 76 ∧ (k = 7 ∨ k = 11))) M N_98 → g5 ≤ 16 → 16 - g5 < kk → Wp d 179 98 [.ref 76, .int (nI k2), .int (nI ((kr5 / 3))), .int x3_20, .int x4_98, .int (nI g5)] [] N_98 L Q := by
              intro kk
              induction kk with
              | zero => intro N_98 x4_98 g5 hS hi0_98 hm_98; exact absurd hm_98 (Nat.not_lt_zero _)
              | succ kk ih_98 =>
                intro N_98 x4_98 g5 hS hi0_98 hm_98
                refine w_load (.iload 5) 100 (by decide +kernel) rfl rfl ?_
                refine w_pushN 16 102 (by decide +kernel) ?_
                refine w_cgeN 143 105 (by decide +kernel) (by omega) (by omega) (fun h9 => ?_) (fun h9 => ?_)
                · skip
                  refine w_load (.iload_n 3) 144 (by decide +kernel) rfl rfl ?_
                  refine w_ieq 151 147 (by decide +kernel) (fun h10 => ?_) (fun h10 => ?_)
                  · skip
                    refine w_pushN 0 152 (by decide +kernel) ?_
                    refine w_load (.aload_n 0) 153 (by decide +kernel) rfl rfl ?_
                    refine w_load (.iload_n 1) 154 (by decide +kernel) rfl rfl ?_
                    refine w_callV1 146 8 5 157 (by decide +kernel) sh_76 (Nat.le_of_ble_eq_true rfl) rfl (by decide) (by omega) ?_
                    obtain ⟨n11, hn11, en11⟩ := inv_81 hS.1 k2
                    refine k_146 hS.1 (by omega) (by omega) en11 (by omega) (fun r12 hr12 => ?_)
                    dsimp only [Option.toList, List.cons_append, List.nil_append]
                    rcases hr12 with ⟨kr12, hsr12, er12⟩
                    · skip
                      have hlr12 := hsr12.1
                      refine w_load (.aload_n 0) 158 (by decide +kernel) rfl rfl ?_
                      refine w_getR (k := 6) (r := 81) 161 (by decide +kernel) sh_76 rfl ?_
                      refine w_load (.iload_n 1) 162 (by decide +kernel) rfl rfl ?_
                      refine w_ialdK 163 (by decide +kernel) sh_81 (by decide) (by omega) en11 ?_
                      refine w_cne 170 166 (by decide +kernel) (fun h13 => ?_) (fun h13 => ?_)
                      · skip
                        refine w_pushN 0 171 (by decide +kernel) ?_
                        refine w_addN 0 172 (by decide +kernel) (by omega) ?_
                        refine w_load (.iload 4) 174 (by decide +kernel) rfl rfl ?_
                        refine w_ieq 181 177 (by decide +kernel) (fun h14 => ?_) (fun h14 => ?_)
                        · skip
                          refine w_pushN 0 182 (by decide +kernel) ?_
                          refine w_addN 0 183 (by decide +kernel) (by omega) ?_
                          refine w_store (ls' := [.ref 76, .int (nI k2), .int (nI ((kr5 / 3))), .int x3_20, .int x4_98, .int (nI 0)]) (.istore 5) 185 (by decide +kernel) rfl rfl ?_
                          refine w_load (.iload 5) 187 (by decide +kernel) rfl rfl ?_
                          refine w_load (.aload_n 0) 188 (by decide +kernel) rfl rfl ?_
                          refine w_pushN 1 189 (by decide +kernel) ?_
                          refine w_callV1 165 8 2 192 (by decide +kernel) sh_76 (Nat.le_of_ble_eq_true rfl) rfl (by decide) (by omega) ?_
                          refine k_165 hS.1 (by omega) (by omega) (fun r15 hr15 => ?_)
                          dsimp only [Option.toList, List.cons_append, List.nil_append]
                          refine w_load (.aload_n 0) 193 (by decide +kernel) rfl rfl ?_
                          refine w_pushN 0 194 (by decide +kernel) ?_
                          refine w_callV1 165 8 2 197 (by decide +kernel) sh_76 (Nat.le_of_ble_eq_true rfl) rfl (by decide) (by omega) ?_
                          refine k_165 hS.1 (by omega) (by omega) (fun r16 hr16 => ?_)
                          dsimp only [Option.toList, List.cons_append, List.nil_append]
                          refine w_ceq 205 200 (by decide +kernel) (fun h17 => ?_) (fun h17 => ?_)
                          · skip
                            refine w_pushN 0 206 (by decide +kernel) ?_
                            refine w_addN 0 207 (by decide +kernel) (by omega) ?_
                            refine w_load (.aload_n 0) 208 (by decide +kernel) rfl rfl ?_
                            refine w_getI (k := 7) 211 (by decide +kernel) sh_76 rfl ?_
                            refine w_ile 219 214 (by decide +kernel) (fun h18 => ?_) (fun h18 => ?_)
                            · skip
                              refine w_pushN 0 220 (by decide +kernel) ?_
                              refine w_addN 0 221 (by decide +kernel) (by omega) ?_
                              exact w_ret (by decide +kernel) (hq _ N_98 hS trivial)
                            · skip
                              refine w_pushN 16 216 (by decide +kernel) ?_
                              refine w_goto 220 (by decide +kernel) ?_
                              refine w_addN 16 221 (by decide +kernel) (by omega) ?_
                              exact w_ret (by decide +kernel) (hq _ N_98 hS trivial)
                          · skip
                            refine w_pushN 8 202 (by decide +kernel) ?_
                            refine w_goto 206 (by decide +kernel) ?_
                            refine w_addN 8 207 (by decide +kernel) (by omega) ?_
                            refine w_load (.aload_n 0) 208 (by decide +kernel) rfl rfl ?_
                            refine w_getI (k := 7) 211 (by decide +kernel) sh_76 rfl ?_
                            refine w_ile 219 214 (by decide +kernel) (fun h19 => ?_) (fun h19 => ?_)
                            · skip
                              refine w_pushN 0 220 (by decide +kernel) ?_
                              refine w_addN 8 221 (by decide +kernel) (by omega) ?_
                              exact w_ret (by decide +kernel) (hq _ N_98 hS trivial)
                            · skip
                              refine w_pushN 16 216 (by decide +kernel) ?_
                              refine w_goto 220 (by decide +kernel) ?_
                              refine w_addN 24 221 (by decide +kernel) (by omega) ?_
                              exact w_ret (by decide +kernel) (hq _ N_98 hS trivial)
                        · skip
                          refine w_pushN 4 178 (by decide +kernel) ?_
                          refine w_goto 182 (by decide +kernel) ?_
                          refine w_addN 4 183 (by decide +kernel) (by omega) ?_
                          refine w_store (ls' := [.ref 76, .int (nI k2), .int (nI ((kr5 / 3))), .int x3_20, .int x4_98, .int (nI 4)]) (.istore 5) 185 (by decide +kernel) rfl rfl ?_
                          refine w_load (.iload 5) 187 (by decide +kernel) rfl rfl ?_
                          refine w_load (.aload_n 0) 188 (by decide +kernel) rfl rfl ?_
                          refine w_pushN 1 189 (by decide +kernel) ?_
                          refine w_callV1 165 8 2 192 (by decide +kernel) sh_76 (Nat.le_of_ble_eq_true rfl) rfl (by decide) (by omega) ?_
                          refine k_165 hS.1 (by omega) (by omega) (fun r20 hr20 => ?_)
                          dsimp only [Option.toList, List.cons_append, List.nil_append]
                          refine w_load (.aload_n 0) 193 (by decide +kernel) rfl rfl ?_
                          refine w_pushN 0 194 (by decide +kernel) ?_
                          refine w_callV1 165 8 2 197 (by decide +kernel) sh_76 (Nat.le_of_ble_eq_true rfl) rfl (by decide) (by omega) ?_
                          refine k_165 hS.1 (by omega) (by omega) (fun r21 hr21 => ?_)
                          dsimp only [Option.toList, List.cons_append, List.nil_append]
                          refine w_ceq 205 200 (by decide +kernel) (fun h22 => ?_) (fun h22 => ?_)
                          · skip
                            refine w_pushN 0 206 (by decide +kernel) ?_
                            refine w_addN 4 207 (by decide +kernel) (by omega) ?_
                            refine w_load (.aload_n 0) 208 (by decide +kernel) rfl rfl ?_
                            refine w_getI (k := 7) 211 (by decide +kernel) sh_76 rfl ?_
                            refine w_ile 219 214 (by decide +kernel) (fun h23 => ?_) (fun h23 => ?_)
                            · skip
                              refine w_pushN 0 220 (by decide +kernel) ?_
                              refine w_addN 4 221 (by decide +kernel) (by omega) ?_
                              exact w_ret (by decide +kernel) (hq _ N_98 hS trivial)
                            · skip
                              refine w_pushN 16 216 (by decide +kernel) ?_
                              refine w_goto 220 (by decide +kernel) ?_
                              refine w_addN 20 221 (by decide +kernel) (by omega) ?_
                              exact w_ret (by decide +kernel) (hq _ N_98 hS trivial)
                          · skip
                            refine w_pushN 8 202 (by decide +kernel) ?_
                            refine w_goto 206 (by decide +kernel) ?_
                            refine w_addN 12 207 (by decide +kernel) (by omega) ?_
                            refine w_load (.aload_n 0) 208 (by decide +kernel) rfl rfl ?_
                            refine w_getI (k := 7) 211 (by decide +kernel) sh_76 rfl ?_
                            refine w_ile 219 214 (by decide +kernel) (fun h24 => ?_) (fun h24 => ?_)
                            · skip
                              refine w_pushN 0 220 (by decide +kernel) ?_
                              refine w_addN 12 221 (by decide +kernel) (by omega) ?_
                              exact w_ret (by decide +kernel) (hq _ N_98 hS trivial)
                            · skip
                              refine w_pushN 16 216 (by decide +kernel) ?_
                              refine w_goto 220 (by decide +kernel) ?_
                              refine w_addN 28 221 (by decide +kernel) (by omega) ?_
                              exact w_ret (by decide +kernel) (hq _ N_98 hS trivial)
                      · skip
                        refine w_pushN 2 167 (by decide +kernel) ?_
                        refine w_goto 171 (by decide +kernel) ?_
                        refine w_addN 2 172 (by decide +kernel) (by omega) ?_
                        refine w_load (.iload 4) 174 (by decide +kernel) rfl rfl ?_
                        refine w_ieq 181 177 (by decide +kernel) (fun h25 => ?_) (fun h25 => ?_)
                        · skip
                          refine w_pushN 0 182 (by decide +kernel) ?_
                          refine w_addN 2 183 (by decide +kernel) (by omega) ?_
                          refine w_store (ls' := [.ref 76, .int (nI k2), .int (nI ((kr5 / 3))), .int x3_20, .int x4_98, .int (nI 2)]) (.istore 5) 185 (by decide +kernel) rfl rfl ?_
                          refine w_load (.iload 5) 187 (by decide +kernel) rfl rfl ?_
                          refine w_load (.aload_n 0) 188 (by decide +kernel) rfl rfl ?_
                          refine w_pushN 1 189 (by decide +kernel) ?_
                          refine w_callV1 165 8 2 192 (by decide +kernel) sh_76 (Nat.le_of_ble_eq_true rfl) rfl (by decide) (by omega) ?_
                          refine k_165 hS.1 (by omega) (by omega) (fun r26 hr26 => ?_)
                          dsimp only [Option.toList, List.cons_append, List.nil_append]
                          refine w_load (.aload_n 0) 193 (by decide +kernel) rfl rfl ?_
                          refine w_pushN 0 194 (by decide +kernel) ?_
                          refine w_callV1 165 8 2 197 (by decide +kernel) sh_76 (Nat.le_of_ble_eq_true rfl) rfl (by decide) (by omega) ?_
                          refine k_165 hS.1 (by omega) (by omega) (fun r27 hr27 => ?_)
                          dsimp only [Option.toList, List.cons_append, List.nil_append]
                          refine w_ceq 205 200 (by decide +kernel) (fun h28 => ?_) (fun h28 => ?_)
                          · skip
                            refine w_pushN 0 206 (by decide +kernel) ?_
                            refine w_addN 2 207 (by decide +kernel) (by omega) ?_
                            refine w_load (.aload_n 0) 208 (by decide +kernel) rfl rfl ?_
                            refine w_getI (k := 7) 211 (by decide +kernel) sh_76 rfl ?_
                            refine w_ile 219 214 (by decide +kernel) (fun h29 => ?_) (fun h29 => ?_)
                            · skip
                              refine w_pushN 0 220 (by decide +kernel) ?_
                              refine w_addN 2 221 (by decide +kernel) (by omega) ?_
                              exact w_ret (by decide +kernel) (hq _ N_98 hS trivial)
                            · skip
                              refine w_pushN 16 216 (by decide +kernel) ?_
                              refine w_goto 220 (by decide +kernel) ?_
                              refine w_addN 18 221 (by decide +kernel) (by omega) ?_
                              exact w_ret (by decide +kernel) (hq _ N_98 hS trivial)
                          · skip
                            refine w_pushN 8 202 (by decide +kernel) ?_
                            refine w_goto 206 (by decide +kernel) ?_
                            refine w_addN 10 207 (by decide +kernel) (by omega) ?_
                            refine w_load (.aload_n 0) 208 (by decide +kernel) rfl rfl ?_
                            refine w_getI (k := 7) 211 (by decide +kernel) sh_76 rfl ?_
                            refine w_ile 219 214 (by decide +kernel) (fun h30 => ?_) (fun h30 => ?_)
                            · skip
                              refine w_pushN 0 220 (by decide +kernel) ?_
                              refine w_addN 10 221 (by decide +kernel) (by omega) ?_
                              exact w_ret (by decide +kernel) (hq _ N_98 hS trivial)
                            · skip
                              refine w_pushN 16 216 (by decide +kernel) ?_
                              refine w_goto 220 (by decide +kernel) ?_
                              refine w_addN 26 221 (by decide +kernel) (by omega) ?_
                              exact w_ret (by decide +kernel) (hq _ N_98 hS trivial)
                        · skip
                          refine w_pushN 4 178 (by decide +kernel) ?_
                          refine w_goto 182 (by decide +kernel) ?_
                          refine w_addN 6 183 (by decide +kernel) (by omega) ?_
                          refine w_store (ls' := [.ref 76, .int (nI k2), .int (nI ((kr5 / 3))), .int x3_20, .int x4_98, .int (nI 6)]) (.istore 5) 185 (by decide +kernel) rfl rfl ?_
                          refine w_load (.iload 5) 187 (by decide +kernel) rfl rfl ?_
                          refine w_load (.aload_n 0) 188 (by decide +kernel) rfl rfl ?_
                          refine w_pushN 1 189 (by decide +kernel) ?_
                          refine w_callV1 165 8 2 192 (by decide +kernel) sh_76 (Nat.le_of_ble_eq_true rfl) rfl (by decide) (by omega) ?_
                          refine k_165 hS.1 (by omega) (by omega) (fun r31 hr31 => ?_)
                          dsimp only [Option.toList, List.cons_append, List.nil_append]
                          refine w_load (.aload_n 0) 193 (by decide +kernel) rfl rfl ?_
                          refine w_pushN 0 194 (by decide +kernel) ?_
                          refine w_callV1 165 8 2 197 (by decide +kernel) sh_76 (Nat.le_of_ble_eq_true rfl) rfl (by decide) (by omega) ?_
                          refine k_165 hS.1 (by omega) (by omega) (fun r32 hr32 => ?_)
                          dsimp only [Option.toList, List.cons_append, List.nil_append]
                          refine w_ceq 205 200 (by decide +kernel) (fun h33 => ?_) (fun h33 => ?_)
                          · skip
                            refine w_pushN 0 206 (by decide +kernel) ?_
                            refine w_addN 6 207 (by decide +kernel) (by omega) ?_
                            refine w_load (.aload_n 0) 208 (by decide +kernel) rfl rfl ?_
                            refine w_getI (k := 7) 211 (by decide +kernel) sh_76 rfl ?_
                            refine w_ile 219 214 (by decide +kernel) (fun h34 => ?_) (fun h34 => ?_)
                            · skip
                              refine w_pushN 0 220 (by decide +kernel) ?_
                              refine w_addN 6 221 (by decide +kernel) (by omega) ?_
                              exact w_ret (by decide +kernel) (hq _ N_98 hS trivial)
                            · skip
                              refine w_pushN 16 216 (by decide +kernel) ?_
                              refine w_goto 220 (by decide +kernel) ?_
                              refine w_addN 22 221 (by decide +kernel) (by omega) ?_
                              exact w_ret (by decide +kernel) (hq _ N_98 hS trivial)
                          · skip
                            refine w_pushN 8 202 (by decide +kernel) ?_
                            refine w_goto 206 (by decide +kernel) ?_
                            refine w_addN 14 207 (by decide +kernel) (by omega) ?_
                            refine w_load (.aload_n 0) 208 (by decide +kernel) rfl rfl ?_
                            refine w_getI (k := 7) 211 (by decide +kernel) sh_76 rfl ?_
                            refine w_ile 219 214 (by decide +kernel) (fun h35 => ?_) (fun h35 => ?_)
                            · skip
                              refine w_pushN 0 220 (by decide +kernel) ?_
                              refine w_addN 14 221 (by decide +kernel) (by omega) ?_
                              exact w_ret (by decide +kernel) (hq _ N_98 hS trivial)
                            · skip
                              refine w_pushN 16 216 (by decide +kernel) ?_
                              refine w_goto 220 (by decide +kernel) ?_
                              refine w_addN 30 221 (by decide +kernel) (by omega) ?_
                              exact w_ret (by decide +kernel) (hq _ N_98 hS trivial)
                  · skip
                    refine w_pushN 1 148 (by decide +kernel) ?_
                    refine w_goto 152 (by decide +kernel) ?_
                    refine w_load (.aload_n 0) 153 (by decide +kernel) rfl rfl ?_
                    refine w_load (.iload_n 1) 154 (by decide +kernel) rfl rfl ?_
                    refine w_callV1 146 8 5 157 (by decide +kernel) sh_76 (Nat.le_of_ble_eq_true rfl) rfl (by decide) (by omega) ?_
                    obtain ⟨n36, hn36, en36⟩ := inv_81 hS.1 k2
                    refine k_146 hS.1 (by omega) (by omega) en36 (by omega) (fun r37 hr37 => ?_)
                    dsimp only [Option.toList, List.cons_append, List.nil_append]
                    rcases hr37 with ⟨kr37, hsr37, er37⟩
                    · skip
                      have hlr37 := hsr37.1
                      refine w_load (.aload_n 0) 158 (by decide +kernel) rfl rfl ?_
                      refine w_getR (k := 6) (r := 81) 161 (by decide +kernel) sh_76 rfl ?_
                      refine w_load (.iload_n 1) 162 (by decide +kernel) rfl rfl ?_
                      refine w_ialdK 163 (by decide +kernel) sh_81 (by decide) (by omega) en36 ?_
                      refine w_cne 170 166 (by decide +kernel) (fun h38 => ?_) (fun h38 => ?_)
                      · skip
                        refine w_pushN 0 171 (by decide +kernel) ?_
                        refine w_addN 1 172 (by decide +kernel) (by omega) ?_
                        refine w_load (.iload 4) 174 (by decide +kernel) rfl rfl ?_
                        refine w_ieq 181 177 (by decide +kernel) (fun h39 => ?_) (fun h39 => ?_)
                        · skip
                          refine w_pushN 0 182 (by decide +kernel) ?_
                          refine w_addN 1 183 (by decide +kernel) (by omega) ?_
                          refine w_store (ls' := [.ref 76, .int (nI k2), .int (nI ((kr5 / 3))), .int x3_20, .int x4_98, .int (nI 1)]) (.istore 5) 185 (by decide +kernel) rfl rfl ?_
                          refine w_load (.iload 5) 187 (by decide +kernel) rfl rfl ?_
                          refine w_load (.aload_n 0) 188 (by decide +kernel) rfl rfl ?_
                          refine w_pushN 1 189 (by decide +kernel) ?_
                          refine w_callV1 165 8 2 192 (by decide +kernel) sh_76 (Nat.le_of_ble_eq_true rfl) rfl (by decide) (by omega) ?_
                          refine k_165 hS.1 (by omega) (by omega) (fun r40 hr40 => ?_)
                          dsimp only [Option.toList, List.cons_append, List.nil_append]
                          refine w_load (.aload_n 0) 193 (by decide +kernel) rfl rfl ?_
                          refine w_pushN 0 194 (by decide +kernel) ?_
                          refine w_callV1 165 8 2 197 (by decide +kernel) sh_76 (Nat.le_of_ble_eq_true rfl) rfl (by decide) (by omega) ?_
                          refine k_165 hS.1 (by omega) (by omega) (fun r41 hr41 => ?_)
                          dsimp only [Option.toList, List.cons_append, List.nil_append]
                          refine w_ceq 205 200 (by decide +kernel) (fun h42 => ?_) (fun h42 => ?_)
                          · skip
                            refine w_pushN 0 206 (by decide +kernel) ?_
                            refine w_addN 1 207 (by decide +kernel) (by omega) ?_
                            refine w_load (.aload_n 0) 208 (by decide +kernel) rfl rfl ?_
                            refine w_getI (k := 7) 211 (by decide +kernel) sh_76 rfl ?_
                            refine w_ile 219 214 (by decide +kernel) (fun h43 => ?_) (fun h43 => ?_)
                            · skip
                              refine w_pushN 0 220 (by decide +kernel) ?_
                              refine w_addN 1 221 (by decide +kernel) (by omega) ?_
                              exact w_ret (by decide +kernel) (hq _ N_98 hS trivial)
                            · skip
                              refine w_pushN 16 216 (by decide +kernel) ?_
                              refine w_goto 220 (by decide +kernel) ?_
                              refine w_addN 17 221 (by decide +kernel) (by omega) ?_
                              exact w_ret (by decide +kernel) (hq _ N_98 hS trivial)
                          · skip
                            refine w_pushN 8 202 (by decide +kernel) ?_
                            refine w_goto 206 (by decide +kernel) ?_
                            refine w_addN 9 207 (by decide +kernel) (by omega) ?_
                            refine w_load (.aload_n 0) 208 (by decide +kernel) rfl rfl ?_
                            refine w_getI (k := 7) 211 (by decide +kernel) sh_76 rfl ?_
                            refine w_ile 219 214 (by decide +kernel) (fun h44 => ?_) (fun h44 => ?_)
                            · skip
                              refine w_pushN 0 220 (by decide +kernel) ?_
                              refine w_addN 9 221 (by decide +kernel) (by omega) ?_
                              exact w_ret (by decide +kernel) (hq _ N_98 hS trivial)
                            · skip
                              refine w_pushN 16 216 (by decide +kernel) ?_
                              refine w_goto 220 (by decide +kernel) ?_
                              refine w_addN 25 221 (by decide +kernel) (by omega) ?_
                              exact w_ret (by decide +kernel) (hq _ N_98 hS trivial)
                        · skip
                          refine w_pushN 4 178 (by decide +kernel) ?_
                          refine w_goto 182 (by decide +kernel) ?_
                          refine w_addN 5 183 (by decide +kernel) (by omega) ?_
                          refine w_store (ls' := [.ref 76, .int (nI k2), .int (nI ((kr5 / 3))), .int x3_20, .int x4_98, .int (nI 5)]) (.istore 5) 185 (by decide +kernel) rfl rfl ?_
                          refine w_load (.iload 5) 187 (by decide +kernel) rfl rfl ?_
                          refine w_load (.aload_n 0) 188 (by decide +kernel) rfl rfl ?_
                          refine w_pushN 1 189 (by decide +kernel) ?_
                          refine w_callV1 165 8 2 192 (by decide +kernel) sh_76 (Nat.le_of_ble_eq_true rfl) rfl (by decide) (by omega) ?_
                          refine k_165 hS.1 (by omega) (by omega) (fun r45 hr45 => ?_)
                          dsimp only [Option.toList, List.cons_append, List.nil_append]
                          refine w_load (.aload_n 0) 193 (by decide +kernel) rfl rfl ?_
                          refine w_pushN 0 194 (by decide +kernel) ?_
                          refine w_callV1 165 8 2 197 (by decide +kernel) sh_76 (Nat.le_of_ble_eq_true rfl) rfl (by decide) (by omega) ?_
                          refine k_165 hS.1 (by omega) (by omega) (fun r46 hr46 => ?_)
                          dsimp only [Option.toList, List.cons_append, List.nil_append]
                          refine w_ceq 205 200 (by decide +kernel) (fun h47 => ?_) (fun h47 => ?_)
                          · skip
                            refine w_pushN 0 206 (by decide +kernel) ?_
                            refine w_addN 5 207 (by decide +kernel) (by omega) ?_
                            refine w_load (.aload_n 0) 208 (by decide +kernel) rfl rfl ?_
                            refine w_getI (k := 7) 211 (by decide +kernel) sh_76 rfl ?_
                            refine w_ile 219 214 (by decide +kernel) (fun h48 => ?_) (fun h48 => ?_)
                            · skip
                              refine w_pushN 0 220 (by decide +kernel) ?_
                              refine w_addN 5 221 (by decide +kernel) (by omega) ?_
                              exact w_ret (by decide +kernel) (hq _ N_98 hS trivial)
                            · skip
                              refine w_pushN 16 216 (by decide +kernel) ?_
                              refine w_goto 220 (by decide +kernel) ?_
                              refine w_addN 21 221 (by decide +kernel) (by omega) ?_
                              exact w_ret (by decide +kernel) (hq _ N_98 hS trivial)
                          · skip
                            refine w_pushN 8 202 (by decide +kernel) ?_
                            refine w_goto 206 (by decide +kernel) ?_
                            refine w_addN 13 207 (by decide +kernel) (by omega) ?_
                            refine w_load (.aload_n 0) 208 (by decide +kernel) rfl rfl ?_
                            refine w_getI (k := 7) 211 (by decide +kernel) sh_76 rfl ?_
                            refine w_ile 219 214 (by decide +kernel) (fun h49 => ?_) (fun h49 => ?_)
                            · skip
                              refine w_pushN 0 220 (by decide +kernel) ?_
                              refine w_addN 13 221 (by decide +kernel) (by omega) ?_
                              exact w_ret (by decide +kernel) (hq _ N_98 hS trivial)
                            · skip
                              refine w_pushN 16 216 (by decide +kernel) ?_
                              refine w_goto 220 (by decide +kernel) ?_
                              refine w_addN 29 221 (by decide +kernel) (by omega) ?_
                              exact w_ret (by decide +kernel) (hq _ N_98 hS trivial)
                      · skip
                        refine w_pushN 2 167 (by decide +kernel) ?_
                        refine w_goto 171 (by decide +kernel) ?_
                        refine w_addN 3 172 (by decide +kernel) (by omega) ?_
                        refine w_load (.iload 4) 174 (by decide +kernel) rfl rfl ?_
                        refine w_ieq 181 177 (by decide +kernel) (fun h50 => ?_) (fun h50 => ?_)
                        · skip
                          refine w_pushN 0 182 (by decide +kernel) ?_
                          refine w_addN 3 183 (by decide +kernel) (by omega) ?_
                          refine w_store (ls' := [.ref 76, .int (nI k2), .int (nI ((kr5 / 3))), .int x3_20, .int x4_98, .int (nI 3)]) (.istore 5) 185 (by decide +kernel) rfl rfl ?_
                          refine w_load (.iload 5) 187 (by decide +kernel) rfl rfl ?_
                          refine w_load (.aload_n 0) 188 (by decide +kernel) rfl rfl ?_
                          refine w_pushN 1 189 (by decide +kernel) ?_
                          refine w_callV1 165 8 2 192 (by decide +kernel) sh_76 (Nat.le_of_ble_eq_true rfl) rfl (by decide) (by omega) ?_
                          refine k_165 hS.1 (by omega) (by omega) (fun r51 hr51 => ?_)
                          dsimp only [Option.toList, List.cons_append, List.nil_append]
                          refine w_load (.aload_n 0) 193 (by decide +kernel) rfl rfl ?_
                          refine w_pushN 0 194 (by decide +kernel) ?_
                          refine w_callV1 165 8 2 197 (by decide +kernel) sh_76 (Nat.le_of_ble_eq_true rfl) rfl (by decide) (by omega) ?_
                          refine k_165 hS.1 (by omega) (by omega) (fun r52 hr52 => ?_)
                          dsimp only [Option.toList, List.cons_append, List.nil_append]
                          refine w_ceq 205 200 (by decide +kernel) (fun h53 => ?_) (fun h53 => ?_)
                          · skip
                            refine w_pushN 0 206 (by decide +kernel) ?_
                            refine w_addN 3 207 (by decide +kernel) (by omega) ?_
                            refine w_load (.aload_n 0) 208 (by decide +kernel) rfl rfl ?_
                            refine w_getI (k := 7) 211 (by decide +kernel) sh_76 rfl ?_
                            refine w_ile 219 214 (by decide +kernel) (fun h54 => ?_) (fun h54 => ?_)
                            · skip
                              refine w_pushN 0 220 (by decide +kernel) ?_
                              refine w_addN 3 221 (by decide +kernel) (by omega) ?_
                              exact w_ret (by decide +kernel) (hq _ N_98 hS trivial)
                            · skip
                              refine w_pushN 16 216 (by decide +kernel) ?_
                              refine w_goto 220 (by decide +kernel) ?_
                              refine w_addN 19 221 (by decide +kernel) (by omega) ?_
                              exact w_ret (by decide +kernel) (hq _ N_98 hS trivial)
                          · skip
                            refine w_pushN 8 202 (by decide +kernel) ?_
                            refine w_goto 206 (by decide +kernel) ?_
                            refine w_addN 11 207 (by decide +kernel) (by omega) ?_
                            refine w_load (.aload_n 0) 208 (by decide +kernel) rfl rfl ?_
                            refine w_getI (k := 7) 211 (by decide +kernel) sh_76 rfl ?_
                            refine w_ile 219 214 (by decide +kernel) (fun h55 => ?_) (fun h55 => ?_)
                            · skip
                              refine w_pushN 0 220 (by decide +kernel) ?_
                              refine w_addN 11 221 (by decide +kernel) (by omega) ?_
                              exact w_ret (by decide +kernel) (hq _ N_98 hS trivial)
                            · skip
                              refine w_pushN 16 216 (by decide +kernel) ?_
                              refine w_goto 220 (by decide +kernel) ?_
                              refine w_addN 27 221 (by decide +kernel) (by omega) ?_
                              exact w_ret (by decide +kernel) (hq _ N_98 hS trivial)
                        · skip
                          refine w_pushN 4 178 (by decide +kernel) ?_
                          refine w_goto 182 (by decide +kernel) ?_
                          refine w_addN 7 183 (by decide +kernel) (by omega) ?_
                          refine w_store (ls' := [.ref 76, .int (nI k2), .int (nI ((kr5 / 3))), .int x3_20, .int x4_98, .int (nI 7)]) (.istore 5) 185 (by decide +kernel) rfl rfl ?_
                          refine w_load (.iload 5) 187 (by decide +kernel) rfl rfl ?_
                          refine w_load (.aload_n 0) 188 (by decide +kernel) rfl rfl ?_
                          refine w_pushN 1 189 (by decide +kernel) ?_
                          refine w_callV1 165 8 2 192 (by decide +kernel) sh_76 (Nat.le_of_ble_eq_true rfl) rfl (by decide) (by omega) ?_
                          refine k_165 hS.1 (by omega) (by omega) (fun r56 hr56 => ?_)
                          dsimp only [Option.toList, List.cons_append, List.nil_append]
                          refine w_load (.aload_n 0) 193 (by decide +kernel) rfl rfl ?_
                          refine w_pushN 0 194 (by decide +kernel) ?_
                          refine w_callV1 165 8 2 197 (by decide +kernel) sh_76 (Nat.le_of_ble_eq_true rfl) rfl (by decide) (by omega) ?_
                          refine k_165 hS.1 (by omega) (by omega) (fun r57 hr57 => ?_)
                          dsimp only [Option.toList, List.cons_append, List.nil_append]
                          refine w_ceq 205 200 (by decide +kernel) (fun h58 => ?_) (fun h58 => ?_)
                          · skip
                            refine w_pushN 0 206 (by decide +kernel) ?_
                            refine w_addN 7 207 (by decide +kernel) (by omega) ?_
                            refine w_load (.aload_n 0) 208 (by decide +kernel) rfl rfl ?_
                            refine w_getI (k := 7) 211 (by decide +kernel) sh_76 rfl ?_
                            refine w_ile 219 214 (by decide +kernel) (fun h59 => ?_) (fun h59 => ?_)
                            · skip
                              refine w_pushN 0 220 (by decide +kernel) ?_
                              refine w_addN 7 221 (by decide +kernel) (by omega) ?_
                              exact w_ret (by decide +kernel) (hq _ N_98 hS trivial)
                            · skip
                              refine w_pushN 16 216 (by decide +kernel) ?_
                              refine w_goto 220 (by decide +kernel) ?_
                              refine w_addN 23 221 (by decide +kernel) (by omega) ?_
                              exact w_ret (by decide +kernel) (hq _ N_98 hS trivial)
                          · skip
                            refine w_pushN 8 202 (by decide +kernel) ?_
                            refine w_goto 206 (by decide +kernel) ?_
                            refine w_addN 15 207 (by decide +kernel) (by omega) ?_
                            refine w_load (.aload_n 0) 208 (by decide +kernel) rfl rfl ?_
                            refine w_getI (k := 7) 211 (by decide +kernel) sh_76 rfl ?_
                            refine w_ile 219 214 (by decide +kernel) (fun h60 => ?_) (fun h60 => ?_)
                            · skip
                              refine w_pushN 0 220 (by decide +kernel) ?_
                              refine w_addN 15 221 (by decide +kernel) (by omega) ?_
                              exact w_ret (by decide +kernel) (hq _ N_98 hS trivial)
                            · skip
                              refine w_pushN 16 216 (by decide +kernel) ?_
                              refine w_goto 220 (by decide +kernel) ?_
                              refine w_addN 31 221 (by decide +kernel) (by omega) ?_
                              exact w_ret (by decide +kernel) (hq _ N_98 hS trivial)
                · skip
                  refine w_load (.iload 4) 107 (by decide +kernel) rfl rfl ?_
                  refine w_ieq 134 110 (by decide +kernel) (fun h61 => ?_) (fun h61 => ?_)
                  · skip
                    refine w_pushN 0 135 (by decide +kernel) ?_
                    refine w_store (ls' := [.ref 76, .int (nI k2), .int (nI ((kr5 / 3))), .int x3_20, .int (nI 0), .int (nI g5)]) (.istore 4) 137 (by decide +kernel) rfl rfl ?_
                    refine w_iincN (z := 5) (g5 + 1) 140 (by decide +kernel) rfl (Nat.le_of_ble_eq_true rfl) rfl rfl ?_
                    show Wp _ _ _ [.ref 76, .int (nI k2), .int (nI ((kr5 / 3))), .int x3_20, .int (nI 0), .int (nI (g5 + 1))] _ _ _ _
                    refine w_goto 98 (by decide +kernel) ?_
                    exact ih_98 N_98 _ (g5 + 1) hS (by omega) (by omega)
                  · skip
                    refine w_load (.aload_n 0) 111 (by decide +kernel) rfl rfl ?_
                    refine w_getR (k := 2) (r := 78) 114 (by decide +kernel) sh_76 rfl ?_
                    refine w_load (.iload 5) 116 (by decide +kernel) rfl rfl ?_
                    refine w_ialdN 117 (by decide +kernel) sh_78 (by omega) (by omega) ?_
                    refine w_load (.aload_n 0) 118 (by decide +kernel) rfl rfl ?_
                    refine w_getR (k := 2) (r := 78) 121 (by decide +kernel) sh_76 rfl ?_
                    refine w_pushN 22 123 (by decide +kernel) ?_
                    refine w_load (.iload 5) 125 (by decide +kernel) rfl rfl ?_
                    refine w_addN (22 + g5) 126 (by decide +kernel) (by omega) ?_
                    refine w_ialdN 127 (by decide +kernel) sh_78 (by omega) (by omega) ?_
                    refine w_cne 134 130 (by decide +kernel) (fun h62 => ?_) (fun h62 => ?_)
                    · skip
                      refine w_pushN 0 135 (by decide +kernel) ?_
                      refine w_store (ls' := [.ref 76, .int (nI k2), .int (nI ((kr5 / 3))), .int x3_20, .int (nI 0), .int (nI g5)]) (.istore 4) 137 (by decide +kernel) rfl rfl ?_
                      refine w_iincN (z := 5) (g5 + 1) 140 (by decide +kernel) rfl (Nat.le_of_ble_eq_true rfl) rfl rfl ?_
                      show Wp _ _ _ [.ref 76, .int (nI k2), .int (nI ((kr5 / 3))), .int x3_20, .int (nI 0), .int (nI (g5 + 1))] _ _ _ _
                      refine w_goto 98 (by decide +kernel) ?_
                      exact ih_98 N_98 _ (g5 + 1) hS (by omega) (by omega)
                    · skip
                      refine w_pushN 1 131 (by decide +kernel) ?_
                      refine w_goto 135 (by decide +kernel) ?_
                      refine w_store (ls' := [.ref 76, .int (nI k2), .int (nI ((kr5 / 3))), .int x3_20, .int (nI 1), .int (nI g5)]) (.istore 4) 137 (by decide +kernel) rfl rfl ?_
                      refine w_iincN (z := 5) (g5 + 1) 140 (by decide +kernel) rfl (Nat.le_of_ble_eq_true rfl) rfl rfl ?_
                      show Wp _ _ _ [.ref 76, .int (nI k2), .int (nI ((kr5 / 3))), .int x3_20, .int (nI 1), .int (nI (g5 + 1))] _ _ _ _
                      refine w_goto 98 (by decide +kernel) ?_
                      exact ih_98 N_98 _ (g5 + 1) hS (by omega) (by omega)
            exact LP_98 _ Nr8 _ 0 hS (by omega) (Nat.lt_succ_self _)
          · skip
            refine w_load (.iload_n 3) 27 (by decide +kernel) rfl rfl ?_
            refine w_ieq 70 30 (by decide +kernel) (fun h63 => ?_) (fun h63 => ?_)
            · skip
              refine w_pushN 0 71 (by decide +kernel) ?_
              refine w_store (ls' := [.ref 76, .int (nI k2), .int (nI ((kr5 / 3))), .int (nI 0), .int (nI g4), .null]) (.istore_n 3) 72 (by decide +kernel) rfl rfl ?_
              refine w_iincN (z := 4) (g4 + 1) 75 (by decide +kernel) rfl (Nat.le_of_ble_eq_true rfl) rfl rfl ?_
              show Wp _ _ _ [.ref 76, .int (nI k2), .int (nI ((kr5 / 3))), .int (nI 0), .int (nI (g4 + 1)), .null] _ _ _ _
              refine w_goto 20 (by decide +kernel) ?_
              exact ih_20 N_20 _ (g4 + 1) hS (by omega) (by omega)
            · skip
              refine w_load (.aload_n 0) 31 (by decide +kernel) rfl rfl ?_
              refine w_pushN 0 32 (by decide +kernel) ?_
              refine w_load (.aload_n 0) 33 (by decide +kernel) rfl rfl ?_
              refine w_load (.iload_n 1) 34 (by decide +kernel) rfl rfl ?_
              refine w_load (.iload 4) 36 (by decide +kernel) rfl rfl ?_
              refine w_callV2 149 8 4 39 (by decide +kernel) sh_76 (Nat.le_of_ble_eq_true rfl) rfl rfl (by decide) (by omega) ?_
              refine k_149 hS.1 (by omega) (by omega) (by omega) (fun r64 hr64 => ?_)
              dsimp only [Option.toList, List.cons_append, List.nil_append]
              refine w_pushN 4 40 (by decide +kernel) ?_
              refine w_div 41 (by decide +kernel) (by decide) ?_
              refine w_pushN 4 42 (by decide +kernel) ?_
              refine w_rem 43 (by decide +kernel) (by decide) ?_
              refine w_callV2 152 8 6 46 (by decide +kernel) sh_76 (Nat.le_of_ble_eq_true rfl) rfl rfl (by decide) (by omega) ?_
              refine k_152 hS.1 (by omega) (by omega) (fun r65 hr65 => ?_)
              dsimp only [Option.toList, List.cons_append, List.nil_append]
              refine w_ine 70 49 (by decide +kernel) (fun h66 => ?_) (fun h66 => ?_)
              · skip
                refine w_pushN 0 71 (by decide +kernel) ?_
                refine w_store (ls' := [.ref 76, .int (nI k2), .int (nI ((kr5 / 3))), .int (nI 0), .int (nI g4), .null]) (.istore_n 3) 72 (by decide +kernel) rfl rfl ?_
                refine w_iincN (z := 4) (g4 + 1) 75 (by decide +kernel) rfl (Nat.le_of_ble_eq_true rfl) rfl rfl ?_
                show Wp _ _ _ [.ref 76, .int (nI k2), .int (nI ((kr5 / 3))), .int (nI 0), .int (nI (g4 + 1)), .null] _ _ _ _
                refine w_goto 20 (by decide +kernel) ?_
                exact ih_20 N_20 _ (g4 + 1) hS (by omega) (by omega)
              · skip
                refine w_load (.aload_n 0) 50 (by decide +kernel) rfl rfl ?_
                refine w_pushN 0 51 (by decide +kernel) ?_
                refine w_load (.aload_n 0) 52 (by decide +kernel) rfl rfl ?_
                refine w_load (.iload_n 1) 53 (by decide +kernel) rfl rfl ?_
                refine w_load (.iload 4) 55 (by decide +kernel) rfl rfl ?_
                refine w_callV2 149 8 4 58 (by decide +kernel) sh_76 (Nat.le_of_ble_eq_true rfl) rfl rfl (by decide) (by omega) ?_
                refine k_149 hS.1 (by omega) (by omega) (by omega) (fun r67 hr67 => ?_)
                dsimp only [Option.toList, List.cons_append, List.nil_append]
                refine w_pushN 4 59 (by decide +kernel) ?_
                refine w_rem 60 (by decide +kernel) (by decide) ?_
                refine w_callV2 152 8 6 63 (by decide +kernel) sh_76 (Nat.le_of_ble_eq_true rfl) rfl rfl (by decide) (by omega) ?_
                refine k_152 hS.1 (by omega) (by omega) (fun r68 hr68 => ?_)
                dsimp only [Option.toList, List.cons_append, List.nil_append]
                refine w_ine 70 66 (by decide +kernel) (fun h69 => ?_) (fun h69 => ?_)
                · skip
                  refine w_pushN 0 71 (by decide +kernel) ?_
                  refine w_store (ls' := [.ref 76, .int (nI k2), .int (nI ((kr5 / 3))), .int (nI 0), .int (nI g4), .null]) (.istore_n 3) 72 (by decide +kernel) rfl rfl ?_
                  refine w_iincN (z := 4) (g4 + 1) 75 (by decide +kernel) rfl (Nat.le_of_ble_eq_true rfl) rfl rfl ?_
                  show Wp _ _ _ [.ref 76, .int (nI k2), .int (nI ((kr5 / 3))), .int (nI 0), .int (nI (g4 + 1)), .null] _ _ _ _
                  refine w_goto 20 (by decide +kernel) ?_
                  exact ih_20 N_20 _ (g4 + 1) hS (by omega) (by omega)
                · skip
                  refine w_pushN 1 67 (by decide +kernel) ?_
                  refine w_goto 71 (by decide +kernel) ?_
                  refine w_store (ls' := [.ref 76, .int (nI k2), .int (nI ((kr5 / 3))), .int (nI 1), .int (nI g4), .null]) (.istore_n 3) 72 (by decide +kernel) rfl rfl ?_
                  refine w_iincN (z := 4) (g4 + 1) 75 (by decide +kernel) rfl (Nat.le_of_ble_eq_true rfl) rfl rfl ?_
                  show Wp _ _ _ [.ref 76, .int (nI k2), .int (nI ((kr5 / 3))), .int (nI 1), .int (nI (g4 + 1)), .null] _ _ _ _
                  refine w_goto 20 (by decide +kernel) ?_
                  exact ih_20 N_20 _ (g4 + 1) hS (by omega) (by omega)
      exact LP_20 _ N _ 0 hS (by omega) (Nat.lt_succ_self _)
  · skip
    refine w_ine 9 7 (by decide +kernel) (fun hz => absurd hz (by decide)) (fun _ => ?_)
    refine w_push (-1) 8 (by decide +kernel) ?_
    exact w_ret (by decide +kernel) (hq _ N hS trivial)
