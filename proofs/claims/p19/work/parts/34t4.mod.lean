-- X8_dead#s
set_option maxRecDepth 10000 in
theorem s_dead8 {d : Nat} {M : Mt} {L : Lt} {Q : Option Value → Mt → Lt → Prop} {lv n : Nat} {c : Row}  (hI : Inv M) (hlv : lv ≤ 7) (hn : n ≤ 5) (en : M 76 0 = nI n) (hc : HE n (lvC M lv) c) (hd : 0 ≤ d) (hq : ∀ (r : Int32), (r = deadI n c) → Q (some (.int r)) M L) : Wp d 165 0 [.ref 76, .int (nI lv)] [] M L Q := by
  refine w_pushN 1 1 (by decide +kernel) ?_
  refine w_load (.aload_n 0) 2 (by decide +kernel) rfl rfl ?_
  refine w_getK (k := 0) 5 (by decide +kernel) sh_76 rfl en ?_
  refine w_pure .ishl 6 (by decide +kernel) rfl rfl ?_
  refine w_pushN 1 7 (by decide +kernel) ?_
  refine w_pure .isub 8 (by decide +kernel) rfl rfl ?_
  refine w_load (.aload_n 0) 9 (by decide +kernel) rfl rfl ?_
  refine w_getR (k := 2) (r := 78) 12 (by decide +kernel) sh_76 rfl ?_
  refine w_pushN 22 14 (by decide +kernel) ?_
  refine w_load (.iload_n 1) 15 (by decide +kernel) rfl rfl ?_
  refine w_mulN (22 * lv) 16 (by decide +kernel) rfl ?_
  refine w_pushN 15 18 (by decide +kernel) ?_
  refine w_addN (22 * lv + 15) 19 (by decide +kernel) (by omega) ?_
  refine w_ialdN 20 (by decide +kernel) sh_78 (by omega) (by omega) ?_
  refine w_push (-1) 21 (by decide +kernel) ?_
  refine w_pure .ixor 22 (by decide +kernel) rfl rfl ?_
  refine w_pure .iand 23 (by decide +kernel) rfl rfl ?_
  exact w_ret (by decide +kernel) (hq _ (by unfold deadI; rw [← hc.2.1]; rfl))
-- X8_ones#s
set_option maxRecDepth 10000 in
theorem s_ones {d : Nat} {M : Mt} {L : Lt} {Q : Option Value → Mt → Lt → Prop} {a : Int32} (hI : Inv M)  (hd : 0 ≤ d) (hq : ∀ (r : Int32), (r = sumI 8 (fun k => (a >>> (nI k &&& 31)) &&& nI 1)) → Q (some (.int r)) M L) : Wp d 136 0 [.int a, .null, .null] [] M L Q := by
  refine w_pushN 0 1 (by decide +kernel) ?_
  refine w_store (ls' := [.int a, .int (nI 0), .null]) (.istore_n 1) 2 (by decide +kernel) rfl rfl ?_
  refine w_pushN 0 3 (by decide +kernel) ?_
  refine w_store (ls' := [.int a, .int (nI 0), .int (nI 0)]) (.istore_n 2) 4 (by decide +kernel) rfl rfl ?_
  have LP_4 : ∀ (kk : Nat) (x1_4 : Int32) (g2 : Nat), g2 ≤ 8 → x1_4 = sumI g2 (fun k => (a >>> (nI k &&& 31)) &&& nI 1) → 8 - g2 < kk → Wp d 136 4 [.int a, .int x1_4, .int (nI g2)] [] M L Q := by
    intro kk
    induction kk with
    | zero => intro x1_4 g2 hi0_4 hi1_4 hm_4; exact absurd hm_4 (Nat.not_lt_zero _)
    | succ kk ih_4 =>
      intro x1_4 g2 hi0_4 hi1_4 hm_4
      refine w_load (.iload_n 2) 5 (by decide +kernel) rfl rfl ?_
      refine w_pushN 8 7 (by decide +kernel) ?_
      refine w_cgeN 24 10 (by decide +kernel) (by omega) (by omega) (fun h1 => ?_) (fun h1 => ?_)
      · skip
        refine w_load (.iload_n 1) 25 (by decide +kernel) rfl rfl ?_
        exact w_ret (by decide +kernel) (hq _ (by have hgn : g2 = 8 := (by omega); rw [hgn] at hi1_4; exact hi1_4))
      · skip
        refine w_load (.iload_n 1) 11 (by decide +kernel) rfl rfl ?_
        refine w_load (.iload_n 0) 12 (by decide +kernel) rfl rfl ?_
        refine w_load (.iload_n 2) 13 (by decide +kernel) rfl rfl ?_
        refine w_pure .ishr 14 (by decide +kernel) rfl rfl ?_
        refine w_pushN 1 15 (by decide +kernel) ?_
        refine w_pure .iand 16 (by decide +kernel) rfl rfl ?_
        refine w_pure .iadd 17 (by decide +kernel) rfl rfl ?_
        refine w_topi (fun v2 ev2 => ?_)
        refine w_store (ls' := [.int a, .int v2, .int (nI g2)]) (.istore_n 1) 18 (by decide +kernel) rfl rfl ?_
        have esum := ev2
        refine w_iincN (z := 2) (g2 + 1) 21 (by decide +kernel) rfl (Nat.le_of_ble_eq_true rfl) rfl rfl ?_
        show Wp _ _ _ [.int a, .int v2, .int (nI (g2 + 1))] _ _ _ _
        refine w_goto 4 (by decide +kernel) ?_
        exact ih_4 _ (g2 + 1) (by first | omega | (rw [esum, hi1_4]; rfl)) (by first | omega | (rw [esum, hi1_4]; rfl)) (by omega)
  exact LP_4 _ _ 0 (by first | omega | rfl) (by first | omega | rfl) (Nat.lt_succ_self _)
-- X8_keepAct#s
set_option maxRecDepth 10000 in
theorem s_keepAct {d : Nat} {M : Mt} {L : Lt} {Q : Option Value → Mt → Lt → Prop} {n na nx : Nat} {ra : Nat → Row} {c : Row}  (hI : Inv M) (hn : n ≤ 5) (hna : na ≤ 12) (hA : acM n na nx ra M) (hc : HE n (lvC M 0) c) (hd : 0 ≤ d) (hq : ∀ (N : Mt), St (fun i k => i = 82 ∨ (i = 76 ∧ (k = 8 ∨ k = 9))) M N → (acM n (pushN na) ((nx + 1) % 12) (pushR na ra c) N) → Q none N L) : Wp d 161 0 [.ref 76, .null] [] M L Q := by
  refine (show ∀ N : Mt, N = M → St (fun i k => i = 82 ∨ (i = 76 ∧ (k = 8 ∨ k = 9))) M N → Wp d 161 0 [.ref 76, .null] [] N L Q from ?_) M rfl (St.rf hI)
  intro N hNM hS
  have kz0 : N (76) 9 = nI nx := by rw [hNM]; exact hA.2.1
  have kz1 : N (76) 8 = nI na := by rw [hNM]; exact hA.1
  refine w_pushN 0 1 (by decide +kernel) ?_
  refine w_store (ls' := [.ref 76, .int (nI 0)]) (.istore_n 1) 2 (by decide +kernel) rfl rfl ?_
  have LP_2 : ∀ (kk : Nat) (N_2 : Mt) (g1 : Nat), St (fun i k => i = 82 ∨ (i = 76 ∧ (k = 8 ∨ k = 9))) M N_2 → g1 ≤ 17 → (∀ k, k < g1 → N_2 82 (17 * nx + k) = M 78 k) → (∀ j, j < 12 → ¬ j = nx → ∀ k, k < 17 → N_2 82 (17 * j + k) = M 82 (17 * j + k)) → N_2 76 9 = nI nx → N_2 76 8 = nI na → 17 - g1 < kk → Wp d 161 2 [.ref 76, .int (nI g1)] [] N_2 L Q := by
    intro kk
    induction kk with
    | zero => intro N_2 g1 hS hi0_2 hi1_2 hi2_2 hi3_2 hi4_2 hm_2; exact absurd hm_2 (Nat.not_lt_zero _)
    | succ kk ih_2 =>
      intro N_2 g1 hS hi0_2 hi1_2 hi2_2 hi3_2 hi4_2 hm_2
      have hS0 := hS
      have hnx := hA.2.2.1
      refine w_load (.iload_n 1) 3 (by decide +kernel) rfl rfl ?_
      refine w_pushN 17 5 (by decide +kernel) ?_
      refine w_cgeN 34 8 (by decide +kernel) (by omega) (by omega) (fun h1 => ?_) (fun h1 => ?_)
      · skip
        refine w_load (.aload_n 0) 35 (by decide +kernel) rfl rfl ?_
        refine w_load (.aload_n 0) 36 (by decide +kernel) rfl rfl ?_
        refine w_getK (k := 9) 39 (by decide +kernel) sh_76 rfl hi3_2 ?_
        refine w_pushN 1 40 (by decide +kernel) ?_
        refine w_addN (nx + 1) 41 (by decide +kernel) (by omega) ?_
        refine w_pushN 12 43 (by decide +kernel) ?_
        refine w_remN ((nx + 1) % 12) 44 (by decide +kernel) (by decide) (by decide) (by omega) rfl ?_
        refine w_putE (k := 9) 47 (by decide +kernel) sh_76 rfl hS (rg_76n (B := 11) (by omega) (by decide)) (by first | exact rfl | omega | (dsimp only; omega) | (simp only [Hs, Tl, Sc, isHs, isScr, isTs] at *; omega)) (fun Nq2 hS hq2 oq2 mq2 => ?_)
        have kn3 := (oq2 (76) 8 (by first | omega | (simp only [Hs, Tl, Sc, isHs, isScr, isTs] at *; omega))).trans hi4_2
        refine w_load (.aload_n 0) 48 (by decide +kernel) rfl rfl ?_
        refine w_load (.aload_n 0) 49 (by decide +kernel) rfl rfl ?_
        refine w_getK (k := 8) 52 (by decide +kernel) sh_76 rfl kn3 ?_
        refine w_pushN 12 54 (by decide +kernel) ?_
        refine w_cgeN 66 57 (by decide +kernel) (by omega) (by omega) (fun h4 => ?_) (fun h4 => ?_)
        · skip
          refine w_pushN 12 68 (by decide +kernel) ?_
          refine w_putE (k := 8) 71 (by decide +kernel) sh_76 rfl hS (rg_76 (by decide)) (by first | exact rfl | omega | (dsimp only; omega) | (simp only [Hs, Tl, Sc, isHs, isScr, isTs] at *; omega)) (fun Nq5 hS hq5 oq5 mq5 => ?_)
          have kn6 := (oq5 (76) 9 (by first | omega | (simp only [Hs, Tl, Sc, isHs, isScr, isTs] at *; omega))).trans hq2
          exact w_retV (by decide +kernel) (hq Nq5 hS (keep_a hn hna hA hc (by rw [mq5, up2_eq]; unfold pushN; first | rw [if_neg (by omega)] | (rw [if_pos (by omega)])) (by rw [mq5, up2_ne (by decide), mq2, up2_eq]) (fun k hk => by rw [mq5, up2_ne (by omega), mq2, up2_ne (by omega)]; exact hi1_2 k (by omega)) (fun j h1 h2 k hk => by rw [mq5, up2_ne (by omega), mq2, up2_ne (by omega)]; exact hi2_2 j h1 h2 k hk)))
        · skip
          refine w_load (.aload_n 0) 58 (by decide +kernel) rfl rfl ?_
          refine w_getK (k := 8) 61 (by decide +kernel) sh_76 rfl kn3 ?_
          refine w_pushN 1 62 (by decide +kernel) ?_
          refine w_addN (na + 1) 63 (by decide +kernel) (by omega) ?_
          refine w_goto 68 (by decide +kernel) ?_
          refine w_putE (k := 8) 71 (by decide +kernel) sh_76 rfl hS (rg_76 (by decide)) (by first | exact rfl | omega | (dsimp only; omega) | (simp only [Hs, Tl, Sc, isHs, isScr, isTs] at *; omega)) (fun Nq7 hS hq7 oq7 mq7 => ?_)
          have kn8 := (oq7 (76) 9 (by first | omega | (simp only [Hs, Tl, Sc, isHs, isScr, isTs] at *; omega))).trans hq2
          exact w_retV (by decide +kernel) (hq Nq7 hS (keep_a hn hna hA hc (by rw [mq7, up2_eq]; unfold pushN; first | rw [if_neg (by omega)] | (rw [if_pos (by omega)])) (by rw [mq7, up2_ne (by decide), mq2, up2_eq]) (fun k hk => by rw [mq7, up2_ne (by omega), mq2, up2_ne (by omega)]; exact hi1_2 k (by omega)) (fun j h1 h2 k hk => by rw [mq7, up2_ne (by omega), mq2, up2_ne (by omega)]; exact hi2_2 j h1 h2 k hk)))
      · skip
        refine w_load (.aload_n 0) 9 (by decide +kernel) rfl rfl ?_
        refine w_getR (k := 10) (r := 82) 12 (by decide +kernel) sh_76 rfl ?_
        refine w_pushN 17 14 (by decide +kernel) ?_
        refine w_load (.aload_n 0) 15 (by decide +kernel) rfl rfl ?_
        refine w_getK (k := 9) 18 (by decide +kernel) sh_76 rfl hi3_2 ?_
        refine w_mulN (17 * nx) 19 (by decide +kernel) rfl ?_
        refine w_load (.iload_n 1) 20 (by decide +kernel) rfl rfl ?_
        refine w_addN (17 * nx + g1) 21 (by decide +kernel) (by omega) ?_
        refine w_load (.aload_n 0) 22 (by decide +kernel) rfl rfl ?_
        refine w_getR (k := 2) (r := 78) 25 (by decide +kernel) sh_76 rfl ?_
        refine w_load (.iload_n 1) 26 (by decide +kernel) rfl rfl ?_
        refine w_ialdN 27 (by decide +kernel) sh_78 (by omega) (by omega) ?_
        refine w_iastE 28 (by decide +kernel) sh_82 (by omega) (by omega) hS (rg_82 (fun h1 h2 => by first | omega | exact Or.inl rfl | exact Or.inr ⟨_, by omega, rfl⟩ | exact inv_78 hS.1 _ (by omega) (by omega) | exact inv_82 hS.1 _ (by omega) (by omega) | exact inv_89 hS.1 _ (by omega) (by omega))) (by first | exact rfl | omega | (dsimp only; omega) | (simp only [Hs, Tl, Sc, isHs, isScr, isTs] at *; omega)) (fun Nq9 hS hq9 oq9 mq9 => ?_)
        have kn10 := (oq9 (76) 9 (by first | omega | (simp only [Hs, Tl, Sc, isHs, isScr, isTs] at *; omega))).trans hi3_2
        have kn11 := (oq9 (76) 8 (by first | omega | (simp only [Hs, Tl, Sc, isHs, isScr, isTs] at *; omega))).trans hi4_2
        have b1 := ka_row (nx := nx) hi1_2 mq9 (hS0.2 78 g1 (by omega)) (by omega)
        have b2 := ka_oth (nx := nx) hi2_2 mq9 (by omega)
        refine w_iincN (z := 1) (g1 + 1) 31 (by decide +kernel) rfl (Nat.le_of_ble_eq_true rfl) rfl rfl ?_
        show Wp _ _ _ [.ref 76, .int (nI (g1 + 1))] _ _ _ _
        refine w_goto 2 (by decide +kernel) ?_
        exact ih_2 Nq9 (g1 + 1) hS (by first | omega | assumption) (by first | omega | assumption) (by first | omega | assumption) (by first | omega | assumption) (by first | omega | assumption) (by omega)
  exact LP_2 _ N 0 hS (by first | omega | assumption | (intro k hk; omega) | (intro j hj1 hj2 k hk; rw [hNM])) (by first | omega | assumption | (intro k hk; omega) | (intro j hj1 hj2 k hk; rw [hNM])) (by first | omega | assumption | (intro k hk; omega) | (intro j hj1 hj2 k hk; rw [hNM])) (by first | omega | assumption | (intro k hk; omega) | (intro j hj1 hj2 k hk; rw [hNM])) (by first | omega | assumption | (intro k hk; omega) | (intro j hj1 hj2 k hk; rw [hNM])) (Nat.lt_succ_self _)
-- X8_tell#s
set_option maxRecDepth 10000 in
theorem s_tell8 {d : Nat} {M : Mt} {L : Lt} {Q : Option Value → Mt → Lt → Prop} {n : Nat} {c pw : Row} {na nx : Nat} {ra : Nat → Row} {a : Int32} (hI : Inv M) (hn : n ≤ 5) (en : M 76 0 = nI n) (hc : HE n (lvC M 0) c) (hp : LQ n (M 77) pw) (hw : wedOk n c) (hna : na ≤ 12) (hA : acM n na nx ra M) (hd : 4 ≤ d) (hq : ∀ (r : Int32) (N : Mt), St (fun i k => (i = 78 ∧ k < 22) ∨ i = 82 ∨ (i = 76 ∧ (k = 7 ∨ k = 8 ∨ k = 9))) M N → ((r = -1 ∧ ¬ (∃ k, k < 3 ∧ a = nI k) ∧ N = M) ∨ (∃ t z k, t < 3 ∧ a = nI t ∧ z ≤ 24 ∧ M 81 t = nI z ∧ sndT (fun i => M 80 (24 * t + i)) z k ∧ HE n (lvC N 0) (dawnS (runF n (deedV (fun i => M 80 (24 * t + i))) (nI 0) (k / 3) (c, pw, nI 0, nI 0))).1 ∧ r = (runF n (deedV (fun i => M 80 (24 * t + i))) (nI 0) (k / 3) (c, pw, nI 0, nI 0)).2.2.2 ∧ acM n (pushN na) ((nx + 1) % 12) (pushR na ra c) N)) → Q (some (.int r)) N L) : Wp d 162 0 [.ref 76, .int a] [] M L Q := by
  refine (show ∀ N : Mt, N = M → St (fun i k => (i = 78 ∧ k < 22) ∨ i = 82 ∨ (i = 76 ∧ (k = 7 ∨ k = 8 ∨ k = 9))) M N → Wp d 162 0 [.ref 76, .int a] [] N L Q from ?_) M rfl (St.rf hI)
  intro N hNM hS
  have kz0 : N (76) 0 = nI n := by rw [hNM]; exact en
  refine w_load (.iload_n 1) 1 (by decide +kernel) rfl rfl ?_
  refine w_callS1 142 1 4 (by decide +kernel) (Nat.le_of_ble_eq_true rfl) rfl (by decide) (by omega) ?_
  refine k_142 hS.1  (by omega) (fun r1 hr1 => ?_)
  dsimp only [Option.toList, List.cons_append, List.nil_append]
  rcases hr1 with ⟨rfl, k2, hk2, rfl⟩ | ⟨rfl, hnok2⟩
  · skip
    refine w_ine 9 7 (by decide +kernel) (fun _ => ?_) (fun hz => absurd hz (by decide))
    refine w_load (.aload_n 0) 10 (by decide +kernel) rfl rfl ?_
    refine w_callV0 161 8 2 13 (by decide +kernel) sh_76 (Nat.le_of_ble_eq_true rfl)  (by decide) (by omega) ?_
    refine s_keepAct hS.1 (by omega) (by omega) (by rw [hNM]; exact hA) (by rw [hNM]; exact hc) (by omega) (fun Nr4 hTr4 hr4 => ?_)
    have kn5 := (hTr4.2 (76) 0 (by (try dsimp only); first | omega | (simp only [Hs, Tl, Sc, isHs, isScr, isTs] at *; omega))).trans kz0
    have hS := hS.tr hTr4 (by intro i k; first | exact rfl | exact fun h => h.elim | omega | (dsimp only; omega) | (simp only [Hs, Tl, Sc, isHs, isScr, isTs] at *; omega))
    dsimp only [Option.toList, List.nil_append]
    refine w_load (.aload_n 0) 14 (by decide +kernel) rfl rfl ?_
    refine w_pushN 0 15 (by decide +kernel) ?_
    refine w_load (.iload_n 1) 16 (by decide +kernel) rfl rfl ?_
    refine w_pushN 0 17 (by decide +kernel) ?_
    refine w_callV3 159 8 7 20 (by decide +kernel) sh_76 (Nat.le_of_ble_eq_true rfl) rfl rfl rfl (by decide) (by omega) ?_
    obtain ⟨n6, hn6, en6⟩ := inv_81 hS.1 k2
    refine s_tellOn hS.1 (by omega) (by omega) kn5 (by omega) (by omega) en6 (by rw [lvC_row (hTr4.row (fun k => (by (try dsimp only); first | omega | (simp only [Hs, Tl, Sc, isHs, isScr, isTs] at *; omega)))), hNM]; exact hc) (by rw [hTr4.row (fun k => by (try dsimp only); first | omega | (simp only [Hs, Tl, Sc, isHs, isScr, isTs] at *; omega)), hNM]; exact hp) hw (by omega) (fun r7 Nr7 hTr7 hr7 => ?_)
    have kn8 := (hTr7.2 (76) 0 (by (try dsimp only); first | omega | (simp only [Hs, Tl, Sc, isHs, isScr, isTs] at *; omega))).trans kn5
    have hS := hS.tr hTr7 (by intro i k; first | exact rfl | exact fun h => h.elim | omega | (dsimp only; omega) | (simp only [Hs, Tl, Sc, isHs, isScr, isTs] at *; omega))
    obtain ⟨kt, hkt, hSt, hrt⟩ := hr7
    have hrw1 : Nr4 80 = M 80 := by rw [hTr4.row (fun k => by (try dsimp only); first | omega | (simp only [Hs, Tl, Sc, isHs, isScr, isTs] at *; omega)), hNM]
    have hrw0 : Nr4 81 = M 81 := by rw [hTr4.row (fun k => by (try dsimp only); first | omega | (simp only [Hs, Tl, Sc, isHs, isScr, isTs] at *; omega)), hNM]
    rw [hrw1] at hkt hSt hrt
    have hzM : M 81 k2 = nI n6 := by rw [← hrw0]; exact en6
    dsimp only [Option.toList, List.cons_append, List.nil_append]
    exact w_ret (by decide +kernel) (hq _ Nr7 hS (Or.inr ⟨_, n6, kt, by assumption, rfl, by omega, hzM, hkt, hSt.1, hrt, hr4.keep (hTr7.2 76 8 (by (try dsimp only); first | omega | (simp only [Hs, Tl, Sc, isHs, isScr, isTs] at *; omega))) (hTr7.2 76 9 (by (try dsimp only); first | omega | (simp only [Hs, Tl, Sc, isHs, isScr, isTs] at *; omega))) (hTr7.row (fun k => (by (try dsimp only); first | omega | (simp only [Hs, Tl, Sc, isHs, isScr, isTs] at *; omega))))⟩))
  · skip
    refine w_ine 9 7 (by decide +kernel) (fun hz => absurd hz (by decide)) (fun _ => ?_)
    refine w_push (-1) 8 (by decide +kernel) ?_
    exact w_ret (by decide +kernel) (hq _ N hS (Or.inl ⟨rfl, by assumption, hNM⟩))
-- X8_give#s
set_option maxRecDepth 10000 in
theorem s_give8 {d : Nat} {M : Mt} {L : Lt} {Q : Option Value → Mt → Lt → Prop} {n : Nat} {c pw : Row} {na nx : Nat} {ra : Nat → Row} {g : Int32} {a : Int32} (hI : Inv M) (hn : n ≤ 5) (en : M 76 0 = nI n) (hc : HE n (lvC M 0) c) (hp : LQ n (M 77) pw) (hna : na ≤ 12) (hA : acM n na nx ra M) (hd : 2 ≤ d) (hq : ∀ (r : Int32) (N : Mt), St (fun i k => (i = 78 ∧ k < 22) ∨ i = 82 ∨ (i = 76 ∧ (k = 8 ∨ k = 9))) M N → ((r = -1 ∧ ¬ (∃ k, k < n ∧ g = nI k) ∧ N = M) ∨ (∃ k, k < n ∧ g = nI k ∧ ((r = -2 ∧ ¬ (∃ k, k < 4 ∧ a = nI k) ∧ N = M) ∨ (∃ b, b < 4 ∧ a = nI b ∧ ((r = -3 ∧ ¬ (tb (c 15) k = true ∧ ¬ c k = nI b) ∧ N = M) ∨ ((tb (c 15) k = true ∧ ¬ c k = nI b) ∧ r = c k ∧ HE n (lvC N 0) (up1 c k (nI b)) ∧ acM n (pushN na) ((nx + 1) % 12) (pushR na ra c) N)))))) → Q (some (.int r)) N L) : Wp d 163 0 [.ref 76, .int g, .int a, .null] [] M L Q := by
  refine (show ∀ N : Mt, N = M → St (fun i k => (i = 78 ∧ k < 22) ∨ i = 82 ∨ (i = 76 ∧ (k = 8 ∨ k = 9))) M N → Wp d 163 0 [.ref 76, .int g, .int a, .null] [] N L Q from ?_) M rfl (St.rf hI)
  intro N hNM hS
  have kz0 : N (76) 0 = nI n := by rw [hNM]; exact en
  refine w_load (.aload_n 0) 1 (by decide +kernel) rfl rfl ?_
  refine w_load (.iload_n 1) 2 (by decide +kernel) rfl rfl ?_
  refine w_callV1 150 8 2 5 (by decide +kernel) sh_76 (Nat.le_of_ble_eq_true rfl) rfl (by decide) (by omega) ?_
  refine k_150 hS.1 (by omega) kz0 (by omega) (fun r1 hr1 => ?_)
  dsimp only [Option.toList, List.cons_append, List.nil_append]
  rcases hr1 with ⟨rfl, k2, hk2, rfl⟩ | ⟨rfl, hnok2⟩
  · skip
    refine w_ine 10 8 (by decide +kernel) (fun _ => ?_) (fun hz => absurd hz (by decide))
    refine w_load (.iload_n 2) 11 (by decide +kernel) rfl rfl ?_
    refine w_pure .i2l 12 (by decide +kernel) rfl rfl ?_
    refine w_pushL (0) 13 (by decide +kernel) ?_
    refine w_pushL (3) 16 (by decide +kernel) ?_
    refine w_callSL 134 6 19 (by decide +kernel) (Nat.le_of_ble_eq_true rfl) rfl (by omega) ?_
    refine k_134 hS.1  (by omega) (fun r4 hr4 => ?_)
    dsimp only [Option.toList, List.cons_append, List.nil_append]
    rcases hr4 with ⟨rfl, hlok6, hhik6⟩ | ⟨rfl, hnok6⟩
    · skip
      obtain ⟨k6, hlk6, hhk6, rfl⟩ := in_k (lo := 0) (hi := 3) hlok6 hhik6 (by decide)
      refine w_ine 25 22 (by decide +kernel) (fun _ => ?_) (fun hz => absurd hz (by decide))
      refine w_load (.aload_n 0) 26 (by decide +kernel) rfl rfl ?_
      refine w_getR (k := 2) (r := 78) 29 (by decide +kernel) sh_76 rfl ?_
      refine w_pushN 15 31 (by decide +kernel) ?_
      refine w_ialdN 32 (by decide +kernel) sh_78 (by omega) (by omega) ?_
      refine w_load (.iload_n 1) 33 (by decide +kernel) rfl rfl ?_
      refine w_callS2 135 2 36 (by decide +kernel) (Nat.le_of_ble_eq_true rfl) rfl rfl (by decide) (by omega) ?_
      refine k_135 hS.1  (by omega) (fun r8 hr8 => ?_)
      dsimp only [Option.toList, List.cons_append, List.nil_append]
      rcases hr8 with ⟨rfl, hbr8⟩ | ⟨rfl, hbr8⟩
      · skip
        have htr8 := tb_hb (by omega) hbr8
        refine w_ieq 49 39 (by decide +kernel) (fun hz => absurd hz (by decide)) (fun _ => ?_)
        refine w_load (.aload_n 0) 40 (by decide +kernel) rfl rfl ?_
        refine w_getR (k := 2) (r := 78) 43 (by decide +kernel) sh_76 rfl ?_
        refine w_load (.iload_n 1) 44 (by decide +kernel) rfl rfl ?_
        refine w_ialdN 45 (by decide +kernel) sh_78 (by omega) (by omega) ?_
        refine w_load (.iload_n 2) 46 (by decide +kernel) rfl rfl ?_
        refine w_cne 52 49 (by decide +kernel) (fun h10 => ?_) (fun h10 => ?_)
        · skip
          refine w_load (.aload_n 0) 53 (by decide +kernel) rfl rfl ?_
          refine w_callV0 161 8 2 56 (by decide +kernel) sh_76 (Nat.le_of_ble_eq_true rfl)  (by decide) (by omega) ?_
          refine s_keepAct hS.1 (by omega) (by omega) (by rw [hNM]; exact hA) (by rw [hNM]; exact hc) (by omega) (fun Nr11 hTr11 hr11 => ?_)
          have kn12 := (hTr11.2 (76) 0 (by (try dsimp only); first | omega | (simp only [Hs, Tl, Sc, isHs, isScr, isTs] at *; omega))).trans kz0
          have hS := hS.tr hTr11 (by intro i k; first | exact rfl | exact fun h => h.elim | omega | (dsimp only; omega) | (simp only [Hs, Tl, Sc, isHs, isScr, isTs] at *; omega))
          dsimp only [Option.toList, List.nil_append]
          refine w_load (.aload_n 0) 57 (by decide +kernel) rfl rfl ?_
          refine w_getR (k := 2) (r := 78) 60 (by decide +kernel) sh_76 rfl ?_
          refine w_load (.iload_n 1) 61 (by decide +kernel) rfl rfl ?_
          refine w_ialdN 62 (by decide +kernel) sh_78 (by omega) (by omega) ?_
          refine w_topi (fun v13 ev13 => ?_)
          refine w_store (ls' := [.ref 76, .int (nI k2), .int (nI k6), .int v13]) (.istore_n 3) 63 (by decide +kernel) rfl rfl ?_
          have ewas := ev13
          refine w_load (.aload_n 0) 64 (by decide +kernel) rfl rfl ?_
          refine w_getR (k := 2) (r := 78) 67 (by decide +kernel) sh_76 rfl ?_
          refine w_load (.iload_n 1) 68 (by decide +kernel) rfl rfl ?_
          refine w_load (.iload_n 2) 69 (by decide +kernel) rfl rfl ?_
          refine w_iastE 70 (by decide +kernel) sh_78 (by omega) (by omega) hS (rg_78 (fun h1 h2 => by first | omega | exact Or.inl rfl | exact Or.inr ⟨_, by omega, rfl⟩ | exact inv_78 hS.1 _ (by omega) (by omega) | exact inv_82 hS.1 _ (by omega) (by omega) | exact inv_89 hS.1 _ (by omega) (by omega))) (by first | exact rfl | omega | (dsimp only; omega) | (simp only [Hs, Tl, Sc, isHs, isScr, isTs] at *; omega)) (fun Nq14 hS hq14 oq14 mq14 => ?_)
          have kn15 := (oq14 (76) 0 (by first | omega | (simp only [Hs, Tl, Sc, isHs, isScr, isTs] at *; omega))).trans kn12
          refine w_load (.iload_n 3) 71 (by decide +kernel) rfl rfl ?_
          exact w_ret (by decide +kernel) (hq _ Nq14 hS (Or.inr ⟨_, by assumption, rfl, Or.inr ⟨_, Nat.lt_succ_of_le (by assumption), rfl, Or.inr ⟨⟨by rw [← hc.2.1, ← hNM]; assumption, by rw [← (hc.1 k2 (by assumption)).1, ← hNM, ← rdC (M := N) (lv := 0) (i := k2) (j := k2) (by omega)]; assumption⟩, by rw [ewas, hTr11.2 78 k2 (by (try dsimp only); first | omega | (simp only [Hs, Tl, Sc, isHs, isScr, isTs] at *; omega)), hNM, rdC (M := M) (lv := 0) (i := k2) (j := k2) (by omega)]; exact (hc.1 k2 (by assumption)).1, by rw [lvC_up' (lv := 0) (j := k2) mq14 (by omega), lvC_row (hTr11.row (fun k => (by (try dsimp only); first | omega | (simp only [Hs, Tl, Sc, isHs, isScr, isTs] at *; omega)))), hNM]; exact hc.up _ rfl, hr11.keep (by rw [mq14, up2_ne (by omega)]) (by rw [mq14, up2_ne (by omega)]) (by rw [mq14, row_ne (by decide)])⟩⟩⟩))
        · skip
          refine w_push (-3) 51 (by decide +kernel) ?_
          exact w_ret (by decide +kernel) (hq _ N hS (Or.inr ⟨_, by assumption, rfl, Or.inr ⟨_, Nat.lt_succ_of_le (by assumption), rfl, Or.inl ⟨rfl, fun hz => by first | exact absurd (hz.1.symm.trans (show tb (c 15) _ = false by rw [← hc.2.1, ← hNM]; assumption)) (by decide) | exact absurd (by rw [← (hc.1 k2 (by assumption)).1, ← hNM, ← rdC (M := N) (lv := 0) (i := k2) (j := k2) (by omega)]; assumption) hz.2, hNM⟩⟩⟩))
      · skip
        have htr8 := tb_nhb (by omega) hbr8
        refine w_ieq 49 39 (by decide +kernel) (fun _ => ?_) (fun hz => absurd hz (by decide))
        refine w_push (-3) 51 (by decide +kernel) ?_
        exact w_ret (by decide +kernel) (hq _ N hS (Or.inr ⟨_, by assumption, rfl, Or.inr ⟨_, Nat.lt_succ_of_le (by assumption), rfl, Or.inl ⟨rfl, fun hz => by first | exact absurd (hz.1.symm.trans (show tb (c 15) _ = false by rw [← hc.2.1, ← hNM]; assumption)) (by decide) | exact absurd (by rw [← (hc.1 k2 (by assumption)).1, ← hNM, ← rdC (M := N) (lv := 0) (i := k2) (j := k2) (by omega)]; assumption) hz.2, hNM⟩⟩⟩))
    · skip
      refine w_ine 25 22 (by decide +kernel) (fun hz => absurd hz (by decide)) (fun _ => ?_)
      refine w_push (-2) 24 (by decide +kernel) ?_
      exact w_ret (by decide +kernel) (hq _ N hS (Or.inr ⟨_, by assumption, rfl, Or.inl ⟨rfl, in_no (by assumption) (by decide), hNM⟩⟩))
  · skip
    refine w_ine 10 8 (by decide +kernel) (fun hz => absurd hz (by decide)) (fun _ => ?_)
    refine w_push (-1) 9 (by decide +kernel) ?_
    exact w_ret (by decide +kernel) (hq _ N hS (Or.inl ⟨rfl, by assumption, hNM⟩))
-- X8_undo#s
set_option maxRecDepth 10000 in
theorem s_undo8 {d : Nat} {M : Mt} {L : Lt} {Q : Option Value → Mt → Lt → Prop} {n : Nat} {c pw : Row} {na nx : Nat} {ra : Nat → Row}  (hI : Inv M) (hn : n ≤ 5) (en : M 76 0 = nI n) (hc : HE n (lvC M 0) c) (hp : LQ n (M 77) pw) (hna : na ≤ 12) (hA : acM n na nx ra M) (hd : 0 ≤ d) (hq : ∀ (r : Int32) (N : Mt), St (fun i k => (i = 78 ∧ k < 22) ∨ (i = 76 ∧ (k = 8 ∨ k = 9))) M N → ((r = -3 ∧ na = 0 ∧ N = M) ∨ (0 < na ∧ r = nI (na - 1) ∧ HE n (lvC N 0) (ra (na - 1)) ∧ acM n (na - 1) ((nx + 11) % 12) ra N)) → Q (some (.int r)) N L) : Wp d 164 0 [.ref 76, .null] [] M L Q := by
  refine (show ∀ N : Mt, N = M → St (fun i k => (i = 78 ∧ k < 22) ∨ (i = 76 ∧ (k = 8 ∨ k = 9))) M N → Wp d 164 0 [.ref 76, .null] [] N L Q from ?_) M rfl (St.rf hI)
  intro N hNM hS
  have kz0 : N (76) 0 = nI n := by rw [hNM]; exact en
  have kz1 : N (76) 9 = nI nx := by rw [hNM]; exact hA.2.1
  have kz2 : N (76) 8 = nI na := by rw [hNM]; exact hA.1
  have hnx := hA.2.2.1
  refine w_load (.aload_n 0) 1 (by decide +kernel) rfl rfl ?_
  refine w_getK (k := 8) 4 (by decide +kernel) sh_76 rfl kz2 ?_
  refine w_ineN 10 7 (by decide +kernel) (by omega) (fun h1 => ?_) (fun h1 => ?_)
  · skip
    refine w_load (.aload_n 0) 11 (by decide +kernel) rfl rfl ?_
    refine w_pure .dup 12 (by decide +kernel) rfl rfl ?_
    refine w_getK (k := 8) 15 (by decide +kernel) sh_76 rfl kz2 ?_
    refine w_pushN 1 16 (by decide +kernel) ?_
    refine w_subN (na - 1) 17 (by decide +kernel) (by omega) rfl ?_
    refine w_putE (k := 8) 20 (by decide +kernel) sh_76 rfl hS (rg_76 (by decide)) (by first | exact rfl | omega | (dsimp only; omega) | (simp only [Hs, Tl, Sc, isHs, isScr, isTs] at *; omega)) (fun Nq2 hS hq2 oq2 mq2 => ?_)
    have kn3 := (oq2 (76) 0 (by first | omega | (simp only [Hs, Tl, Sc, isHs, isScr, isTs] at *; omega))).trans kz0
    have kn4 := (oq2 (76) 9 (by first | omega | (simp only [Hs, Tl, Sc, isHs, isScr, isTs] at *; omega))).trans kz1
    refine w_load (.aload_n 0) 21 (by decide +kernel) rfl rfl ?_
    refine w_load (.aload_n 0) 22 (by decide +kernel) rfl rfl ?_
    refine w_getK (k := 9) 25 (by decide +kernel) sh_76 rfl kn4 ?_
    refine w_pushN 11 27 (by decide +kernel) ?_
    refine w_addN (nx + 11) 28 (by decide +kernel) (by omega) ?_
    refine w_pushN 12 30 (by decide +kernel) ?_
    refine w_remN ((nx + 11) % 12) 31 (by decide +kernel) (by decide) (by decide) (by omega) rfl ?_
    refine w_putE (k := 9) 34 (by decide +kernel) sh_76 rfl hS (rg_76n (B := 11) (by omega) (by decide)) (by first | exact rfl | omega | (dsimp only; omega) | (simp only [Hs, Tl, Sc, isHs, isScr, isTs] at *; omega)) (fun Nq5 hS hq5 oq5 mq5 => ?_)
    have kn6 := (oq5 (76) 0 (by first | omega | (simp only [Hs, Tl, Sc, isHs, isScr, isTs] at *; omega))).trans kn3
    have kn7 := (oq5 (76) 8 (by first | omega | (simp only [Hs, Tl, Sc, isHs, isScr, isTs] at *; omega))).trans hq2
    refine w_pushN 0 35 (by decide +kernel) ?_
    refine w_store (ls' := [.ref 76, .int (nI 0)]) (.istore_n 1) 36 (by decide +kernel) rfl rfl ?_
    have LP_36 : ∀ (kk : Nat) (N_36 : Mt) (g1 : Nat), St (fun i k => (i = 78 ∧ k < 22) ∨ (i = 76 ∧ (k = 8 ∨ k = 9))) M N_36 → g1 ≤ 17 → (∀ k, k < g1 → N_36 78 k = M 82 (17 * ((nx + 11) % 12) + k)) → N_36 76 8 = nI (na - 1) → N_36 76 9 = nI ((nx + 11) % 12) → 17 - g1 < kk → Wp d 164 36 [.ref 76, .int (nI g1)] [] N_36 L Q := by
      intro kk
      induction kk with
      | zero => intro N_36 g1 hS hi0_36 hi1_36 hi2_36 hi3_36 hm_36; exact absurd hm_36 (Nat.not_lt_zero _)
      | succ kk ih_36 =>
        intro N_36 g1 hS hi0_36 hi1_36 hi2_36 hi3_36 hm_36
        have hS0 := hS
        refine w_load (.iload_n 1) 37 (by decide +kernel) rfl rfl ?_
        refine w_pushN 17 39 (by decide +kernel) ?_
        refine w_cgeN 68 42 (by decide +kernel) (by omega) (by omega) (fun h8 => ?_) (fun h8 => ?_)
        · skip
          refine w_load (.aload_n 0) 69 (by decide +kernel) rfl rfl ?_
          refine w_getK (k := 8) 72 (by decide +kernel) sh_76 rfl hi2_36 ?_
          exact w_ret (by decide +kernel) (hq _ N_36 hS (Or.inr ⟨by omega, rfl, und8_row hn hA (by omega) (by omega) (fun k hk => hi1_36 k (by omega)), und8_ac hA (by omega) (by omega) hi2_36 hi3_36 (St_row82 hS)⟩))
        · skip
          refine w_load (.aload_n 0) 43 (by decide +kernel) rfl rfl ?_
          refine w_getR (k := 2) (r := 78) 46 (by decide +kernel) sh_76 rfl ?_
          refine w_load (.iload_n 1) 47 (by decide +kernel) rfl rfl ?_
          refine w_load (.aload_n 0) 48 (by decide +kernel) rfl rfl ?_
          refine w_getR (k := 10) (r := 82) 51 (by decide +kernel) sh_76 rfl ?_
          refine w_pushN 17 53 (by decide +kernel) ?_
          refine w_load (.aload_n 0) 54 (by decide +kernel) rfl rfl ?_
          refine w_getK (k := 9) 57 (by decide +kernel) sh_76 rfl hi3_36 ?_
          refine w_mulN (17 * (((nx + 11) % 12))) 58 (by decide +kernel) rfl ?_
          refine w_load (.iload_n 1) 59 (by decide +kernel) rfl rfl ?_
          refine w_addN (17 * (((nx + 11) % 12)) + g1) 60 (by decide +kernel) (by omega) ?_
          refine w_ialdN 61 (by decide +kernel) sh_82 (by omega) (by omega) ?_
          refine w_iastE 62 (by decide +kernel) sh_78 (by omega) (by omega) hS (rg_78 (fun h1 h2 => by first | omega | exact Or.inl rfl | exact Or.inr ⟨_, by omega, rfl⟩ | exact inv_78 hS.1 _ (by omega) (by omega) | exact inv_82 hS.1 _ (by omega) (by omega) | exact inv_89 hS.1 _ (by omega) (by omega))) (by first | exact rfl | omega | (dsimp only; omega) | (simp only [Hs, Tl, Sc, isHs, isScr, isTs] at *; omega)) (fun Nq9 hS hq9 oq9 mq9 => ?_)
          have kn10 := (oq9 (76) 8 (by first | omega | (simp only [Hs, Tl, Sc, isHs, isScr, isTs] at *; omega))).trans hi2_36
          have kn11 := (oq9 (76) 9 (by first | omega | (simp only [Hs, Tl, Sc, isHs, isScr, isTs] at *; omega))).trans hi3_36
          have b1 := un_row (nx := (nx + 11) % 12) hi1_36 mq9 (hS0.2 82 _ (by omega)) (by omega)
          refine w_iincN (z := 1) (g1 + 1) 65 (by decide +kernel) rfl (Nat.le_of_ble_eq_true rfl) rfl rfl ?_
          show Wp _ _ _ [.ref 76, .int (nI (g1 + 1))] _ _ _ _
          refine w_goto 36 (by decide +kernel) ?_
          exact ih_36 Nq9 (g1 + 1) hS (by first | omega | assumption) (by first | omega | assumption) (by first | omega | assumption) (by first | omega | assumption) (by omega)
    exact LP_36 _ Nq5 0 hS (by first | omega | assumption | (intro k hk; omega)) (by first | omega | assumption | (intro k hk; omega)) (by first | omega | assumption | (intro k hk; omega)) (by first | omega | assumption | (intro k hk; omega)) (Nat.lt_succ_self _)
  · skip
    refine w_push (-3) 9 (by decide +kernel) ?_
    exact w_ret (by decide +kernel) (hq _ N hS (Or.inl ⟨rfl, by omega, hNM⟩))
-- X8_keep#s
set_option maxRecDepth 10000 in
theorem s_keep8 {d : Nat} {M : Mt} {L : Lt} {Q : Option Value → Mt → Lt → Prop} {n : Nat} {c pw : Row} {hk : Nat → Bool} {rk : Nat → Row} {a : Int32} (hI : Inv M) (hn : n ≤ 5) (en : M 76 0 = nI n) (hc : HE n (lvC M 0) c) (hp : LQ n (M 77) pw) (hK : slM n hk rk M) (hd : 1 ≤ d) (hq : ∀ (r : Int32) (N : Mt), St (fun i k => i = 88 ∨ i = 89) M N → ((r = -1 ∧ ¬ (∃ k, k < 2 ∧ a = nI k) ∧ N = M) ∨ (∃ s, s < 2 ∧ a = nI s ∧ r = sumI 8 (fun k => (c 15 >>> (nI k &&& 31)) &&& nI 1) ∧ slM n (upB hk s) (upK rk s c) N)) → Q (some (.int r)) N L) : Wp d 197 0 [.ref 76, .int a, .null] [] M L Q := by
  refine (show ∀ N : Mt, N = M → St (fun i k => i = 88 ∨ i = 89) M N → Wp d 197 0 [.ref 76, .int a, .null] [] N L Q from ?_) M rfl (St.rf hI)
  intro N hNM hS
  have kz0 : N (76) 0 = nI n := by rw [hNM]; exact en
  refine w_load (.iload_n 1) 1 (by decide +kernel) rfl rfl ?_
  refine w_pure .i2l 2 (by decide +kernel) rfl rfl ?_
  refine w_pushL (0) 3 (by decide +kernel) ?_
  refine w_pushL (1) 4 (by decide +kernel) ?_
  refine w_callSL 134 6 7 (by decide +kernel) (Nat.le_of_ble_eq_true rfl) rfl (by omega) ?_
  refine k_134 hS.1  (by omega) (fun r1 hr1 => ?_)
  dsimp only [Option.toList, List.cons_append, List.nil_append]
  rcases hr1 with ⟨rfl, hlok3, hhik3⟩ | ⟨rfl, hnok3⟩
  · skip
    obtain ⟨k3, hlk3, hhk3, rfl⟩ := in_k (lo := 0) (hi := 1) hlok3 hhik3 (by decide)
    refine w_ine 12 10 (by decide +kernel) (fun _ => ?_) (fun hz => absurd hz (by decide))
    refine w_load (.aload_n 0) 13 (by decide +kernel) rfl rfl ?_
    refine w_getR (k := 19) (r := 88) 16 (by decide +kernel) sh_76 rfl ?_
    refine w_load (.iload_n 1) 17 (by decide +kernel) rfl rfl ?_
    refine w_pushN 1 18 (by decide +kernel) ?_
    refine w_bastE 19 (by decide +kernel) sh_88 (by omega) (by omega) (Or.inr rfl) hS (Rg.free (by simp only [Hs, Tl, Sc, isScr, isHs, isTs] at *; omega)) (by first | exact rfl | omega | (dsimp only; omega) | (simp only [Hs, Tl, Sc, isHs, isScr, isTs] at *; omega)) (fun Nq5 hS hq5 oq5 mq5 => ?_)
    have kn6 := (oq5 (76) 0 (by first | omega | (simp only [Hs, Tl, Sc, isHs, isScr, isTs] at *; omega))).trans kz0
    have mB := mq5
    have e88 : Nq5 88 = up1 (M 88) k3 1 := by rw [mB, row_eq, hNM] <;> rfl
    refine w_pushN 0 20 (by decide +kernel) ?_
    refine w_store (ls' := [.ref 76, .int (nI k3), .int (nI 0)]) (.istore_n 2) 21 (by decide +kernel) rfl rfl ?_
    have LP_21 : ∀ (kk : Nat) (N_21 : Mt) (g2 : Nat), St (fun i k => i = 88 ∨ i = 89) M N_21 → g2 ≤ 17 → (∀ k, k < g2 → N_21 89 (17 * k3 + k) = M 78 k) → (∀ j, j < 2 → ¬ j = k3 → ∀ k, k < 17 → N_21 89 (17 * j + k) = M 89 (17 * j + k)) → N_21 88 = up1 (M 88) k3 1 → 17 - g2 < kk → Wp d 197 21 [.ref 76, .int (nI k3), .int (nI g2)] [] N_21 L Q := by
      intro kk
      induction kk with
      | zero => intro N_21 g2 hS hi0_21 hi1_21 hi2_21 hi3_21 hm_21; exact absurd hm_21 (Nat.not_lt_zero _)
      | succ kk ih_21 =>
        intro N_21 g2 hS hi0_21 hi1_21 hi2_21 hi3_21 hm_21
        have hS0 := hS
        refine w_load (.iload_n 2) 22 (by decide +kernel) rfl rfl ?_
        refine w_pushN 17 24 (by decide +kernel) ?_
        refine w_cgeN 50 27 (by decide +kernel) (by omega) (by omega) (fun h7 => ?_) (fun h7 => ?_)
        · skip
          refine w_load (.aload_n 0) 51 (by decide +kernel) rfl rfl ?_
          refine w_getR (k := 2) (r := 78) 54 (by decide +kernel) sh_76 rfl ?_
          refine w_pushN 15 56 (by decide +kernel) ?_
          refine w_ialdN 57 (by decide +kernel) sh_78 (by omega) (by omega) ?_
          refine w_callS1 136 3 60 (by decide +kernel) (Nat.le_of_ble_eq_true rfl) rfl (by decide) (by omega) ?_
          refine s_ones hS.1  (by omega) (fun r8 hr8 => ?_)
          dsimp only [Option.toList, List.cons_append, List.nil_append]
          rcases hr8 with rfl
          · skip
            exact w_ret (by decide +kernel) (hq _ N_21 hS (Or.inr ⟨_, Nat.lt_succ_of_le (by assumption), rfl, by rw [show N_21 78 15 = c 15 from (hS.2 78 15 (by (try dsimp only); omega)).trans (rdC (M := M) (lv := 0) (i := 15) (j := 15) (by omega) ▸ hc.2.1)], sl8_keep hn (by omega) hK hc (fun k hk => hi1_21 k (by omega)) hi2_21 hi3_21⟩))
        · skip
          refine w_load (.aload_n 0) 28 (by decide +kernel) rfl rfl ?_
          refine w_getR (k := 20) (r := 89) 31 (by decide +kernel) sh_76 rfl ?_
          refine w_pushN 17 33 (by decide +kernel) ?_
          refine w_load (.iload_n 1) 34 (by decide +kernel) rfl rfl ?_
          refine w_mulN (17 * k3) 35 (by decide +kernel) rfl ?_
          refine w_load (.iload_n 2) 36 (by decide +kernel) rfl rfl ?_
          refine w_addN (17 * k3 + g2) 37 (by decide +kernel) (by omega) ?_
          refine w_load (.aload_n 0) 38 (by decide +kernel) rfl rfl ?_
          refine w_getR (k := 2) (r := 78) 41 (by decide +kernel) sh_76 rfl ?_
          refine w_load (.iload_n 2) 42 (by decide +kernel) rfl rfl ?_
          refine w_ialdN 43 (by decide +kernel) sh_78 (by omega) (by omega) ?_
          refine w_iastE 44 (by decide +kernel) sh_89 (by omega) (by omega) hS (rg_89 (fun h1 h2 => by first | omega | exact Or.inl rfl | exact Or.inr ⟨_, by omega, rfl⟩ | exact inv_78 hS.1 _ (by omega) (by omega) | exact inv_82 hS.1 _ (by omega) (by omega) | exact inv_89 hS.1 _ (by omega) (by omega))) (by first | exact rfl | omega | (dsimp only; omega) | (simp only [Hs, Tl, Sc, isHs, isScr, isTs] at *; omega)) (fun Nq9 hS hq9 oq9 mq9 => ?_)
          have b1 := kp_row (s := k3) hi1_21 mq9 (hS0.2 78 g2 (by omega)) (by omega)
          have b2 := kp_oth (s := k3) hi2_21 mq9 (by omega)
          refine w_iincN (z := 2) (g2 + 1) 47 (by decide +kernel) rfl (Nat.le_of_ble_eq_true rfl) rfl rfl ?_
          show Wp _ _ _ [.ref 76, .int (nI k3), .int (nI (g2 + 1))] _ _ _ _
          refine w_goto 21 (by decide +kernel) ?_
          exact ih_21 Nq9 (g2 + 1) hS (by first | omega | assumption | exact row88 (by assumption) (by assumption)) (by first | omega | assumption | exact row88 (by assumption) (by assumption)) (by first | omega | assumption | exact row88 (by assumption) (by assumption)) (by first | omega | assumption | exact row88 (by assumption) (by assumption)) (by omega)
    exact LP_21 _ Nq5 0 hS (by first | omega | assumption | (intro k hk; omega) | (intro j hj1 hj2 k hk; rw [mB, row_ne (by decide), hNM])) (by first | omega | assumption | (intro k hk; omega) | (intro j hj1 hj2 k hk; rw [mB, row_ne (by decide), hNM])) (by first | omega | assumption | (intro k hk; omega) | (intro j hj1 hj2 k hk; rw [mB, row_ne (by decide), hNM])) (by first | omega | assumption | (intro k hk; omega) | (intro j hj1 hj2 k hk; rw [mB, row_ne (by decide), hNM])) (Nat.lt_succ_self _)
  · skip
    refine w_ine 12 10 (by decide +kernel) (fun hz => absurd hz (by decide)) (fun _ => ?_)
    refine w_push (-1) 11 (by decide +kernel) ?_
    exact w_ret (by decide +kernel) (hq _ N hS (Or.inl ⟨rfl, in_no (by assumption) (by decide), hNM⟩))
-- X8_again#s
set_option maxRecDepth 10000 in
theorem s_again8 {d : Nat} {M : Mt} {L : Lt} {Q : Option Value → Mt → Lt → Prop} {n : Nat} {c pw : Row} {hk : Nat → Bool} {rk : Nat → Row} {a : Int32} (hI : Inv M) (hn : n ≤ 5) (en : M 76 0 = nI n) (hc : HE n (lvC M 0) c) (hp : LQ n (M 77) pw) (hK : slM n hk rk M) (hd : 1 ≤ d) (hq : ∀ (r : Int32) (N : Mt), St (fun i k => (i = 78 ∧ k < 22) ∨ (i = 76 ∧ k = 8)) M N → ((r = -1 ∧ ¬ (∃ k, k < 2 ∧ a = nI k) ∧ N = M) ∨ (∃ s, s < 2 ∧ a = nI s ∧ ((r = -3 ∧ hk s = false ∧ N = M) ∨ (hk s = true ∧ HE n (lvC N 0) (rk s) ∧ r = sumI 8 (fun k => (rk s 15 >>> (nI k &&& 31)) &&& nI 1) ∧ N 76 8 = nI 0)))) → Q (some (.int r)) N L) : Wp d 198 0 [.ref 76, .int a, .null] [] M L Q := by
  refine (show ∀ N : Mt, N = M → St (fun i k => (i = 78 ∧ k < 22) ∨ (i = 76 ∧ k = 8)) M N → Wp d 198 0 [.ref 76, .int a, .null] [] N L Q from ?_) M rfl (St.rf hI)
  intro N hNM hS
  have kz0 : N (76) 0 = nI n := by rw [hNM]; exact en
  refine w_load (.iload_n 1) 1 (by decide +kernel) rfl rfl ?_
  refine w_pure .i2l 2 (by decide +kernel) rfl rfl ?_
  refine w_pushL (0) 3 (by decide +kernel) ?_
  refine w_pushL (1) 4 (by decide +kernel) ?_
  refine w_callSL 134 6 7 (by decide +kernel) (Nat.le_of_ble_eq_true rfl) rfl (by omega) ?_
  refine k_134 hS.1  (by omega) (fun r1 hr1 => ?_)
  dsimp only [Option.toList, List.cons_append, List.nil_append]
  rcases hr1 with ⟨rfl, hlok3, hhik3⟩ | ⟨rfl, hnok3⟩
  · skip
    obtain ⟨k3, hlk3, hhk3, rfl⟩ := in_k (lo := 0) (hi := 1) hlok3 hhik3 (by decide)
    refine w_ine 12 10 (by decide +kernel) (fun _ => ?_) (fun hz => absurd hz (by decide))
    refine w_load (.aload_n 0) 13 (by decide +kernel) rfl rfl ?_
    refine w_getR (k := 19) (r := 88) 16 (by decide +kernel) sh_76 rfl ?_
    refine w_load (.iload_n 1) 17 (by decide +kernel) rfl rfl ?_
    refine w_baldN 18 (by decide +kernel) sh_88 (by omega) (by omega) ?_
    refine w_ine 24 21 (by decide +kernel) (fun h5 => ?_) (fun h5 => ?_)
    · skip
      have hks : hk k3 = true := sl8_yes ((hK k3 (by omega)).1) (by rw [← hNM]; exact h5)
      refine w_pushN 0 25 (by decide +kernel) ?_
      refine w_store (ls' := [.ref 76, .int (nI k3), .int (nI 0)]) (.istore_n 2) 26 (by decide +kernel) rfl rfl ?_
      have LP_26 : ∀ (kk : Nat) (N_26 : Mt) (g2 : Nat), St (fun i k => (i = 78 ∧ k < 22) ∨ (i = 76 ∧ k = 8)) M N_26 → g2 ≤ 17 → (∀ k, k < g2 → N_26 78 k = M 89 (17 * k3 + k)) → 17 - g2 < kk → Wp d 198 26 [.ref 76, .int (nI k3), .int (nI g2)] [] N_26 L Q := by
        intro kk
        induction kk with
        | zero => intro N_26 g2 hS hi0_26 hi1_26 hm_26; exact absurd hm_26 (Nat.not_lt_zero _)
        | succ kk ih_26 =>
          intro N_26 g2 hS hi0_26 hi1_26 hm_26
          have hS0 := hS
          refine w_load (.iload_n 2) 27 (by decide +kernel) rfl rfl ?_
          refine w_pushN 17 29 (by decide +kernel) ?_
          refine w_cgeN 55 32 (by decide +kernel) (by omega) (by omega) (fun h6 => ?_) (fun h6 => ?_)
          · skip
            have hro : HE n (lvC N_26 0) (rk k3) := ag8_row hn ((hK k3 (by omega)).2 hks) (fun k hk => hi1_26 k (by omega))
            refine w_load (.aload_n 0) 56 (by decide +kernel) rfl rfl ?_
            refine w_pushN 0 57 (by decide +kernel) ?_
            refine w_putE (k := 8) 60 (by decide +kernel) sh_76 rfl hS (rg_76 (by decide)) (by first | exact rfl | omega | (dsimp only; omega) | (simp only [Hs, Tl, Sc, isHs, isScr, isTs] at *; omega)) (fun Nq7 hS hq7 oq7 mq7 => ?_)
            refine w_load (.aload_n 0) 61 (by decide +kernel) rfl rfl ?_
            refine w_getR (k := 2) (r := 78) 64 (by decide +kernel) sh_76 rfl ?_
            refine w_pushN 15 66 (by decide +kernel) ?_
            refine w_ialdN 67 (by decide +kernel) sh_78 (by omega) (by omega) ?_
            refine w_callS1 136 3 70 (by decide +kernel) (Nat.le_of_ble_eq_true rfl) rfl (by decide) (by omega) ?_
            refine s_ones hS.1  (by omega) (fun r8 hr8 => ?_)
            dsimp only [Option.toList, List.cons_append, List.nil_append]
            rcases hr8 with rfl
            · skip
              exact w_ret (by decide +kernel) (hq _ Nq7 hS (Or.inr ⟨_, Nat.lt_succ_of_le (by assumption), rfl, Or.inr ⟨hks, by rw [mq7, lvC_76 (by decide)]; exact hro, by rw [show Nq7 78 15 = rk k3 15 from by rw [mq7, up2_ne (by decide), rdC (M := N_26) (lv := 0) (i := 15) (j := 15) (by omega)]; exact hro.2.1], by rw [mq7, up2_eq]⟩⟩))
          · skip
            refine w_load (.aload_n 0) 33 (by decide +kernel) rfl rfl ?_
            refine w_getR (k := 2) (r := 78) 36 (by decide +kernel) sh_76 rfl ?_
            refine w_load (.iload_n 2) 37 (by decide +kernel) rfl rfl ?_
            refine w_load (.aload_n 0) 38 (by decide +kernel) rfl rfl ?_
            refine w_getR (k := 20) (r := 89) 41 (by decide +kernel) sh_76 rfl ?_
            refine w_pushN 17 43 (by decide +kernel) ?_
            refine w_load (.iload_n 1) 44 (by decide +kernel) rfl rfl ?_
            refine w_mulN (17 * k3) 45 (by decide +kernel) rfl ?_
            refine w_load (.iload_n 2) 46 (by decide +kernel) rfl rfl ?_
            refine w_addN (17 * k3 + g2) 47 (by decide +kernel) (by omega) ?_
            refine w_ialdN 48 (by decide +kernel) sh_89 (by omega) (by omega) ?_
            refine w_iastE 49 (by decide +kernel) sh_78 (by omega) (by omega) hS (rg_78 (fun h1 h2 => by first | omega | exact Or.inl rfl | exact Or.inr ⟨_, by omega, rfl⟩ | exact inv_78 hS.1 _ (by omega) (by omega) | exact inv_82 hS.1 _ (by omega) (by omega) | exact inv_89 hS.1 _ (by omega) (by omega))) (by first | exact rfl | omega | (dsimp only; omega) | (simp only [Hs, Tl, Sc, isHs, isScr, isTs] at *; omega)) (fun Nq9 hS hq9 oq9 mq9 => ?_)
            have b1 := ag_row8 (s := k3) hi1_26 mq9 (hS0.2 89 _ (by omega)) (by omega)
            refine w_iincN (z := 2) (g2 + 1) 52 (by decide +kernel) rfl (Nat.le_of_ble_eq_true rfl) rfl rfl ?_
            show Wp _ _ _ [.ref 76, .int (nI k3), .int (nI (g2 + 1))] _ _ _ _
            refine w_goto 26 (by decide +kernel) ?_
            exact ih_26 Nq9 (g2 + 1) hS (by first | omega | assumption) (by first | omega | assumption) (by omega)
      exact LP_26 _ N 0 hS (by first | omega | assumption | (intro k hk; omega)) (by first | omega | assumption | (intro k hk; omega)) (Nat.lt_succ_self _)
    · skip
      refine w_push (-3) 23 (by decide +kernel) ?_
      exact w_ret (by decide +kernel) (hq _ N hS (Or.inr ⟨_, Nat.lt_succ_of_le (by assumption), rfl, Or.inl ⟨rfl, sl8_no ((hK k3 (by omega)).1) (by rw [← hNM]; assumption), hNM⟩⟩))
  · skip
    refine w_ine 12 10 (by decide +kernel) (fun hz => absurd hz (by decide)) (fun _ => ?_)
    refine w_push (-1) 11 (by decide +kernel) ?_
    exact w_ret (by decide +kernel) (hq _ N hS (Or.inl ⟨rfl, in_no (by assumption) (by decide), hNM⟩))
-- X8_inn#s
set_option maxRecDepth 10000 in
theorem s_inn8 {d : Nat} {M : Mt} {L : Lt} {Q : Option Value → Mt → Lt → Prop} {z : Nat}  (hI : Inv M) (hz : z ≤ 24) (ez : M 76 4 = nI z) (hd : 3 ≤ d) (hq : ∀ (r : Int32) (N : Mt), St (fun i k => i = 77 ∨ i = 78 ∨ i = 88 ∨ (i = 76 ∧ (k = 0 ∨ k = 8))) M N → ((r = -3 ∧ ¬ OkI (M 79) z ∧ N = M) ∨ (OkI (M 79) z ∧ r = nI ((z - 1) / 4) ∧ N 76 0 = nI ((z - 1) / 4) ∧ HE ((z - 1) / 4) (lvC N 0) (innC (M 79) ((z - 1) / 4)) ∧ LQ ((z - 1) / 4) (N 77) (innP (M 79)) ∧ N 76 8 = nI 0 ∧ ∀ s, s < 2 → N 88 s = 0)) → Q (some (.int r)) N L) : Wp d 141 0 [.ref 76, .null] [] M L Q := by
  refine (show ∀ N : Mt, N = M → St (fun i k => i = 77 ∨ i = 78 ∨ i = 88 ∨ (i = 76 ∧ (k = 0 ∨ k = 8))) M N → Wp d 141 0 [.ref 76, .null] [] N L Q from ?_) M rfl (St.rf hI)
  intro N hNM hS
  have kz0 : N (76) 4 = nI z := by rw [hNM]; exact ez
  have hM : M 79 = N 79 := by rw [hNM]
  refine w_load (.aload_n 0) 1 (by decide +kernel) rfl rfl ?_
  refine w_callV0 140 8 2 4 (by decide +kernel) sh_76 (Nat.le_of_ble_eq_true rfl)  (by decide) (by omega) ?_
  refine k_140 hS.1 (by omega) kz0 (by omega) (fun r1 hr1 => ?_)
  dsimp only [Option.toList, List.cons_append, List.nil_append]
  refine w_push (-9) 6 (by decide +kernel) ?_
  refine w_ceq 12 9 (by decide +kernel) (fun h2 => ?_) (fun h2 => ?_)
  · skip
    have hok := (ft_ok hr1 (by omega)).mp h2
    have hnm := hok.2
    have hnf := hok.lt
    refine w_load (.aload_n 0) 13 (by decide +kernel) rfl rfl ?_
    refine w_load (.aload_n 0) 14 (by decide +kernel) rfl rfl ?_
    refine w_getK (k := 4) 17 (by decide +kernel) sh_76 rfl kz0 ?_
    refine w_pushN 1 18 (by decide +kernel) ?_
    refine w_subN (z - 1) 19 (by decide +kernel) (by omega) rfl ?_
    refine w_pushN 4 20 (by decide +kernel) ?_
    refine w_divN (((z - 1)) / 4) 21 (by decide +kernel) (by decide) (by decide) (by omega) rfl ?_
    refine w_putE (k := 0) 24 (by decide +kernel) sh_76 rfl hS (rg_76n (B := 5) (by omega) (by decide)) (by first | exact rfl | omega | (dsimp only; omega) | (simp only [Hs, Tl, Sc, isHs, isScr, isTs] at *; omega)) (fun Nq3 hS hq3 oq3 mq3 => ?_)
    have kn4 := (oq3 (76) 4 (by first | omega | (simp only [Hs, Tl, Sc, isHs, isScr, isTs] at *; omega))).trans kz0
    have h79a : Nq3 79 = M 79 := by rw [mq3, row_ne (by decide), hNM]
    have g21 : Nq3 76 0 = nI ((z - 1) / 4) := by rw [mq3, up2_eq]
    refine w_pushN 0 25 (by decide +kernel) ?_
    refine w_store (ls' := [.ref 76, .int (nI 0)]) (.istore_n 1) 26 (by decide +kernel) rfl rfl ?_
    have LP_26 : ∀ (kk : Nat) (N_26 : Mt) (g1 : Nat), St (fun i k => i = 77 ∨ i = 78 ∨ i = 88 ∨ (i = 76 ∧ (k = 0 ∨ k = 8))) M N_26 → g1 ≤ 22 → (∀ k, k < g1 → N_26 78 k = nI 0) → N_26 79 = M 79 → N_26 76 0 = nI ((z - 1) / 4) → 22 - g1 < kk → Wp d 141 26 [.ref 76, .int (nI g1)] [] N_26 L Q := by
      intro kk
      induction kk with
      | zero => intro N_26 g1 hS hi0_26 hi1_26 hi2_26 hi3_26 hm_26; exact absurd hm_26 (Nat.not_lt_zero _)
      | succ kk ih_26 =>
        intro N_26 g1 hS hi0_26 hi1_26 hi2_26 hi3_26 hm_26
        refine w_load (.iload_n 1) 27 (by decide +kernel) rfl rfl ?_
        refine w_pushN 22 29 (by decide +kernel) ?_
        refine w_cgeN 45 32 (by decide +kernel) (by omega) (by omega) (fun h5 => ?_) (fun h5 => ?_)
        · skip
          refine w_load (.aload_n 0) 46 (by decide +kernel) rfl rfl ?_
          refine w_getR (k := 2) (r := 78) 49 (by decide +kernel) sh_76 rfl ?_
          refine w_pushN 15 51 (by decide +kernel) ?_
          refine w_pushN 1 52 (by decide +kernel) ?_
          refine w_load (.aload_n 0) 53 (by decide +kernel) rfl rfl ?_
          refine w_getK (k := 0) 56 (by decide +kernel) sh_76 rfl hi3_26 ?_
          refine w_pure .ishl 57 (by decide +kernel) rfl rfl ?_
          refine w_pushN 1 58 (by decide +kernel) ?_
          refine w_pure .isub 59 (by decide +kernel) rfl rfl ?_
          refine w_iastE 60 (by decide +kernel) sh_78 (by omega) (by omega) hS (rg_78 (fun h1 h2 => by first | omega | exact Or.inl rfl | exact Or.inr ⟨_, by omega, rfl⟩ | exact inv_78 hS.1 _ (by omega) (by omega) | exact inv_82 hS.1 _ (by omega) (by omega) | exact inv_89 hS.1 _ (by omega) (by omega))) (by first | exact rfl | omega | (dsimp only; omega) | (simp only [Hs, Tl, Sc, isHs, isScr, isTs] at *; omega)) (fun Nq6 hS hq6 oq6 mq6 => ?_)
          have kn7 := (oq6 (76) 0 (by first | omega | (simp only [Hs, Tl, Sc, isHs, isScr, isTs] at *; omega))).trans hi3_26
          have a59 : Nq6 78 15 = evI ((z - 1) / 4) := by rw [mq6, up2_eq] <;> rfl
          have z59 : Nq6 78 16 = nI 0 := by rw [mq6, up2_ne (by omega)]; exact hi1_26 16 (by omega)
          have c59 : Nq6 79 = M 79 := by rw [mq6, row_ne (by decide)]; exact hi2_26
          refine w_pushN 0 61 (by decide +kernel) ?_
          refine w_store (ls' := [.ref 76, .int (nI 0)]) (.istore_n 1) 62 (by decide +kernel) rfl rfl ?_
          have LP_62 : ∀ (kk : Nat) (N_62 : Mt) (g1 : Nat), St (fun i k => i = 77 ∨ i = 78 ∨ i = 88 ∨ (i = 76 ∧ (k = 0 ∨ k = 8))) M N_62 → g1 ≤ 5 → (∀ i, i < g1 → N_62 78 (10 + i) = -9) → N_62 78 15 = evI ((z - 1) / 4) → N_62 78 16 = nI 0 → N_62 79 = M 79 → N_62 76 0 = nI ((z - 1) / 4) → 5 - g1 < kk → Wp d 141 62 [.ref 76, .int (nI g1)] [] N_62 L Q := by
            intro kk
            induction kk with
            | zero => intro N_62 g1 hS hi0_62 hi1_62 hi2_62 hi3_62 hi4_62 hi5_62 hm_62; exact absurd hm_62 (Nat.not_lt_zero _)
            | succ kk ih_62 =>
              intro N_62 g1 hS hi0_62 hi1_62 hi2_62 hi3_62 hi4_62 hi5_62 hm_62
              refine w_load (.iload_n 1) 63 (by decide +kernel) rfl rfl ?_
              refine w_pushN 5 64 (by decide +kernel) ?_
              refine w_cgeN 91 67 (by decide +kernel) (by omega) (by omega) (fun h8 => ?_) (fun h8 => ?_)
              · skip
                refine w_pushN 0 92 (by decide +kernel) ?_
                refine w_store (ls' := [.ref 76, .int (nI 0)]) (.istore_n 1) 93 (by decide +kernel) rfl rfl ?_
                have LP_93 : ∀ (kk : Nat) (N_93 : Mt) (g1 : Nat), St (fun i k => i = 77 ∨ i = 78 ∨ i = 88 ∨ (i = 76 ∧ (k = 0 ∨ k = 8))) M N_93 → g1 ≤ 5 → N_93 76 0 = nI ((z - 1) / 4) → in8Q (M 79) g1 (N_93 78) (N_93 77) → (∀ i, i < 5 → N_93 78 (10 + i) = -9) → N_93 78 15 = evI ((z - 1) / 4) → N_93 78 16 = nI 0 → N_93 79 = M 79 → 5 - g1 < kk → Wp d 141 93 [.ref 76, .int (nI g1)] [] N_93 L Q := by
                  intro kk
                  induction kk with
                  | zero => intro N_93 g1 hS hi0_93 hi1_93 hi2_93 hi3_93 hi4_93 hi5_93 hi6_93 hm_93; exact absurd hm_93 (Nat.not_lt_zero _)
                  | succ kk ih_93 =>
                    intro N_93 g1 hS hi0_93 hi1_93 hi2_93 hi3_93 hi4_93 hi5_93 hi6_93 hm_93
                    refine w_load (.iload_n 1) 94 (by decide +kernel) rfl rfl ?_
                    refine w_load (.aload_n 0) 95 (by decide +kernel) rfl rfl ?_
                    refine w_getK (k := 0) 98 (by decide +kernel) sh_76 rfl hi1_93 ?_
                    refine w_cgeN 166 101 (by decide +kernel) (by omega) (by omega) (fun h9 => ?_) (fun h9 => ?_)
                    · skip
                      refine w_load (.aload_n 0) 167 (by decide +kernel) rfl rfl ?_
                      refine w_pushN 0 168 (by decide +kernel) ?_
                      refine w_putE (k := 8) 171 (by decide +kernel) sh_76 rfl hS (rg_76 (by decide)) (by first | exact rfl | omega | (dsimp only; omega) | (simp only [Hs, Tl, Sc, isHs, isScr, isTs] at *; omega)) (fun Nq10 hS hq10 oq10 mq10 => ?_)
                      have kn11 := (oq10 (76) 0 (by first | omega | (simp only [Hs, Tl, Sc, isHs, isScr, isTs] at *; omega))).trans hi1_93
                      refine w_load (.aload_n 0) 172 (by decide +kernel) rfl rfl ?_
                      refine w_getR (k := 19) (r := 88) 175 (by decide +kernel) sh_76 rfl ?_
                      refine w_pushN 0 176 (by decide +kernel) ?_
                      refine w_pushN 0 177 (by decide +kernel) ?_
                      refine w_bastE 178 (by decide +kernel) sh_88 (by omega) (by omega) (Or.inl rfl) hS (Rg.free (by simp only [Hs, Tl, Sc, isScr, isHs, isTs] at *; omega)) (by first | exact rfl | omega | (dsimp only; omega) | (simp only [Hs, Tl, Sc, isHs, isScr, isTs] at *; omega)) (fun Nq12 hS hq12 oq12 mq12 => ?_)
                      have kn13 := (oq12 (76) 0 (by first | omega | (simp only [Hs, Tl, Sc, isHs, isScr, isTs] at *; omega))).trans kn11
                      have kn14 := (oq12 (76) 8 (by first | omega | (simp only [Hs, Tl, Sc, isHs, isScr, isTs] at *; omega))).trans hq10
                      refine w_load (.aload_n 0) 179 (by decide +kernel) rfl rfl ?_
                      refine w_getR (k := 19) (r := 88) 182 (by decide +kernel) sh_76 rfl ?_
                      refine w_pushN 1 183 (by decide +kernel) ?_
                      refine w_pushN 0 184 (by decide +kernel) ?_
                      refine w_bastE 185 (by decide +kernel) sh_88 (by omega) (by omega) (Or.inl rfl) hS (Rg.free (by simp only [Hs, Tl, Sc, isScr, isHs, isTs] at *; omega)) (by first | exact rfl | omega | (dsimp only; omega) | (simp only [Hs, Tl, Sc, isHs, isScr, isTs] at *; omega)) (fun Nq15 hS hq15 oq15 mq15 => ?_)
                      have kn16 := (oq15 (76) 0 (by first | omega | (simp only [Hs, Tl, Sc, isHs, isScr, isTs] at *; omega))).trans kn13
                      have kn17 := (oq15 (76) 8 (by first | omega | (simp only [Hs, Tl, Sc, isHs, isScr, isTs] at *; omega))).trans kn14
                      refine w_load (.aload_n 0) 186 (by decide +kernel) rfl rfl ?_
                      refine w_getK (k := 0) 189 (by decide +kernel) sh_76 rfl kn16 ?_
                      exact w_ret (by decide +kernel) (hq _ Nq15 hS (Or.inr ⟨by rw [hM]; exact hok, rfl, by rw [mq15, up2_ne (by decide), mq12, up2_ne (by decide), mq10, up2_ne (by decide)]; exact hi1_93, by rw [lvC_row (show Nq15 78 = N_93 78 by rw [mq15, row_ne (by decide), mq12, row_ne (by decide), mq10, row_ne (by decide)])]; exact in8_end (by omega) hi2_93 hi3_93 hi4_93 hi5_93 (by omega), by rw [mq15, row_ne (by decide), mq12, row_ne (by decide), mq10, row_ne (by decide)]; exact fun g hg => (hi2_93 g (by omega)).2.2, by rw [mq15, up2_ne (by decide), mq12, up2_ne (by decide), mq10, up2_eq], fun s hs => by rw [mq15, row_eq, mq12, row_eq]; exact in8_k s hs⟩))
                    · skip
                      refine w_load (.aload_n 0) 102 (by decide +kernel) rfl rfl ?_
                      refine w_getR (k := 2) (r := 78) 105 (by decide +kernel) sh_76 rfl ?_
                      refine w_load (.iload_n 1) 106 (by decide +kernel) rfl rfl ?_
                      refine w_load (.aload_n 0) 107 (by decide +kernel) rfl rfl ?_
                      refine w_getR (k := 3) (r := 79) 110 (by decide +kernel) sh_76 rfl ?_
                      refine w_pushN 2 111 (by decide +kernel) ?_
                      refine w_pushN 4 112 (by decide +kernel) ?_
                      refine w_load (.iload_n 1) 113 (by decide +kernel) rfl rfl ?_
                      refine w_mulN (4 * g1) 114 (by decide +kernel) rfl ?_
                      refine w_addN (2 + 4 * g1) 115 (by decide +kernel) (by omega) ?_
                      refine w_ialdN 116 (by decide +kernel) sh_79 (by omega) (by omega) ?_
                      refine w_pushN 97 118 (by decide +kernel) ?_
                      refine w_pure .isub 119 (by decide +kernel) rfl rfl ?_
                      refine w_iastE 120 (by decide +kernel) sh_78 (by omega) (by omega) hS (rg_78 (fun h1 h2 => by first | omega | exact Or.inl rfl | exact Or.inr ⟨_, by omega, rfl⟩ | exact inv_78 hS.1 _ (by omega) (by omega) | exact inv_82 hS.1 _ (by omega) (by omega) | exact inv_89 hS.1 _ (by omega) (by omega))) (by first | exact rfl | omega | (dsimp only; omega) | (simp only [Hs, Tl, Sc, isHs, isScr, isTs] at *; omega)) (fun Nq18 hS hq18 oq18 mq18 => ?_)
                      have kn19 := (oq18 (76) 0 (by first | omega | (simp only [Hs, Tl, Sc, isHs, isScr, isTs] at *; omega))).trans hi1_93
                      refine w_load (.aload_n 0) 121 (by decide +kernel) rfl rfl ?_
                      refine w_getR (k := 2) (r := 78) 124 (by decide +kernel) sh_76 rfl ?_
                      refine w_pushN 5 125 (by decide +kernel) ?_
                      refine w_load (.iload_n 1) 126 (by decide +kernel) rfl rfl ?_
                      refine w_addN (5 + g1) 127 (by decide +kernel) (by omega) ?_
                      refine w_load (.aload_n 0) 128 (by decide +kernel) rfl rfl ?_
                      refine w_getR (k := 3) (r := 79) 131 (by decide +kernel) sh_76 rfl ?_
                      refine w_pushN 3 132 (by decide +kernel) ?_
                      refine w_pushN 4 133 (by decide +kernel) ?_
                      refine w_load (.iload_n 1) 134 (by decide +kernel) rfl rfl ?_
                      refine w_mulN (4 * g1) 135 (by decide +kernel) rfl ?_
                      refine w_addN (3 + 4 * g1) 136 (by decide +kernel) (by omega) ?_
                      refine w_ialdN 137 (by decide +kernel) sh_79 (by omega) (by omega) ?_
                      refine w_pushN 48 139 (by decide +kernel) ?_
                      refine w_pure .isub 140 (by decide +kernel) rfl rfl ?_
                      refine w_iastE 141 (by decide +kernel) sh_78 (by omega) (by omega) hS (rg_78 (fun h1 h2 => by first | omega | exact Or.inl rfl | exact Or.inr ⟨_, by omega, rfl⟩ | exact inv_78 hS.1 _ (by omega) (by omega) | exact inv_82 hS.1 _ (by omega) (by omega) | exact inv_89 hS.1 _ (by omega) (by omega))) (by first | exact rfl | omega | (dsimp only; omega) | (simp only [Hs, Tl, Sc, isHs, isScr, isTs] at *; omega)) (fun Nq20 hS hq20 oq20 mq20 => ?_)
                      have kn21 := (oq20 (76) 0 (by first | omega | (simp only [Hs, Tl, Sc, isHs, isScr, isTs] at *; omega))).trans kn19
                      refine w_load (.aload_n 0) 142 (by decide +kernel) rfl rfl ?_
                      refine w_getR (k := 1) (r := 77) 145 (by decide +kernel) sh_76 rfl ?_
                      refine w_load (.iload_n 1) 146 (by decide +kernel) rfl rfl ?_
                      refine w_load (.aload_n 0) 147 (by decide +kernel) rfl rfl ?_
                      refine w_getR (k := 3) (r := 79) 150 (by decide +kernel) sh_76 rfl ?_
                      refine w_pushN 4 151 (by decide +kernel) ?_
                      refine w_pushN 4 152 (by decide +kernel) ?_
                      refine w_load (.iload_n 1) 153 (by decide +kernel) rfl rfl ?_
                      refine w_mulN (4 * g1) 154 (by decide +kernel) rfl ?_
                      refine w_addN (4 + 4 * g1) 155 (by decide +kernel) (by omega) ?_
                      refine w_ialdN 156 (by decide +kernel) sh_79 (by omega) (by omega) ?_
                      refine w_pushN 48 158 (by decide +kernel) ?_
                      refine w_pure .isub 159 (by decide +kernel) rfl rfl ?_
                      refine w_iastE 160 (by decide +kernel) sh_77 (by omega) (by omega) hS (Rg.free (by simp only [Hs, Tl, Sc, isScr, isHs, isTs] at *; omega)) (by first | exact rfl | omega | (dsimp only; omega) | (simp only [Hs, Tl, Sc, isHs, isScr, isTs] at *; omega)) (fun Nq22 hS hq22 oq22 mq22 => ?_)
                      have kn23 := (oq22 (76) 0 (by first | omega | (simp only [Hs, Tl, Sc, isHs, isScr, isTs] at *; omega))).trans kn21
                      have c159 : Nq22 79 = M 79 := by rw [mq22, row_ne (by decide), mq20, row_ne (by decide), mq18, row_ne (by decide)]; exact hi6_93
                      have b159 := in8_2 (l := M 79) hi2_93 (m1 := mq18) (m2 := mq20) (m3 := mq22) (by rw [hi6_93]; congr 2; omega) (by rw [mq18, row_ne (by decide), hi6_93]; congr 2; omega) (by rw [mq20, row_ne (by decide), mq18, row_ne (by decide), hi6_93]; congr 2; omega) (by omega)
                      have w159 : ∀ i, i < 5 → Nq22 78 (10 + i) = -9 := fun i hi => by rw [mq22, up2_ne (by omega), mq20, up2_ne (by omega), mq18, up2_ne (by omega)]; exact hi3_93 i hi
                      have a159 : Nq22 78 15 = evI ((z - 1) / 4) := by rw [mq22, up2_ne (by omega), mq20, up2_ne (by omega), mq18, up2_ne (by omega)]; exact hi4_93
                      have z159 : Nq22 78 16 = nI 0 := by rw [mq22, up2_ne (by omega), mq20, up2_ne (by omega), mq18, up2_ne (by omega)]; exact hi5_93
                      refine w_iincN (z := 1) (g1 + 1) 163 (by decide +kernel) rfl (Nat.le_of_ble_eq_true rfl) rfl rfl ?_
                      show Wp _ _ _ [.ref 76, .int (nI (g1 + 1))] _ _ _ _
                      refine w_goto 93 (by decide +kernel) ?_
                      exact ih_93 Nq22 (g1 + 1) hS (by first | omega | assumption) (by first | omega | assumption) (by first | omega | assumption) (by first | omega | assumption) (by first | omega | assumption) (by first | omega | assumption) (by first | omega | assumption) (by omega)
                exact LP_93 _ N_62 0 hS (by first | omega | assumption | (intro k hk; omega) | exact fun i hi => hi1_62 i (by omega)) (by first | omega | assumption | (intro k hk; omega) | exact fun i hi => hi1_62 i (by omega)) (by first | omega | assumption | (intro k hk; omega) | exact fun i hi => hi1_62 i (by omega)) (by first | omega | assumption | (intro k hk; omega) | exact fun i hi => hi1_62 i (by omega)) (by first | omega | assumption | (intro k hk; omega) | exact fun i hi => hi1_62 i (by omega)) (by first | omega | assumption | (intro k hk; omega) | exact fun i hi => hi1_62 i (by omega)) (by first | omega | assumption | (intro k hk; omega) | exact fun i hi => hi1_62 i (by omega)) (Nat.lt_succ_self _)
              · skip
                refine w_load (.aload_n 0) 68 (by decide +kernel) rfl rfl ?_
                refine w_getR (k := 2) (r := 78) 71 (by decide +kernel) sh_76 rfl ?_
                refine w_pushN 10 73 (by decide +kernel) ?_
                refine w_load (.iload_n 1) 74 (by decide +kernel) rfl rfl ?_
                refine w_addN (10 + g1) 75 (by decide +kernel) (by omega) ?_
                refine w_push (-9) 77 (by decide +kernel) ?_
                refine w_iastE 78 (by decide +kernel) sh_78 (by omega) (by omega) hS (rg_78 (fun h1 h2 => by first | omega | exact Or.inl rfl | exact Or.inr ⟨_, by omega, rfl⟩ | exact inv_78 hS.1 _ (by omega) (by omega) | exact inv_82 hS.1 _ (by omega) (by omega) | exact inv_89 hS.1 _ (by omega) (by omega))) (by first | exact rfl | omega | (dsimp only; omega) | (simp only [Hs, Tl, Sc, isHs, isScr, isTs] at *; omega)) (fun Nq24 hS hq24 oq24 mq24 => ?_)
                have kn25 := (oq24 (76) 0 (by first | omega | (simp only [Hs, Tl, Sc, isHs, isScr, isTs] at *; omega))).trans hi5_62
                refine w_load (.aload_n 0) 79 (by decide +kernel) rfl rfl ?_
                refine w_getR (k := 1) (r := 77) 82 (by decide +kernel) sh_76 rfl ?_
                refine w_load (.iload_n 1) 83 (by decide +kernel) rfl rfl ?_
                refine w_pushN 0 84 (by decide +kernel) ?_
                refine w_iastE 85 (by decide +kernel) sh_77 (by omega) (by omega) hS (Rg.free (by simp only [Hs, Tl, Sc, isScr, isHs, isTs] at *; omega)) (by first | exact rfl | omega | (dsimp only; omega) | (simp only [Hs, Tl, Sc, isHs, isScr, isTs] at *; omega)) (fun Nq26 hS hq26 oq26 mq26 => ?_)
                have kn27 := (oq26 (76) 0 (by first | omega | (simp only [Hs, Tl, Sc, isHs, isScr, isTs] at *; omega))).trans kn25
                have b84 : ∀ i, i < g1 + 1 → Nq26 78 (10 + i) = -9 := in8_1 hi1_62 mq24 mq26
                have a84 : Nq26 78 15 = evI ((z - 1) / 4) := by rw [mq26, up2_ne (by omega), mq24, up2_ne (by omega)]; exact hi2_62
                have z84 : Nq26 78 16 = nI 0 := by rw [mq26, up2_ne (by omega), mq24, up2_ne (by omega)]; exact hi3_62
                have c84 : Nq26 79 = M 79 := by rw [mq26, row_ne (by decide), mq24, row_ne (by decide)]; exact hi4_62
                refine w_iincN (z := 1) (g1 + 1) 88 (by decide +kernel) rfl (Nat.le_of_ble_eq_true rfl) rfl rfl ?_
                show Wp _ _ _ [.ref 76, .int (nI (g1 + 1))] _ _ _ _
                refine w_goto 62 (by decide +kernel) ?_
                exact ih_62 Nq26 (g1 + 1) hS (by first | omega | assumption) (by first | omega | assumption) (by first | omega | assumption) (by first | omega | assumption) (by first | omega | assumption) (by first | omega | assumption) (by omega)
          exact LP_62 _ Nq6 0 hS (by first | omega | assumption | (intro k hk; omega)) (by first | omega | assumption | (intro k hk; omega)) (by first | omega | assumption | (intro k hk; omega)) (by first | omega | assumption | (intro k hk; omega)) (by first | omega | assumption | (intro k hk; omega)) (by first | omega | assumption | (intro k hk; omega)) (Nat.lt_succ_self _)
        · skip
          refine w_load (.aload_n 0) 33 (by decide +kernel) rfl rfl ?_
          refine w_getR (k := 2) (r := 78) 36 (by decide +kernel) sh_76 rfl ?_
          refine w_load (.iload_n 1) 37 (by decide +kernel) rfl rfl ?_
          refine w_pushN 0 38 (by decide +kernel) ?_
          refine w_iastE 39 (by decide +kernel) sh_78 (by omega) (by omega) hS (rg_78 (fun h1 h2 => by first | omega | exact Or.inl rfl | exact Or.inr ⟨_, by omega, rfl⟩ | exact inv_78 hS.1 _ (by omega) (by omega) | exact inv_82 hS.1 _ (by omega) (by omega) | exact inv_89 hS.1 _ (by omega) (by omega))) (by first | exact rfl | omega | (dsimp only; omega) | (simp only [Hs, Tl, Sc, isHs, isScr, isTs] at *; omega)) (fun Nq28 hS hq28 oq28 mq28 => ?_)
          have kn29 := (oq28 (76) 0 (by first | omega | (simp only [Hs, Tl, Sc, isHs, isScr, isTs] at *; omega))).trans hi3_26
          have b38 : ∀ k, k < g1 + 1 → Nq28 78 k = nI 0 := in8_0 hi1_26 mq28
          have c38 : Nq28 79 = M 79 := by rw [mq28, row_ne (by decide)]; exact hi2_26
          refine w_iincN (z := 1) (g1 + 1) 42 (by decide +kernel) rfl (Nat.le_of_ble_eq_true rfl) rfl rfl ?_
          show Wp _ _ _ [.ref 76, .int (nI (g1 + 1))] _ _ _ _
          refine w_goto 26 (by decide +kernel) ?_
          exact ih_26 Nq28 (g1 + 1) hS (by first | omega | assumption) (by first | omega | assumption) (by first | omega | assumption) (by first | omega | assumption) (by omega)
    exact LP_26 _ Nq3 0 hS (by first | omega | assumption | (intro k hk; omega)) (by first | omega | assumption | (intro k hk; omega)) (by first | omega | assumption | (intro k hk; omega)) (by first | omega | assumption | (intro k hk; omega)) (Nat.lt_succ_self _)
  · skip
    have hok := (not_congr (ft_ok hr1 (by omega))).mp h2
    refine w_push (-3) 11 (by decide +kernel) ?_
    exact w_ret (by decide +kernel) (hq _ N hS (Or.inl ⟨rfl, by rw [hM]; exact hok, hNM⟩))
