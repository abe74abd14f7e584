-- X7_drawTale#s
set_option maxRecDepth 10000 in
theorem s_drawTale {d : Nat} {M : Mt} {L : Lt} {Q : Option Value → Mt → Lt → Prop} {od : Row}  (hI : Inv M) (ho : ∀ t, t < 3 → M 67 t = od t) (hd : 0 ≤ d) (hq : ∀ (r : Int32) (N : Mt) (L' : Lt), St (fun _ _ => False) M N → (r = nI (drN od (nxS (L 0))) ∧ L' = upL L 0 (nxS (L 0))) → Q (some (.int r)) N L') : Wp d 131 0 [.ref 0, .null] [] M L Q := by
  refine (show ∀ N : Mt, N = M → St (fun _ _ => False) M N → Wp d 131 0 [.ref 0, .null] [] N L Q from ?_) M rfl (St.rf hI)
  intro N hNM hS
  refine w_load (.aload_n 0) 1 (by decide +kernel) rfl rfl ?_
  refine w_load (.aload_n 0) 2 (by decide +kernel) rfl rfl ?_
  refine w_getL (k := 16) 5 (by decide +kernel) sh_0 rfl ?_
  refine w_pushL (6364136223846793005) 8 (by decide +kernel) ?_
  refine w_pure .lmul 9 (by decide +kernel) rfl rfl ?_
  refine w_pushL (1442695040888963407) 12 (by decide +kernel) ?_
  refine w_pure .ladd 13 (by decide +kernel) rfl rfl ?_
  refine w_putLE (k := 16) 16 (by decide +kernel) sh_0 rfl only0 (fun Lq1 mq1 => ?_)
  refine w_load (.aload_n 0) 17 (by decide +kernel) rfl rfl ?_
  refine w_getL (k := 16) 20 (by decide +kernel) sh_0 rfl ?_
  refine w_pushN 33 22 (by decide +kernel) ?_
  refine w_pure .lushr 23 (by decide +kernel) rfl rfl ?_
  refine w_pushL (10) 26 (by decide +kernel) ?_
  refine w_lrem 27 (by decide +kernel) (by decide) ?_
  refine w_pure .l2i 28 (by decide +kernel) rfl rfl ?_
  refine w_topi (fun v2 ev2 => ?_)
  refine w_store (ls' := [.ref 0, .int v2]) (.istore_n 1) 29 (by decide +kernel) rfl rfl ?_
  have hv : v2 = drX (nxS (L 0)) := by rw [ev2, mq1, upL_eq]; rfl
  refine w_load (.iload_n 1) 30 (by decide +kernel) rfl rfl ?_
  refine w_load (.aload_n 0) 31 (by decide +kernel) rfl rfl ?_
  refine w_getR (k := 11) (r := 67) 34 (by decide +kernel) sh_0 rfl ?_
  refine w_pushN 0 35 (by decide +kernel) ?_
  refine w_ialdN 36 (by decide +kernel) sh_67 (by omega) (by omega) ?_
  refine w_cge 41 39 (by decide +kernel) (fun h3 => ?_) (fun h3 => ?_)
  · skip
    refine w_load (.iload_n 1) 42 (by decide +kernel) rfl rfl ?_
    refine w_load (.aload_n 0) 43 (by decide +kernel) rfl rfl ?_
    refine w_getR (k := 11) (r := 67) 46 (by decide +kernel) sh_0 rfl ?_
    refine w_pushN 0 47 (by decide +kernel) ?_
    refine w_ialdN 48 (by decide +kernel) sh_67 (by omega) (by omega) ?_
    refine w_load (.aload_n 0) 49 (by decide +kernel) rfl rfl ?_
    refine w_getR (k := 11) (r := 67) 52 (by decide +kernel) sh_0 rfl ?_
    refine w_pushN 1 53 (by decide +kernel) ?_
    refine w_ialdN 54 (by decide +kernel) sh_67 (by omega) (by omega) ?_
    refine w_pure .iadd 55 (by decide +kernel) rfl rfl ?_
    refine w_cge 62 58 (by decide +kernel) (fun h4 => ?_) (fun h4 => ?_)
    · skip
      refine w_pushN 2 63 (by decide +kernel) ?_
      exact w_ret (by decide +kernel) (hq _ N Lq1 hS ⟨by rw [dr_2 (y := N 67 0) (z := N 67 0 + N 67 1) hv (by rw [hNM]; exact ho 0 (by omega)) (by assumption) (by rw [hNM, ho 0 (by omega), ho 1 (by omega)]) (by assumption)], by assumption⟩)
    · skip
      refine w_pushN 1 59 (by decide +kernel) ?_
      refine w_goto 63 (by decide +kernel) ?_
      exact w_ret (by decide +kernel) (hq _ N Lq1 hS ⟨by rw [dr_1 (y := N 67 0) (z := N 67 0 + N 67 1) hv (by rw [hNM]; exact ho 0 (by omega)) (by assumption) (by rw [hNM, ho 0 (by omega), ho 1 (by omega)]) (by assumption)], by assumption⟩)
  · skip
    refine w_pushN 0 40 (by decide +kernel) ?_
    exact w_ret (by decide +kernel) (hq _ N Lq1 hS ⟨by rw [dr_0 (y := N 67 0) hv (by rw [hNM]; exact ho 0 (by omega)) (by assumption)], by assumption⟩)
-- X7_nights#s
set_option maxRecDepth 10000 in
theorem s_nights7 {d : Nat} {M : Mt} {L : Lt} {Q : Option Value → Mt → Lt → Prop} {n : Nat} {c pw : Row} {T : TLs} {od : Row} {a : Int32} (hI : Inv M) (hn : n ≤ 5) (en : M 4 2 = nI n) (hc : HE n (M 5) c) (hp : LQ n (M 6) pw) (hok : okC n c) (hT : tlX T M) (ho : ∀ t, t < 3 → M 67 t = od t) (hd : 6 ≤ d) (hq : ∀ (r : Int32) (N : Mt) (L' : Lt), St (fun i _ => (7 ≤ i ∧ i ≤ 57) ∨ i = 63 ∨ i = 68 ∨ i = 69) M N → ((r = -2 ∧ ¬ (∃ k, 1 ≤ k ∧ k ≤ 40 ∧ a = nI k) ∧ L' = L) ∨ (∃ k, 1 ≤ k ∧ k ≤ 40 ∧ a = nI k ∧ L' 0 = itS k (L 0) ∧ L' 76 = L 76 ∧ r = nigC n T pw od (L 0) c k 15)) → Q (some (.int r)) N L') : Wp d 106 0 [.ref 0, .int a, .null] [] M L Q := by
  refine (show ∀ N : Mt, N = M → St (fun i _ => (7 ≤ i ∧ i ≤ 57) ∨ i = 63 ∨ i = 68 ∨ i = 69) M N → Wp d 106 0 [.ref 0, .int a, .null] [] N L Q from ?_) M rfl (St.rf hI)
  intro N hNM hS
  have kz0 : N (4) 2 = nI n := by rw [hNM]; exact en
  refine w_load (.iload_n 1) 1 (by decide +kernel) rfl rfl ?_
  refine w_pushN 1 2 (by decide +kernel) ?_
  refine w_clt 11 5 (by decide +kernel) (fun h1 => ?_) (fun h1 => ?_)
  · skip
    refine w_push (-2) 13 (by decide +kernel) ?_
    exact w_ret (by decide +kernel) (hq _ N L hS (Or.inl ⟨rfl, by first | exact no_rlo (by assumption) (by decide) | exact no_rhi (by assumption) (by decide), rfl⟩))
  · skip
    refine w_load (.iload_n 1) 6 (by decide +kernel) rfl rfl ?_
    refine w_pushN 40 8 (by decide +kernel) ?_
    refine w_cle 14 11 (by decide +kernel) (fun h2 => ?_) (fun h2 => ?_)
    · skip
      obtain ⟨k3, hk3, hk3b, rfl⟩ := rng_1 (by assumption) h2 (by decide)
      refine w_load (.aload_n 0) 15 (by decide +kernel) rfl rfl ?_
      refine w_getR (k := 3) (r := 7) 18 (by decide +kernel) sh_0 rfl ?_
      refine w_load (.aload_n 0) 19 (by decide +kernel) rfl rfl ?_
      refine w_getR (k := 2) (r := 4) 22 (by decide +kernel) sh_0 rfl ?_
      refine w_callV1 8 1 2 25 (by decide +kernel) sh_7 (Nat.le_of_ble_eq_true rfl) rfl (by decide) (by omega) ?_
      refine k_8 hS.1 hs_7 hs_4 (by omega) (fun Nr4 hTr4 hr4 => ?_)
      have hS := hS.tr hTr4 (by intro i k; first | exact rfl | exact fun h => h.elim | omega | (dsimp only; omega) | (simp only [Hs, Tl, Sc, isHs, isScr, isTs] at *; omega))
      have c7 : HE n (Nr4 8) c := by rw [hr4]; exact (HE.of17 hn (fun k hk => cpH_c (o := 4) hk)).tr (by rw [hNM]; exact hc)
      have g7 : Nr4 7 2 = nI n := by rw [hr4, cpH_g]; exact (by rw [hNM]; exact en)
      have p7 : LQ n (Nr4 9) pw := by rw [hr4]; exact fun g hg => (cpH_p (by omega) (by decide)).trans ((show LQ n (N 6) pw from (by rw [hNM]; exact hp)) g hg)
      dsimp only [Option.toList, List.nil_append]
      refine w_pushN 0 26 (by decide +kernel) ?_
      refine w_store (ls' := [.ref 0, .int (nI k3), .int (nI 0)]) (.istore_n 2) 27 (by decide +kernel) rfl rfl ?_
      have LP_27 : ∀ (kk : Nat) (N_27 : Mt) (L_27 : Lt) (g2 : Nat), St (fun i _ => (7 ≤ i ∧ i ≤ 57) ∨ i = 63 ∨ i = 68 ∨ i = 69) M N_27 → g2 ≤ 40 → L_27 0 = itS g2 (L 0) → L_27 76 = L 76 → g2 ≤ k3 → HE n (N_27 8) (nigC n T pw od (L 0) c g2) → LQ n (N_27 9) pw → N_27 7 2 = nI n → 40 - g2 < kk → Wp d 106 27 [.ref 0, .int (nI k3), .int (nI g2)] [] N_27 L_27 Q := by
        intro kk
        induction kk with
        | zero => intro N_27 L_27 g2 hS hi0_27 hi1_27 hi2_27 hi3_27 hi4_27 hi5_27 hi6_27 hm_27; exact absurd hm_27 (Nat.not_lt_zero _)
        | succ kk ih_27 =>
          intro N_27 L_27 g2 hS hi0_27 hi1_27 hi2_27 hi3_27 hi4_27 hi5_27 hi6_27 hm_27
          refine w_load (.iload_n 2) 28 (by decide +kernel) rfl rfl ?_
          refine w_load (.iload_n 1) 29 (by decide +kernel) rfl rfl ?_
          refine w_cgeN 72 32 (by decide +kernel) (by omega) (by omega) (fun h5 => ?_) (fun h5 => ?_)
          · skip
            refine w_load (.aload_n 0) 73 (by decide +kernel) rfl rfl ?_
            refine w_getR (k := 3) (r := 7) 76 (by decide +kernel) sh_0 rfl ?_
            refine w_callV0 19 1 1 79 (by decide +kernel) sh_7 (Nat.le_of_ble_eq_true rfl)  (by decide) (by omega) ?_
            refine s_living hS.1 hs_7 (by omega) hi6_27 hi4_27 (by omega) (fun r6 hr6 => ?_)
            dsimp only [Option.toList, List.cons_append, List.nil_append]
            rcases hr6 with rfl
            · skip
              exact w_ret (by decide +kernel) (hq _ N_27 L_27 hS (Or.inr ⟨_, by omega, by omega, rfl, it_end hi1_27 (by omega), hi2_27, by have hgn : g2 = _ := (by omega : g2 = k3); rw [← hgn]⟩))
          · skip
            refine w_load (.aload_n 0) 33 (by decide +kernel) rfl rfl ?_
            refine w_getR (k := 4) (r := 10) 36 (by decide +kernel) sh_0 rfl ?_
            refine w_load (.aload_n 0) 37 (by decide +kernel) rfl rfl ?_
            refine w_getR (k := 3) (r := 7) 40 (by decide +kernel) sh_0 rfl ?_
            refine w_load (.aload_n 0) 41 (by decide +kernel) rfl rfl ?_
            refine w_getR (k := 1) (r := 3) 44 (by decide +kernel) sh_0 rfl ?_
            refine w_load (.aload_n 0) 45 (by decide +kernel) rfl rfl ?_
            refine w_callV0 131 7 2 48 (by decide +kernel) sh_0 (Nat.le_of_ble_eq_true rfl)  (by decide) (by omega) ?_
            refine s_drawTale hS.1 (fun t ht => (hS.2 67 t (by (try dsimp only); first | omega | (simp only [Hs, Tl, Sc, isHs, isScr, isTs] at *; omega))).trans (ho t ht)) (by omega) (fun r7 Nr7 Lr7 hTr7 hr7 => ?_)
            have hS := hS.tr hTr7 (by intro i k; first | exact rfl | exact fun h => h.elim | omega | (dsimp only; omega) | (simp only [Hs, Tl, Sc, isHs, isScr, isTs] at *; omega))
            have g7d : Nr7 7 2 = nI n := (hTr7.2 7 2 (fun h => h)).trans hi6_27
            have c7 : HE n (Nr7 8) (nigC n T pw od (L 0) c g2) := by rw [hTr7.row (fun k h => h)]; exact hi4_27
            have p7 : LQ n (Nr7 9) pw := by rw [hTr7.row (fun k h => h)]; exact hi5_27
            have hdl : drN od (nxS (L_27 0)) < 3 := drN_lt
            have hl0 : Lr7 0 = itS (g2 + 1) (L 0) := by rw [hr7.2, upL_eq, hi1_27]; rfl
            have hl76 : Lr7 76 = L 76 := by rw [hr7.2, upL_ne (by decide)]; exact hi2_27
            dsimp only [Option.toList, List.cons_append, List.nil_append]
            rcases hr7 with ⟨rfl, hLr7⟩
            · skip
              refine w_tale 49 (by decide +kernel) (by omega) ?_
              refine w_callV2 68 6 5 52 (by decide +kernel) sh_10 (Nat.le_of_ble_eq_true rfl) rfl rfl (by decide) (by omega) ?_
              refine s_hearAllT hS.1 tl_10 hs_7 (by omega) (by omega) g7d c7 p7 (nig_ok hn hok g2).1 (hT.keep (fun i k h1 h2 => hS.2 i k (by (try dsimp only); first | omega | (simp only [Hs, Tl, Sc, isHs, isScr, isTs] at *; omega)))) (by omega) (fun Nr8 hTr8 hr8 => ?_)
              have kn9 := (hTr8.2 (7) 2 (by (try dsimp only); first | omega | (simp only [Hs, Tl, Sc, isHs, isScr, isTs] at *; omega))).trans g7d
              have hS := hS.tr hTr8 (by intro i k; first | exact rfl | exact fun h => h.elim | omega | (dsimp only; omega) | (simp only [Hs, Tl, Sc, isHs, isScr, isTs] at *; omega))
              obtain ⟨hSt, hGt, hPt⟩ := hr8
              dsimp only [Option.toList, List.nil_append]
              refine w_load (.aload_n 0) 53 (by decide +kernel) rfl rfl ?_
              refine w_getR (k := 3) (r := 7) 56 (by decide +kernel) sh_0 rfl ?_
              refine w_load (.aload_n 0) 57 (by decide +kernel) rfl rfl ?_
              refine w_getR (k := 4) (r := 10) 60 (by decide +kernel) sh_0 rfl ?_
              refine w_getR (k := 0) (r := 11) 63 (by decide +kernel) sh_10 rfl ?_
              refine w_callV1 9 1 2 66 (by decide +kernel) sh_7 (Nat.le_of_ble_eq_true rfl) rfl (by decide) (by omega) ?_
              refine k_9 hS.1 hs_7 hs_11 (by omega) (fun Nr10 hTr10 hr10 => ?_)
              have hS := hS.tr hTr10 (by intro i k; first | exact rfl | exact fun h => h.elim | omega | (dsimp only; omega) | (simp only [Hs, Tl, Sc, isHs, isScr, isTs] at *; omega))
              have c8 : HE n (Nr10 8) (nigC n T pw od (L 0) c (g2 + 1)) := nig_up (t := drN od (nxS (L_27 0))) (by rw [hr10]; exact dawn_row hn hSt.1) (by rw [hi1_27]; rfl)
              have p9 : LQ n (Nr10 9) pw := by rw [hr10]; exact dawn_pw hn (by decide) hPt
              have g7 : Nr10 7 2 = nI n := by rw [hr10]; exact cpH_g'.trans hGt
              dsimp only [Option.toList, List.nil_append]
              refine w_iincN (z := 2) (g2 + 1) 69 (by decide +kernel) rfl (Nat.le_of_ble_eq_true rfl) rfl rfl ?_
              show Wp _ _ _ [.ref 0, .int (nI k3), .int (nI (g2 + 1))] _ _ _ _
              refine w_goto 27 (by decide +kernel) ?_
              exact ih_27 Nr10 Lr7 (g2 + 1) hS (by first | omega | assumption) (by first | omega | assumption) (by first | omega | assumption) (by first | omega | assumption) (by first | omega | assumption) (by first | omega | assumption) (by first | omega | assumption) (by omega)
      exact LP_27 _ Nr4 L 0 hS (by first | omega | rfl | assumption) (by first | omega | rfl | assumption) (by first | omega | rfl | assumption) (by first | omega | rfl | assumption) (by first | omega | rfl | assumption) (by first | omega | rfl | assumption) (by first | omega | rfl | assumption) (Nat.lt_succ_self _)
    · skip
      refine w_push (-2) 13 (by decide +kernel) ?_
      exact w_ret (by decide +kernel) (hq _ N L hS (Or.inl ⟨rfl, by first | exact no_rlo (by assumption) (by decide) | exact no_rhi (by assumption) (by decide), rfl⟩))
-- X8_nights#s
set_option maxRecDepth 10000 in
theorem s_nights8 {d : Nat} {M : Mt} {L : Lt} {Q : Option Value → Mt → Lt → Prop} {n : Nat} {c pw : Row} {T : TLs} {od : Row} {a : Int32} (hI : Inv M) (hn : n ≤ 5) (en : M 76 0 = nI n) (hc : HE n (lvC M 0) c) (hp : LQ n (M 77) pw) (hok : okC n c) (hT : tlM T M) (ho : ∀ t, t < 3 → M 85 t = od t) (hd : 4 ≤ d) (hq : ∀ (r : Int32) (N : Mt) (L' : Lt), St (fun i k => (i = 78 ∧ 22 ≤ k) ∨ i = 83 ∨ i = 84 ∨ (i = 76 ∧ (k = 7 ∨ k = 11))) M N → ((r = -2 ∧ ¬ (∃ k, 1 ≤ k ∧ k ≤ 40 ∧ a = nI k) ∧ L' = L) ∨ (∃ k, 1 ≤ k ∧ k ≤ 40 ∧ a = nI k ∧ L' 76 = itS k (L 76) ∧ L' 0 = L 0 ∧ r = nigC n T pw od (L 76) c k 15)) → Q (some (.int r)) N L') : Wp d 196 0 [.ref 76, .int a, .null, .null] [] M L Q := by
  refine (show ∀ N : Mt, N = M → St (fun i k => (i = 78 ∧ 22 ≤ k) ∨ i = 83 ∨ i = 84 ∨ (i = 76 ∧ (k = 7 ∨ k = 11))) M N → Wp d 196 0 [.ref 76, .int a, .null, .null] [] N L Q from ?_) M rfl (St.rf hI)
  intro N hNM hS
  have kz0 : N (76) 0 = nI n := by rw [hNM]; exact en
  refine w_load (.iload_n 1) 1 (by decide +kernel) rfl rfl ?_
  refine w_pure .i2l 2 (by decide +kernel) rfl rfl ?_
  refine w_pushL (1) 3 (by decide +kernel) ?_
  refine w_pushL (40) 6 (by decide +kernel) ?_
  refine w_callSL 134 6 9 (by decide +kernel) (Nat.le_of_ble_eq_true rfl) rfl (by omega) ?_
  refine k_134 hS.1  (by omega) (fun r1 hr1 => ?_)
  dsimp only [Option.toList, List.cons_append, List.nil_append]
  rcases hr1 with ⟨rfl, hlok3, hhik3⟩ | ⟨rfl, hnok3⟩
  · skip
    obtain ⟨k3, hlk3, hhk3, rfl⟩ := in_k (lo := 1) (hi := 40) hlok3 hhik3 (by decide)
    refine w_ine 15 12 (by decide +kernel) (fun _ => ?_) (fun hz => absurd hz (by decide))
    refine w_load (.aload_n 0) 16 (by decide +kernel) rfl rfl ?_
    refine w_pushN 0 17 (by decide +kernel) ?_
    refine w_pushN 1 18 (by decide +kernel) ?_
    refine w_callV2 160 8 4 21 (by decide +kernel) sh_76 (Nat.le_of_ble_eq_true rfl) rfl rfl (by decide) (by omega) ?_
    refine s_lay hS.1 (by omega) (by omega) (by omega) (by omega) (fun Nr5 hTr5 hr5 => ?_)
    have kn6 := (hTr5.2 (76) 0 (by (try dsimp only); first | omega | (simp only [Hs, Tl, Sc, isHs, isScr, isTs] at *; omega))).trans kz0
    have hS := hS.tr hTr5 (by intro i k; first | exact rfl | exact fun h => h.elim | omega | (dsimp only; omega) | (simp only [Hs, Tl, Sc, isHs, isScr, isTs] at *; omega))
    have hl1 : HE n (lvC Nr5 1) c := lay_HE hn hr5 (by rw [hNM]; exact hc)
    dsimp only [Option.toList, List.nil_append]
    refine w_pushN 0 22 (by decide +kernel) ?_
    refine w_store (ls' := [.ref 76, .int (nI k3), .int (nI 0), .null]) (.istore_n 2) 23 (by decide +kernel) rfl rfl ?_
    have LP_23 : ∀ (kk : Nat) (N_23 : Mt) (L_23 : Lt) (g2 : Nat), St (fun i k => (i = 78 ∧ 22 ≤ k) ∨ i = 83 ∨ i = 84 ∨ (i = 76 ∧ (k = 7 ∨ k = 11))) M N_23 → g2 ≤ 40 → L_23 76 = itS g2 (L 76) → L_23 0 = L 0 → g2 ≤ k3 → HE n (lvC N_23 1) (nigC n T pw od (L 76) c g2) → 40 - g2 < kk → Wp d 196 23 [.ref 76, .int (nI k3), .int (nI g2), .null] [] N_23 L_23 Q := by
      intro kk
      induction kk with
      | zero => intro N_23 L_23 g2 hS hi0_23 hi1_23 hi2_23 hi3_23 hi4_23 hm_23; exact absurd hm_23 (Nat.not_lt_zero _)
      | succ kk ih_23 =>
        intro N_23 L_23 g2 hS hi0_23 hi1_23 hi2_23 hi3_23 hi4_23 hm_23
        refine w_load (.iload_n 2) 24 (by decide +kernel) rfl rfl ?_
        refine w_load (.iload_n 1) 25 (by decide +kernel) rfl rfl ?_
        refine w_cgeN 106 28 (by decide +kernel) (by omega) (by omega) (fun h7 => ?_) (fun h7 => ?_)
        · skip
          refine w_load (.aload_n 0) 107 (by decide +kernel) rfl rfl ?_
          refine w_getR (k := 2) (r := 78) 110 (by decide +kernel) sh_76 rfl ?_
          refine w_pushN 37 112 (by decide +kernel) ?_
          refine w_ialdN 113 (by decide +kernel) sh_78 (by omega) (by omega) ?_
          exact w_ret (by decide +kernel) (hq _ N_23 L_23 hS (Or.inr ⟨_, by omega, by omega, rfl, it_end hi1_23 (by omega), hi2_23, by have hgn : g2 = k3 := (by omega); rw [← hgn, rdC (M := N_23) (lv := 1) (i := 37) (j := 15) (by omega)]; exact hi4_23.2.1⟩))
        · skip
          refine w_load (.aload_n 0) 29 (by decide +kernel) rfl rfl ?_
          refine w_load (.aload_n 0) 30 (by decide +kernel) rfl rfl ?_
          refine w_getL (k := 18) 33 (by decide +kernel) sh_76 rfl ?_
          refine w_pushL (6364136223846793005) 36 (by decide +kernel) ?_
          refine w_pure .lmul 37 (by decide +kernel) rfl rfl ?_
          refine w_pushL (1442695040888963407) 40 (by decide +kernel) ?_
          refine w_pure .ladd 41 (by decide +kernel) rfl rfl ?_
          refine w_putLE (k := 18) 44 (by decide +kernel) sh_76 rfl only76 (fun Lq8 mq8 => ?_)
          have hl0 : Lq8 76 = itS (g2 + 1) (L 76) := by rw [mq8, upL_eq, hi1_23]; rfl
          have hl76 : Lq8 0 = L 0 := by rw [mq8, upL_ne (by decide)]; exact hi2_23
          refine w_load (.aload_n 0) 45 (by decide +kernel) rfl rfl ?_
          refine w_getL (k := 18) 48 (by decide +kernel) sh_76 rfl ?_
          refine w_pushN 33 50 (by decide +kernel) ?_
          refine w_pure .lushr 51 (by decide +kernel) rfl rfl ?_
          refine w_pushL (10) 54 (by decide +kernel) ?_
          refine w_lrem 55 (by decide +kernel) (by decide) ?_
          refine w_pure .l2i 56 (by decide +kernel) rfl rfl ?_
          refine w_topi (fun v9 ev9 => ?_)
          refine w_store (ls' := [.ref 76, .int (nI k3), .int (nI g2), .int v9]) (.istore_n 3) 57 (by decide +kernel) rfl rfl ?_
          have hv : v9 = drX (itS (g2 + 1) (L 76)) := by rw [ev9, hl0]; rfl
          refine w_load (.aload_n 0) 58 (by decide +kernel) rfl rfl ?_
          refine w_pushN 1 59 (by decide +kernel) ?_
          refine w_load (.iload_n 3) 60 (by decide +kernel) rfl rfl ?_
          refine w_load (.aload_n 0) 61 (by decide +kernel) rfl rfl ?_
          refine w_getR (k := 14) (r := 85) 64 (by decide +kernel) sh_76 rfl ?_
          refine w_pushN 0 65 (by decide +kernel) ?_
          refine w_ialdC (B := 10) 66 (by decide +kernel) sh_85 (by decide) (by omega) (inv_85 hS.1 _) (fun n10 hn10 en10 => ?_)
          refine w_cge 73 69 (by decide +kernel) (fun h11 => ?_) (fun h11 => ?_)
          · skip
            have hge := h11
            have hy0 := (by rw [← ho 0 (by omega), ← hS.2 85 0 (by (try dsimp only); first | omega | (simp only [Hs, Tl, Sc, isHs, isScr, isTs] at *; omega))]; exact (en10).symm : nI n10 = od 0)
            refine w_load (.iload_n 3) 74 (by decide +kernel) rfl rfl ?_
            refine w_load (.aload_n 0) 75 (by decide +kernel) rfl rfl ?_
            refine w_getR (k := 14) (r := 85) 78 (by decide +kernel) sh_76 rfl ?_
            refine w_pushN 0 79 (by decide +kernel) ?_
            refine w_ialdK 80 (by decide +kernel) sh_85 (by decide) (by omega) en10 ?_
            refine w_load (.aload_n 0) 81 (by decide +kernel) rfl rfl ?_
            refine w_getR (k := 14) (r := 85) 84 (by decide +kernel) sh_76 rfl ?_
            refine w_pushN 1 85 (by decide +kernel) ?_
            refine w_ialdC (B := 10) 86 (by decide +kernel) sh_85 (by decide) (by omega) (inv_85 hS.1 _) (fun n12 hn12 en12 => ?_)
            refine w_pure .iadd 87 (by decide +kernel) rfl rfl ?_
            refine w_cge 94 90 (by decide +kernel) (fun h13 => ?_) (fun h13 => ?_)
            · skip
              have hdr : drN od (itS (g2 + 1) (L 76)) = 2 := dr_2 hv hy0 hge (by rw [hy0, show nI n12 = od 1 by rw [← ho 1 (by omega), ← hS.2 85 1 (by (try dsimp only); first | omega | (simp only [Hs, Tl, Sc, isHs, isScr, isTs] at *; omega))]; exact (en12).symm]) h13
              refine w_pushN 2 95 (by decide +kernel) ?_
              refine w_pushN 0 96 (by decide +kernel) ?_
              refine w_callV3 159 8 7 99 (by decide +kernel) sh_76 (Nat.le_of_ble_eq_true rfl) rfl rfl rfl (by decide) (by omega) ?_
              refine s_tellOnT hS.1 (by omega) (by omega) ((hS.2 76 0 (by (try dsimp only); first | omega | (simp only [Hs, Tl, Sc, isHs, isScr, isTs] at *; omega))).trans en) (by omega) (hT.keep (hS.row (fun k => (by (try dsimp only); first | omega | (simp only [Hs, Tl, Sc, isHs, isScr, isTs] at *; omega)))) (hS.row (fun k => (by (try dsimp only); first | omega | (simp only [Hs, Tl, Sc, isHs, isScr, isTs] at *; omega))))) hi4_23 (by rw [hS.row (x := 77) (fun k => (by (try dsimp only); first | omega | (simp only [Hs, Tl, Sc, isHs, isScr, isTs] at *; omega)))]; exact hp) (nig_ok hn hok g2).1 (by omega) (fun r14 Nr14 hTr14 hr14 => ?_)
              have kn15 := (hTr14.2 (76) 0 (by (try dsimp only); first | omega | (simp only [Hs, Tl, Sc, isHs, isScr, isTs] at *; omega))).trans ((hS.2 76 0 (by (try dsimp only); first | omega | (simp only [Hs, Tl, Sc, isHs, isScr, isTs] at *; omega))).trans en)
              have hS := hS.tr hTr14 (by intro i k; first | exact rfl | exact fun h => h.elim | omega | (dsimp only; omega) | (simp only [Hs, Tl, Sc, isHs, isScr, isTs] at *; omega))
              obtain ⟨hSt, hrt⟩ := hr14
              have c8 : HE n (lvC Nr14 1) (nigC n T pw od (L 76) c (g2 + 1)) := nig_up hSt.1 hdr
              dsimp only [Option.toList, List.cons_append, List.nil_append]
              refine w_pure .pop 100 (by decide +kernel) rfl rfl ?_
              refine w_iincN (z := 2) (g2 + 1) 103 (by decide +kernel) rfl (Nat.le_of_ble_eq_true rfl) rfl rfl ?_
              show Wp _ _ _ [.ref 76, .int (nI k3), .int (nI (g2 + 1)), .int v9] _ _ _ _
              refine w_goto 23 (by decide +kernel) ?_
              refine Wp.forget (ls := [.ref 76, .int (nI k3), .int (nI (g2 + 1)), .null]) ⟨Or.inl rfl, Or.inl rfl, Or.inl rfl, Or.inr ⟨rfl, rfl⟩, trivial⟩ ?_
              exact ih_23 Nr14 Lq8 (g2 + 1) hS (by first | omega | assumption) (by first | omega | assumption) (by first | omega | assumption) (by first | omega | assumption) (by first | omega | assumption) (by omega)
            · skip
              have hdr : drN od (itS (g2 + 1) (L 76)) = 1 := dr_1 hv hy0 hge (by rw [hy0, show nI n12 = od 1 by rw [← ho 1 (by omega), ← hS.2 85 1 (by (try dsimp only); first | omega | (simp only [Hs, Tl, Sc, isHs, isScr, isTs] at *; omega))]; exact (en12).symm]) h13
              refine w_pushN 1 91 (by decide +kernel) ?_
              refine w_goto 95 (by decide +kernel) ?_
              refine w_pushN 0 96 (by decide +kernel) ?_
              refine w_callV3 159 8 7 99 (by decide +kernel) sh_76 (Nat.le_of_ble_eq_true rfl) rfl rfl rfl (by decide) (by omega) ?_
              refine s_tellOnT hS.1 (by omega) (by omega) ((hS.2 76 0 (by (try dsimp only); first | omega | (simp only [Hs, Tl, Sc, isHs, isScr, isTs] at *; omega))).trans en) (by omega) (hT.keep (hS.row (fun k => (by (try dsimp only); first | omega | (simp only [Hs, Tl, Sc, isHs, isScr, isTs] at *; omega)))) (hS.row (fun k => (by (try dsimp only); first | omega | (simp only [Hs, Tl, Sc, isHs, isScr, isTs] at *; omega))))) hi4_23 (by rw [hS.row (x := 77) (fun k => (by (try dsimp only); first | omega | (simp only [Hs, Tl, Sc, isHs, isScr, isTs] at *; omega)))]; exact hp) (nig_ok hn hok g2).1 (by omega) (fun r16 Nr16 hTr16 hr16 => ?_)
              have kn17 := (hTr16.2 (76) 0 (by (try dsimp only); first | omega | (simp only [Hs, Tl, Sc, isHs, isScr, isTs] at *; omega))).trans ((hS.2 76 0 (by (try dsimp only); first | omega | (simp only [Hs, Tl, Sc, isHs, isScr, isTs] at *; omega))).trans en)
              have hS := hS.tr hTr16 (by intro i k; first | exact rfl | exact fun h => h.elim | omega | (dsimp only; omega) | (simp only [Hs, Tl, Sc, isHs, isScr, isTs] at *; omega))
              obtain ⟨hSt, hrt⟩ := hr16
              have c8 : HE n (lvC Nr16 1) (nigC n T pw od (L 76) c (g2 + 1)) := nig_up hSt.1 hdr
              dsimp only [Option.toList, List.cons_append, List.nil_append]
              refine w_pure .pop 100 (by decide +kernel) rfl rfl ?_
              refine w_iincN (z := 2) (g2 + 1) 103 (by decide +kernel) rfl (Nat.le_of_ble_eq_true rfl) rfl rfl ?_
              show Wp _ _ _ [.ref 76, .int (nI k3), .int (nI (g2 + 1)), .int v9] _ _ _ _
              refine w_goto 23 (by decide +kernel) ?_
              refine Wp.forget (ls := [.ref 76, .int (nI k3), .int (nI (g2 + 1)), .null]) ⟨Or.inl rfl, Or.inl rfl, Or.inl rfl, Or.inr ⟨rfl, rfl⟩, trivial⟩ ?_
              exact ih_23 Nr16 Lq8 (g2 + 1) hS (by first | omega | assumption) (by first | omega | assumption) (by first | omega | assumption) (by first | omega | assumption) (by first | omega | assumption) (by omega)
          · skip
            have hdr : drN od (itS (g2 + 1) (L 76)) = 0 := dr_0 hv (by rw [← ho 0 (by omega), ← hS.2 85 0 (by (try dsimp only); first | omega | (simp only [Hs, Tl, Sc, isHs, isScr, isTs] at *; omega))]; exact (en10).symm) h11
            refine w_pushN 0 70 (by decide +kernel) ?_
            refine w_goto 95 (by decide +kernel) ?_
            refine w_pushN 0 96 (by decide +kernel) ?_
            refine w_callV3 159 8 7 99 (by decide +kernel) sh_76 (Nat.le_of_ble_eq_true rfl) rfl rfl rfl (by decide) (by omega) ?_
            refine s_tellOnT hS.1 (by omega) (by omega) ((hS.2 76 0 (by (try dsimp only); first | omega | (simp only [Hs, Tl, Sc, isHs, isScr, isTs] at *; omega))).trans en) (by omega) (hT.keep (hS.row (fun k => (by (try dsimp only); first | omega | (simp only [Hs, Tl, Sc, isHs, isScr, isTs] at *; omega)))) (hS.row (fun k => (by (try dsimp only); first | omega | (simp only [Hs, Tl, Sc, isHs, isScr, isTs] at *; omega))))) hi4_23 (by rw [hS.row (x := 77) (fun k => (by (try dsimp only); first | omega | (simp only [Hs, Tl, Sc, isHs, isScr, isTs] at *; omega)))]; exact hp) (nig_ok hn hok g2).1 (by omega) (fun r18 Nr18 hTr18 hr18 => ?_)
            have kn19 := (hTr18.2 (76) 0 (by (try dsimp only); first | omega | (simp only [Hs, Tl, Sc, isHs, isScr, isTs] at *; omega))).trans ((hS.2 76 0 (by (try dsimp only); first | omega | (simp only [Hs, Tl, Sc, isHs, isScr, isTs] at *; omega))).trans en)
            have hS := hS.tr hTr18 (by intro i k; first | exact rfl | exact fun h => h.elim | omega | (dsimp only; omega) | (simp only [Hs, Tl, Sc, isHs, isScr, isTs] at *; omega))
            obtain ⟨hSt, hrt⟩ := hr18
            have c8 : HE n (lvC Nr18 1) (nigC n T pw od (L 76) c (g2 + 1)) := nig_up hSt.1 hdr
            dsimp only [Option.toList, List.cons_append, List.nil_append]
            refine w_pure .pop 100 (by decide +kernel) rfl rfl ?_
            refine w_iincN (z := 2) (g2 + 1) 103 (by decide +kernel) rfl (Nat.le_of_ble_eq_true rfl) rfl rfl ?_
            show Wp _ _ _ [.ref 76, .int (nI k3), .int (nI (g2 + 1)), .int v9] _ _ _ _
            refine w_goto 23 (by decide +kernel) ?_
            refine Wp.forget (ls := [.ref 76, .int (nI k3), .int (nI (g2 + 1)), .null]) ⟨Or.inl rfl, Or.inl rfl, Or.inl rfl, Or.inr ⟨rfl, rfl⟩, trivial⟩ ?_
            exact ih_23 Nr18 Lq8 (g2 + 1) hS (by first | omega | assumption) (by first | omega | assumption) (by first | omega | assumption) (by first | omega | assumption) (by first | omega | assumption) (by omega)
    exact LP_23 _ Nr5 L 0 hS (by first | omega | rfl | assumption) (by first | omega | rfl | assumption) (by first | omega | rfl | assumption) (by first | omega | rfl | assumption) (by first | omega | rfl | assumption) (Nat.lt_succ_self _)
  · skip
    refine w_ine 15 12 (by decide +kernel) (fun hz => absurd hz (by decide)) (fun _ => ?_)
    refine w_push (-2) 14 (by decide +kernel) ?_
    exact w_ret (by decide +kernel) (hq _ N L hS (Or.inl ⟨rfl, in_no1 (by assumption) (by decide) (by decide), rfl⟩))
