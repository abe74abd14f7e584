-- X5_isSo#s
set_option maxRecDepth 10000 in
theorem s_isSo {d : Nat} {M : Mt} {L : Lt} {Q : Option Value → Mt → Lt → Prop} {h n k : Nat} {c : Row} {a : Int32} (hI : Inv M) (hh : Hs h) (hn : n ≤ 5) (en : M h 2 = nI n) (hc : HE n (M (h + 1)) c) (hk : k < n) (hd : 2 ≤ d) (hq : ∀ (r : Int32), ((r = 1 ∧ soP c k a) ∨ (r = 0 ∧ ¬ soP c k a)) → Q (some (.int r)) M L) : Wp d 64 0 [.ref h, .int (nI k), .int a] [] M L Q := by
  refine w_load (.iload_n 2) 1 (by decide +kernel) rfl rfl ?_
  refine w_pushN 1000 4 (by decide +kernel) ?_
  refine w_cne 21 7 (by decide +kernel) (fun h1 => ?_) (fun h1 => ?_)
  · skip
    refine w_load (.iload_n 2) 22 (by decide +kernel) rfl rfl ?_
    refine w_pushN 1001 25 (by decide +kernel) ?_
    refine w_cne 34 28 (by decide +kernel) (fun h2 => ?_) (fun h2 => ?_)
    · skip
      refine w_load (.aload_n 0) 35 (by decide +kernel) rfl rfl ?_
      refine w_load (.iload_n 1) 36 (by decide +kernel) rfl rfl ?_
      refine w_callV1 13 1 2 39 (by decide +kernel) hh.1.1 (Nat.le_of_ble_eq_true rfl) rfl (by decide) (by omega) ?_
      refine s_purseOf hI hh (by omega) en hc (by omega) (by omega) (fun r3 hr3 => ?_)
      dsimp only [Option.toList, List.cons_append, List.nil_append]
      rcases hr3 with rfl
      · skip
        refine w_load (.iload_n 2) 40 (by decide +kernel) rfl rfl ?_
        refine w_cne 47 43 (by decide +kernel) (fun h4 => ?_) (fun h4 => ?_)
        · skip
          refine w_pushN 0 48 (by decide +kernel) ?_
          exact w_retZ (by decide +kernel) (Or.inl rfl) (hq _ (Or.inr ⟨rfl, fun hz => by first | exact tb_no (by assumption) ((so_d (by assumption)).mp hz) | exact tb_no' (by assumption) ((so_l (by assumption)).mp hz) | exact absurd ((so_c (by assumption) (by assumption)).mp hz) (by assumption)⟩))
        · skip
          refine w_pushN 1 44 (by decide +kernel) ?_
          refine w_goto 48 (by decide +kernel) ?_
          exact w_retZ (by decide +kernel) (Or.inr rfl) (hq _ (Or.inl ⟨rfl, by first | exact (so_d (by assumption)).mpr (by assumption) | exact (so_l (by assumption)).mpr (by assumption) | exact (so_c (by assumption) (by assumption)).mpr (by assumption)⟩))
    · skip
      refine w_load (.aload_n 0) 29 (by decide +kernel) rfl rfl ?_
      refine w_load (.iload_n 1) 30 (by decide +kernel) rfl rfl ?_
      refine w_callV1 16 1 2 33 (by decide +kernel) hh.1.1 (Nat.le_of_ble_eq_true rfl) rfl (by decide) (by omega) ?_
      refine s_lives hI hh (by omega) en hc (by omega) (by omega) (fun r5 hr5 => ?_)
      dsimp only [Option.toList, List.cons_append, List.nil_append]
      rcases hr5 with ⟨rfl, htr5⟩ | ⟨rfl, htr5⟩
      · skip
        exact w_retZ (by decide +kernel) (Or.inr rfl) (hq _ (Or.inl ⟨rfl, by first | exact (so_d (by assumption)).mpr (by assumption) | exact (so_l (by assumption)).mpr (by assumption) | exact (so_c (by assumption) (by assumption)).mpr (by assumption)⟩))
      · skip
        exact w_retZ (by decide +kernel) (Or.inl rfl) (hq _ (Or.inr ⟨rfl, fun hz => by first | exact tb_no (by assumption) ((so_d (by assumption)).mp hz) | exact tb_no' (by assumption) ((so_l (by assumption)).mp hz) | exact absurd ((so_c (by assumption) (by assumption)).mp hz) (by assumption)⟩))
  · skip
    refine w_load (.aload_n 0) 8 (by decide +kernel) rfl rfl ?_
    refine w_load (.iload_n 1) 9 (by decide +kernel) rfl rfl ?_
    refine w_callV1 16 1 2 12 (by decide +kernel) hh.1.1 (Nat.le_of_ble_eq_true rfl) rfl (by decide) (by omega) ?_
    refine s_lives hI hh (by omega) en hc (by omega) (by omega) (fun r6 hr6 => ?_)
    dsimp only [Option.toList, List.cons_append, List.nil_append]
    rcases hr6 with ⟨rfl, htr6⟩ | ⟨rfl, htr6⟩
    · skip
      refine w_ine 19 15 (by decide +kernel) (fun _ => ?_) (fun hz => absurd hz (by decide))
      refine w_pushN 0 20 (by decide +kernel) ?_
      exact w_retZ (by decide +kernel) (Or.inl rfl) (hq _ (Or.inr ⟨rfl, fun hz => by first | exact tb_no (by assumption) ((so_d (by assumption)).mp hz) | exact tb_no' (by assumption) ((so_l (by assumption)).mp hz) | exact absurd ((so_c (by assumption) (by assumption)).mp hz) (by assumption)⟩))
    · skip
      refine w_ine 19 15 (by decide +kernel) (fun hz => absurd hz (by decide)) (fun _ => ?_)
      refine w_pushN 1 16 (by decide +kernel) ?_
      refine w_goto 20 (by decide +kernel) ?_
      exact w_retZ (by decide +kernel) (Or.inr rfl) (hq _ (Or.inl ⟨rfl, by first | exact (so_d (by assumption)).mpr (by assumption) | exact (so_l (by assumption)).mpr (by assumption) | exact (so_c (by assumption) (by assumption)).mpr (by assumption)⟩))
-- X5_fit#s
set_option maxRecDepth 10000 in
theorem s_fit {d : Nat} {M : Mt} {L : Lt} {Q : Option Value → Mt → Lt → Prop} {h n m : Nat} {c : Row} (hI : Inv M) (hh : Hs h) (hn : n ≤ 5) (en : M h 2 = nI n) (hc : HE n (M (h + 1)) c) (hm : m ≤ 6) (em : M 64 2 = nI m) (hd : 3 ≤ d) (hq : ∀ (r : Int32), ((r = 1 ∧ fitP n c m (M 65) (M 66)) ∨ (r = 0 ∧ ¬ fitP n c m (M 65) (M 66))) → Q (some (.int r)) M L) : Wp d 63 0 [.ref 64, .ref h, .null] [] M L Q := by
  refine w_pushN 0 1 (by decide +kernel) ?_
  refine w_store (ls' := [.ref 64, .ref h, .int (nI 0)]) (.istore_n 2) 2 (by decide +kernel) rfl rfl ?_
  have LP_2 : ∀ (kk : Nat) (g2 : Nat), g2 ≤ 6 → (∀ i, i < g2 → seP n c (M 65 i) (M 66 i)) → 6 - g2 < kk → Wp d 63 2 [.ref 64, .ref h, .int (nI g2)] [] M L Q := by
    intro kk
    induction kk with
    | zero => intro g2 hi0_2 hi1_2 hm_2; exact absurd hm_2 (Nat.not_lt_zero _)
    | succ kk ih_2 =>
      intro g2 hi0_2 hi1_2 hm_2
      refine w_load (.iload_n 2) 3 (by decide +kernel) rfl rfl ?_
      refine w_load (.aload_n 0) 4 (by decide +kernel) rfl rfl ?_
      refine w_getK (k := 2) 7 (by decide +kernel) sh_64 rfl em ?_
      refine w_cgeN 50 10 (by decide +kernel) (by omega) (by omega) (fun h1 => ?_) (fun h1 => ?_)
      · skip
        refine w_pushN 1 51 (by decide +kernel) ?_
        exact w_retZ (by decide +kernel) (Or.inr rfl) (hq _ (Or.inl ⟨rfl, fun i hi => hi1_2 i (by omega)⟩))
      · skip
        refine w_load (.aload_n 1) 11 (by decide +kernel) rfl rfl ?_
        refine w_load (.aload_n 0) 12 (by decide +kernel) rfl rfl ?_
        refine w_getR (k := 0) (r := 65) 15 (by decide +kernel) sh_64 rfl ?_
        refine w_load (.iload_n 2) 16 (by decide +kernel) rfl rfl ?_
        refine w_ialdN 17 (by decide +kernel) sh_65 (by omega) (by omega) ?_
        refine w_callV1 11 1 2 20 (by decide +kernel) hh.1.1 (Nat.le_of_ble_eq_true rfl) rfl (by decide) (by omega) ?_
        refine k_11 hI hh (by omega) en (by omega) (fun r2 hr2 => ?_)
        dsimp only [Option.toList, List.cons_append, List.nil_append]
        rcases hr2 with ⟨rfl, kr2, hkr2, ekr2⟩ | ⟨rfl, hnor2⟩
        · skip
          refine w_ieq 44 23 (by decide +kernel) (fun hz => absurd hz (by decide)) (fun _ => ?_)
          refine w_load (.aload_n 1) 24 (by decide +kernel) rfl rfl ?_
          refine w_load (.aload_n 0) 25 (by decide +kernel) rfl rfl ?_
          refine w_getR (k := 0) (r := 65) 28 (by decide +kernel) sh_64 rfl ?_
          refine w_load (.iload_n 2) 29 (by decide +kernel) rfl rfl ?_
          refine w_ialdK 30 (by decide +kernel) sh_65 (by decide) (by omega) ekr2 ?_
          refine w_load (.aload_n 0) 31 (by decide +kernel) rfl rfl ?_
          refine w_getR (k := 1) (r := 66) 34 (by decide +kernel) sh_64 rfl ?_
          refine w_load (.iload_n 2) 35 (by decide +kernel) rfl rfl ?_
          refine w_ialdN 36 (by decide +kernel) sh_66 (by omega) (by omega) ?_
          refine w_callS3 64 3 39 (by decide +kernel) (Nat.le_of_ble_eq_true rfl) rfl rfl rfl (by decide) (by omega) ?_
          refine s_isSo hI hh (by omega) en hc (by omega) (by omega) (fun r4 hr4 => ?_)
          dsimp only [Option.toList, List.cons_append, List.nil_append]
          rcases hr4 with ⟨rfl, hsor4⟩ | ⟨rfl, hsor4⟩
          · skip
            refine w_ine 44 42 (by decide +kernel) (fun _ => ?_) (fun hz => absurd hz (by decide))
            refine w_iincN (z := 2) (g2 + 1) 47 (by decide +kernel) rfl (Nat.le_of_ble_eq_true rfl) rfl rfl ?_
            show Wp _ _ _ [.ref 64, .ref h, .int (nI (g2 + 1))] _ _ _ _
            refine w_goto 2 (by decide +kernel) ?_
            exact ih_2 (g2 + 1) (by first | omega | exact lt_ext hi1_2 (se_no (by assumption)) | exact lt_ext hi1_2 (se_yes (by assumption) hn (by assumption) (by assumption))) (by first | omega | exact lt_ext hi1_2 (se_no (by assumption)) | exact lt_ext hi1_2 (se_yes (by assumption) hn (by assumption) (by assumption))) (by omega)
          · skip
            refine w_ine 44 42 (by decide +kernel) (fun hz => absurd hz (by decide)) (fun _ => ?_)
            refine w_pushN 0 43 (by decide +kernel) ?_
            exact w_retZ (by decide +kernel) (Or.inl rfl) (hq _ (Or.inr ⟨rfl, fun hz => se_not (by assumption) (by assumption) (by assumption) (hz g2 (by omega))⟩))
        · skip
          refine w_ieq 44 23 (by decide +kernel) (fun _ => ?_) (fun hz => absurd hz (by decide))
          refine w_iincN (z := 2) (g2 + 1) 47 (by decide +kernel) rfl (Nat.le_of_ble_eq_true rfl) rfl rfl ?_
          show Wp _ _ _ [.ref 64, .ref h, .int (nI (g2 + 1))] _ _ _ _
          refine w_goto 2 (by decide +kernel) ?_
          exact ih_2 (g2 + 1) (by first | omega | exact lt_ext hi1_2 (se_no (by assumption)) | exact lt_ext hi1_2 (se_yes (by assumption) hn (by assumption) (by assumption))) (by first | omega | exact lt_ext hi1_2 (se_no (by assumption)) | exact lt_ext hi1_2 (se_yes (by assumption) hn (by assumption) (by assumption))) (by omega)
  exact LP_2 _ 0 (by first | omega | (intro i hi; omega)) (by first | omega | (intro i hi; omega)) (Nat.lt_succ_self _)
-- X7_talesThatFit#s
set_option maxRecDepth 10000 in
theorem s_tales7 {d : Nat} {M : Mt} {L : Lt} {Q : Option Value → Mt → Lt → Prop} {n : Nat} {c pw : Row} {T : TLs} {m : Nat}  (hI : Inv M) (hn : n ≤ 5) (en : M 4 2 = nI n) (hc : HE n (M 5) c) (hp : LQ n (M 6) pw) (hw : wedOk n c) (hT : tlX T M) (hm : m ≤ 6) (em : M 64 2 = nI m) (hd : 6 ≤ d) (hq : ∀ (r : Int32) (N : Mt), St (fun i _ => (7 ≤ i ∧ i ≤ 57) ∨ i = 63 ∨ i = 68 ∨ i = 69) M N → (r = setI 3 (fitB n T pw c m (M 65) (M 66))) → Q (some (.int r)) N L) : Wp d 130 0 [.ref 0, .null, .null] [] M L Q := by
  refine (show ∀ N : Mt, N = M → St (fun i _ => (7 ≤ i ∧ i ≤ 57) ∨ i = 63 ∨ i = 68 ∨ i = 69) M N → Wp d 130 0 [.ref 0, .null, .null] [] N L Q from ?_) M rfl (St.rf hI)
  intro N hNM hS
  have kz0 : N (4) 2 = nI n := by rw [hNM]; exact en
  have kz1 : N (64) 2 = nI m := by rw [hNM]; exact em
  refine w_pushN 0 1 (by decide +kernel) ?_
  refine w_store (ls' := [.ref 0, .int (nI 0), .null]) (.istore_n 1) 2 (by decide +kernel) rfl rfl ?_
  refine w_pushN 0 3 (by decide +kernel) ?_
  refine w_store (ls' := [.ref 0, .int (nI 0), .int (nI 0)]) (.istore_n 2) 4 (by decide +kernel) rfl rfl ?_
  have LP_4 : ∀ (kk : Nat) (N_4 : Mt) (x1_4 : Int32) (g2 : Nat), St (fun i _ => (7 ≤ i ∧ i ≤ 57) ∨ i = 63 ∨ i = 68 ∨ i = 69) M N_4 → g2 ≤ 3 → x1_4 = setI g2 (fitB n T pw c m (M 65) (M 66)) → 3 - g2 < kk → Wp d 130 4 [.ref 0, .int x1_4, .int (nI g2)] [] N_4 L Q := by
    intro kk
    induction kk with
    | zero => intro N_4 x1_4 g2 hS hi0_4 hi1_4 hm_4; exact absurd hm_4 (Nat.not_lt_zero _)
    | succ kk ih_4 =>
      intro N_4 x1_4 g2 hS hi0_4 hi1_4 hm_4
      refine w_load (.iload_n 2) 5 (by decide +kernel) rfl rfl ?_
      refine w_pushN 3 6 (by decide +kernel) ?_
      refine w_cgeN 59 9 (by decide +kernel) (by omega) (by omega) (fun h1 => ?_) (fun h1 => ?_)
      · skip
        refine w_load (.iload_n 1) 60 (by decide +kernel) rfl rfl ?_
        exact w_ret (by decide +kernel) (hq _ N_4 hS (by have hgn : g2 = 3 := (by omega); rw [hgn] at hi1_4; exact hi1_4))
      · skip
        refine w_load (.aload_n 0) 10 (by decide +kernel) rfl rfl ?_
        refine w_getR (k := 4) (r := 10) 13 (by decide +kernel) sh_0 rfl ?_
        refine w_load (.aload_n 0) 14 (by decide +kernel) rfl rfl ?_
        refine w_getR (k := 2) (r := 4) 17 (by decide +kernel) sh_0 rfl ?_
        refine w_load (.aload_n 0) 18 (by decide +kernel) rfl rfl ?_
        refine w_getR (k := 1) (r := 3) 21 (by decide +kernel) sh_0 rfl ?_
        refine w_load (.iload_n 2) 22 (by decide +kernel) rfl rfl ?_
        refine w_tale 23 (by decide +kernel) (by omega) ?_
        refine w_callV2 68 6 5 26 (by decide +kernel) sh_10 (Nat.le_of_ble_eq_true rfl) rfl rfl (by decide) (by omega) ?_
        refine s_hearAllT hS.1 tl_10 hs_4 (by omega) (by omega) ((hS.2 4 2 (by (try dsimp only); first | omega | (simp only [Hs, Tl, Sc, isHs, isScr, isTs] at *; omega))).trans en) (by rw [hS.row (x := 5) (fun k => (by (try dsimp only); first | omega | (simp only [Hs, Tl, Sc, isHs, isScr, isTs] at *; omega)))]; exact hc) (by rw [hS.row (x := 6) (fun k => (by (try dsimp only); first | omega | (simp only [Hs, Tl, Sc, isHs, isScr, isTs] at *; omega)))]; exact hp) hw (hT.keep (fun i k h1 h2 => hS.2 i k (by (try dsimp only); first | omega | (simp only [Hs, Tl, Sc, isHs, isScr, isTs] at *; omega)))) (by omega) (fun Nr2 hTr2 hr2 => ?_)
        have kn3 := (hTr2.2 (4) 2 (by (try dsimp only); first | omega | (simp only [Hs, Tl, Sc, isHs, isScr, isTs] at *; omega))).trans ((hS.2 4 2 (by (try dsimp only); first | omega | (simp only [Hs, Tl, Sc, isHs, isScr, isTs] at *; omega))).trans en)
        have kn4 := (hTr2.2 (64) 2 (by (try dsimp only); first | omega | (simp only [Hs, Tl, Sc, isHs, isScr, isTs] at *; omega))).trans ((hS.2 64 2 (by (try dsimp only); first | omega | (simp only [Hs, Tl, Sc, isHs, isScr, isTs] at *; omega))).trans em)
        have hS := hS.tr hTr2 (by intro i k; first | exact rfl | exact fun h => h.elim | omega | (dsimp only; omega) | (simp only [Hs, Tl, Sc, isHs, isScr, isTs] at *; omega))
        obtain ⟨hSt, hGt, hPt⟩ := hr2
        dsimp only [Option.toList, List.nil_append]
        refine w_load (.iload_n 1) 27 (by decide +kernel) rfl rfl ?_
        refine w_load (.aload_n 0) 28 (by decide +kernel) rfl rfl ?_
        refine w_getR (k := 10) (r := 64) 31 (by decide +kernel) sh_0 rfl ?_
        refine w_load (.aload_n 0) 32 (by decide +kernel) rfl rfl ?_
        refine w_getR (k := 4) (r := 10) 35 (by decide +kernel) sh_0 rfl ?_
        refine w_getR (k := 0) (r := 11) 38 (by decide +kernel) sh_10 rfl ?_
        refine w_callV1 63 5 3 41 (by decide +kernel) sh_64 (Nat.le_of_ble_eq_true rfl) rfl (by decide) (by omega) ?_
        refine s_fit hS.1 hs_11 (by omega) hGt hSt.1 (by omega) kn4 (by omega) (fun r5 hr5 => ?_)
        rw [hS.row (x := 65) (fun k => (by (try dsimp only); first | omega | (simp only [Hs, Tl, Sc, isHs, isScr, isTs] at *; omega))), hS.row (x := 66) (fun k => (by (try dsimp only); first | omega | (simp only [Hs, Tl, Sc, isHs, isScr, isTs] at *; omega)))] at hr5
        dsimp only [Option.toList, List.cons_append, List.nil_append]
        rcases hr5 with ⟨rfl, hfir5⟩ | ⟨rfl, hfir5⟩
        · skip
          refine w_ieq 50 44 (by decide +kernel) (fun hz => absurd hz (by decide)) (fun _ => ?_)
          refine w_pushN 1 45 (by decide +kernel) ?_
          refine w_load (.iload_n 2) 46 (by decide +kernel) rfl rfl ?_
          refine w_pure .ishl 47 (by decide +kernel) rfl rfl ?_
          refine w_goto 51 (by decide +kernel) ?_
          refine w_pure .ior 52 (by decide +kernel) rfl rfl ?_
          refine w_topi (fun v7 ev7 => ?_)
          refine w_store (ls' := [.ref 0, .int v7, .int (nI g2)]) (.istore_n 1) 53 (by decide +kernel) rfl rfl ?_
          have ebit := ev7
          refine w_iincN (z := 2) (g2 + 1) 56 (by decide +kernel) rfl (Nat.le_of_ble_eq_true rfl) rfl rfl ?_
          show Wp _ _ _ [.ref 0, .int v7, .int (nI (g2 + 1))] _ _ _ _
          refine w_goto 4 (by decide +kernel) ?_
          exact ih_4 Nr2 _ (g2 + 1) hS (by first | omega | (rw [ebit]; first | exact setI_t hi1_4 (fitB_t (by assumption)) | exact setI_f hi1_4 (fitB_f (by assumption)))) (by first | omega | (rw [ebit]; first | exact setI_t hi1_4 (fitB_t (by assumption)) | exact setI_f hi1_4 (fitB_f (by assumption)))) (by omega)
        · skip
          refine w_ieq 50 44 (by decide +kernel) (fun _ => ?_) (fun hz => absurd hz (by decide))
          refine w_pushN 0 51 (by decide +kernel) ?_
          refine w_pure .ior 52 (by decide +kernel) rfl rfl ?_
          refine w_topi (fun v9 ev9 => ?_)
          refine w_store (ls' := [.ref 0, .int v9, .int (nI g2)]) (.istore_n 1) 53 (by decide +kernel) rfl rfl ?_
          have ebit := ev9
          refine w_iincN (z := 2) (g2 + 1) 56 (by decide +kernel) rfl (Nat.le_of_ble_eq_true rfl) rfl rfl ?_
          show Wp _ _ _ [.ref 0, .int v9, .int (nI (g2 + 1))] _ _ _ _
          refine w_goto 4 (by decide +kernel) ?_
          exact ih_4 Nr2 _ (g2 + 1) hS (by first | omega | (rw [ebit]; first | exact setI_t hi1_4 (fitB_t (by assumption)) | exact setI_f hi1_4 (fitB_f (by assumption)))) (by first | omega | (rw [ebit]; first | exact setI_t hi1_4 (fitB_t (by assumption)) | exact setI_f hi1_4 (fitB_f (by assumption)))) (by omega)
  exact LP_4 _ N _ 0 hS (by first | omega | rfl) (by first | omega | rfl) (Nat.lt_succ_self _)
-- X7_inLeastTerms#s
set_option maxRecDepth 10000 in
theorem s_inLeast {d : Nat} {M : Mt} {L : Lt} {Q : Option Value → Mt → Lt → Prop} {a b q : Nat} (hI : Inv M) (ha : a ≤ 30) (hb : b ≤ 30) (hq2 : 0 < q) (hq3 : q ≤ 30) (hd : 0 ≤ d) (hq : ∀ (r : Int32), (r = nI (a / Nat.gcd b q)) → Q (some (.int r)) M L) : Wp d 120 0 [.int (nI a), .int (nI b), .int (nI q), .null] [] M L Q := by
  refine w_load (.iload_n 2) 1 (by decide +kernel) rfl rfl ?_
  refine w_store (ls' := [.int (nI a), .int (nI b), .int (nI q), .int (nI q)]) (.istore_n 3) 2 (by decide +kernel) rfl rfl ?_
  have LP_2 : ∀ (kk : Nat) (g3 : Nat), g3 ≤ q → (∀ d, g3 < d → d ≤ q → ¬ (b % d = 0 ∧ q % d = 0)) → g3 < kk → Wp d 120 2 [.int (nI a), .int (nI b), .int (nI q), .int (nI g3)] [] M L Q := by
    intro kk
    induction kk with
    | zero => intro g3 hi0_2 hi1_2 hm_2; exact absurd hm_2 (Nat.not_lt_zero _)
    | succ kk ih_2 =>
      intro g3 hi0_2 hi1_2 hm_2
      have hml1 := Nat.mod_le b g3
      have hml2 := Nat.mod_le q g3
      refine w_load (.iload_n 3) 3 (by decide +kernel) rfl rfl ?_
      refine w_pushN 1 4 (by decide +kernel) ?_
      refine w_cleN 29 7 (by decide +kernel) (by omega) (by omega) (fun h1 => ?_) (fun h1 => ?_)
      · skip
        refine w_load (.iload_n 0) 30 (by decide +kernel) rfl rfl ?_
        exact w_ret (by decide +kernel) (hq _ (by first | rw [gc_1 hq2 hi1_2 (by omega), Nat.div_one] | rw [gc_g hq2 hi1_2 (by assumption) (by assumption)]))
      · skip
        refine w_load (.iload_n 1) 8 (by decide +kernel) rfl rfl ?_
        refine w_load (.iload_n 3) 9 (by decide +kernel) rfl rfl ?_
        refine w_remN (b % g3) 10 (by decide +kernel) (by omega) (by omega) (by omega) rfl ?_
        refine w_ineN 23 13 (by decide +kernel) (by omega) (fun h2 => ?_) (fun h2 => ?_)
        · skip
          refine w_idecN (z := 3) ((g3 - 1)) 26 (by decide +kernel) rfl (Nat.le_of_ble_eq_true rfl) rfl (by omega) rfl ?_
          show Wp _ _ _ [.int (nI a), .int (nI b), .int (nI q), .int (nI ((g3 - 1)))] _ _ _ _
          refine w_goto 2 (by decide +kernel) ?_
          exact ih_2 ((g3 - 1)) (by first | omega | exact gc_dn hi1_2 (fun hz => by omega)) (by first | omega | exact gc_dn hi1_2 (fun hz => by omega)) (by omega)
        · skip
          refine w_load (.iload_n 2) 14 (by decide +kernel) rfl rfl ?_
          refine w_load (.iload_n 3) 15 (by decide +kernel) rfl rfl ?_
          refine w_remN (q % g3) 16 (by decide +kernel) (by omega) (by omega) (by omega) rfl ?_
          refine w_ineN 23 19 (by decide +kernel) (by omega) (fun h3 => ?_) (fun h3 => ?_)
          · skip
            refine w_idecN (z := 3) ((g3 - 1)) 26 (by decide +kernel) rfl (Nat.le_of_ble_eq_true rfl) rfl (by omega) rfl ?_
            show Wp _ _ _ [.int (nI a), .int (nI b), .int (nI q), .int (nI ((g3 - 1)))] _ _ _ _
            refine w_goto 2 (by decide +kernel) ?_
            exact ih_2 ((g3 - 1)) (by first | omega | exact gc_dn hi1_2 (fun hz => by omega)) (by first | omega | exact gc_dn hi1_2 (fun hz => by omega)) (by omega)
          · skip
            refine w_load (.iload_n 0) 20 (by decide +kernel) rfl rfl ?_
            refine w_load (.iload_n 3) 21 (by decide +kernel) rfl rfl ?_
            refine w_divN (a / g3) 22 (by decide +kernel) (by omega) (by omega) (by omega) rfl ?_
            exact w_ret (by decide +kernel) (hq _ (by first | rw [gc_1 hq2 hi1_2 (by omega), Nat.div_one] | rw [gc_g hq2 hi1_2 (by assumption) (by assumption)]))
  exact LP_2 _ q (by first | omega | (intro d h1 h2; omega)) (by first | omega | (intro d h1 h2; omega)) (Nat.lt_succ_self _)
-- X7_likely#s
set_option maxRecDepth 10000 in
theorem s_likely7 {d : Nat} {M : Mt} {L : Lt} {Q : Option Value → Mt → Lt → Prop} {n : Nat} {c pw : Row} {T : TLs} {m : Nat} {on : Nat → Nat} {a : Int32} {b : Int32} (hI : Inv M) (hn : n ≤ 5) (en : M 4 2 = nI n) (hc : HE n (M 5) c) (hp : LQ n (M 6) pw) (hw : wedOk n c) (hT : tlX T M) (hm : m ≤ 6) (em : M 64 2 = nI m) (ho : ∀ t, t < 3 → M 67 t = nI (on t)) (hon : ∀ t, on t ≤ 10) (hd : 7 ≤ d) (hq : ∀ (r : Int32) (N : Mt), St (fun i _ => (7 ≤ i ∧ i ≤ 57) ∨ i = 63 ∨ i = 68 ∨ i = 69) M N → ((r = -1 ∧ ¬ (∃ k, k < 3 ∧ a = nI k)) ∨ (∃ t, t < 3 ∧ a = nI t ∧ lkR on (fitB n T pw c m (M 65) (M 66)) t b r)) → Q (some (.int r)) N L) : Wp d 104 0 [.ref 0, .int a, .int b, .null, .null, .null] [] M L Q := by
  refine (show ∀ N : Mt, N = M → St (fun i _ => (7 ≤ i ∧ i ≤ 57) ∨ i = 63 ∨ i = 68 ∨ i = 69) M N → Wp d 104 0 [.ref 0, .int a, .int b, .null, .null, .null] [] N L Q from ?_) M rfl (St.rf hI)
  intro N hNM hS
  have kz0 : N (4) 2 = nI n := by rw [hNM]; exact en
  have kz1 : N (64) 2 = nI m := by rw [hNM]; exact em
  refine w_load (.iload_n 1) 1 (by decide +kernel) rfl rfl ?_
  refine w_callS1 111 1 4 (by decide +kernel) (Nat.le_of_ble_eq_true rfl) rfl (by decide) (by omega) ?_
  refine k_111 hS.1  (by omega) (fun r1 hr1 => ?_)
  dsimp only [Option.toList, List.cons_append, List.nil_append]
  rcases hr1 with ⟨rfl, k2, hk2, rfl⟩ | ⟨rfl, hnok2⟩
  · skip
    refine w_ine 9 7 (by decide +kernel) (fun _ => ?_) (fun hz => absurd hz (by decide))
    refine w_load (.aload_n 0) 10 (by decide +kernel) rfl rfl ?_
    refine w_callV0 130 7 3 13 (by decide +kernel) sh_0 (Nat.le_of_ble_eq_true rfl)  (by decide) (by omega) ?_
    refine s_tales7 hS.1 (by omega) kz0 (by rw [hS.row (x := 5) (fun k => (by (try dsimp only); first | omega | (simp only [Hs, Tl, Sc, isHs, isScr, isTs] at *; omega)))]; exact hc) (by rw [hS.row (x := 6) (fun k => (by (try dsimp only); first | omega | (simp only [Hs, Tl, Sc, isHs, isScr, isTs] at *; omega)))]; exact hp) hw (hT.keep (fun i k h1 h2 => hS.2 i k (by (try dsimp only); first | omega | (simp only [Hs, Tl, Sc, isHs, isScr, isTs] at *; omega)))) (by omega) kz1 (by omega) (fun r4 Nr4 hTr4 hr4 => ?_)
    have kn5 := (hTr4.2 (4) 2 (by (try dsimp only); first | omega | (simp only [Hs, Tl, Sc, isHs, isScr, isTs] at *; omega))).trans kz0
    have kn6 := (hTr4.2 (64) 2 (by (try dsimp only); first | omega | (simp only [Hs, Tl, Sc, isHs, isScr, isTs] at *; omega))).trans kz1
    have hS := hS.tr hTr4 (by intro i k; first | exact rfl | exact fun h => h.elim | omega | (dsimp only; omega) | (simp only [Hs, Tl, Sc, isHs, isScr, isTs] at *; omega))
    have esx : r4 = setI 3 (fitB n T pw c m (M 65) (M 66)) := by rw [← hNM]; exact hr4
    dsimp only [Option.toList, List.cons_append, List.nil_append]
    refine w_store (ls' := [.ref 0, .int (nI k2), .int b, .int r4, .null, .null]) (.istore_n 3) 14 (by decide +kernel) rfl rfl ?_
    refine w_pushN 0 15 (by decide +kernel) ?_
    refine w_store (ls' := [.ref 0, .int (nI k2), .int b, .int r4, .int (nI 0), .null]) (.istore 4) 17 (by decide +kernel) rfl rfl ?_
    refine w_pushN 0 18 (by decide +kernel) ?_
    refine w_store (ls' := [.ref 0, .int (nI k2), .int b, .int r4, .int (nI 0), .int (nI 0)]) (.istore 5) 20 (by decide +kernel) rfl rfl ?_
    have LP_20 : ∀ (kk : Nat) (N_20 : Mt) (g4 : Nat) (g5 : Nat), St (fun i _ => (7 ≤ i ∧ i ≤ 57) ∨ i = 63 ∨ i = 68 ∨ i = 69) M N_20 → g5 ≤ 3 → g4 = sumN g5 (odF on (fitB n T pw c m (M 65) (M 66))) → g4 ≤ 10 * g5 → 3 - g5 < kk → Wp d 104 20 [.ref 0, .int (nI k2), .int b, .int r4, .int (nI g4), .int (nI g5)] [] N_20 L Q := by
      intro kk
      induction kk with
      | zero => intro N_20 g4 g5 hS hi0_20 hi1_20 hi2_20 hm_20; exact absurd hm_20 (Nat.not_lt_zero _)
      | succ kk ih_20 =>
        intro N_20 g4 g5 hS hi0_20 hi1_20 hi2_20 hm_20
        have hob := hon g5
        refine w_load (.iload 5) 22 (by decide +kernel) rfl rfl ?_
        refine w_pushN 3 23 (by decide +kernel) ?_
        refine w_cgeN 57 26 (by decide +kernel) (by omega) (by omega) (fun h7 => ?_) (fun h7 => ?_)
        · skip
          have hob1 := hon k2
          have hgn : g5 = 3 := (by omega)
          rw [hgn] at hi1_20 hi2_20
          refine w_load (.iload 4) 59 (by decide +kernel) rfl rfl ?_
          refine w_igtN 65 62 (by decide +kernel) (by omega) (fun h8 => ?_) (fun h8 => ?_)
          · skip
            refine w_load (.iload_n 3) 66 (by decide +kernel) rfl rfl ?_
            refine w_load (.iload_n 1) 67 (by decide +kernel) rfl rfl ?_
            refine w_callS2 115 2 70 (by decide +kernel) (Nat.le_of_ble_eq_true rfl) rfl rfl (by decide) (by omega) ?_
            refine s_holds hS.1 (by omega) (by omega) (fun r9 hr9 => ?_)
            dsimp only [Option.toList, List.cons_append, List.nil_append]
            rcases hr9 with ⟨rfl, htr9⟩ | ⟨rfl, htr9⟩
            · skip
              refine w_ieq 82 73 (by decide +kernel) (fun hz => absurd hz (by decide)) (fun _ => ?_)
              refine w_load (.aload_n 0) 74 (by decide +kernel) rfl rfl ?_
              refine w_getR (k := 11) (r := 67) 77 (by decide +kernel) sh_0 rfl ?_
              refine w_load (.iload_n 1) 78 (by decide +kernel) rfl rfl ?_
              refine w_ialdK 79 (by decide +kernel) sh_67 (by decide) (by omega) ((hS.2 67 k2 (by (try dsimp only); first | omega | (simp only [Hs, Tl, Sc, isHs, isScr, isTs] at *; omega))).trans (ho k2 (by omega))) ?_
              refine w_goto 83 (by decide +kernel) ?_
              refine w_store (ls' := [.ref 0, .int (nI k2), .int b, .int r4, .int (nI g4), .int (nI (on k2))]) (.istore 5) 85 (by decide +kernel) rfl rfl ?_
              have eo : odF on (fitB n T pw c m (M 65) (M 66)) k2 = on k2 := by first | exact od_t (tb_3 (by omega) (by rw [← esx]; assumption)) | exact od_f (tb_3 (by omega) (by rw [← esx]; assumption))
              refine w_load (.iload_n 2) 86 (by decide +kernel) rfl rfl ?_
              refine w_ieq 94 89 (by decide +kernel) (fun h11 => ?_) (fun h11 => ?_)
              · skip
                refine w_load (.iload 4) 96 (by decide +kernel) rfl rfl ?_
                refine w_load (.iload 5) 98 (by decide +kernel) rfl rfl ?_
                refine w_load (.iload 4) 100 (by decide +kernel) rfl rfl ?_
                refine w_callS3 120 4 103 (by decide +kernel) (Nat.le_of_ble_eq_true rfl) rfl rfl rfl (by decide) (by omega) ?_
                refine s_inLeast hS.1 (by omega) (by omega) (by omega) (by omega) (by omega) (fun r12 hr12 => ?_)
                dsimp only [Option.toList, List.cons_append, List.nil_append]
                exact w_ret (by decide +kernel) (hq _ N_20 hS (Or.inr ⟨_, by assumption, rfl, Or.inr ⟨by omega, by rw [hr12, ← hi1_20, eo]; first | rw [if_pos (by assumption)] | rw [if_neg (by assumption)]⟩⟩))
              · skip
                refine w_load (.iload 5) 91 (by decide +kernel) rfl rfl ?_
                refine w_goto 96 (by decide +kernel) ?_
                refine w_load (.iload 5) 98 (by decide +kernel) rfl rfl ?_
                refine w_load (.iload 4) 100 (by decide +kernel) rfl rfl ?_
                refine w_callS3 120 4 103 (by decide +kernel) (Nat.le_of_ble_eq_true rfl) rfl rfl rfl (by decide) (by omega) ?_
                refine s_inLeast hS.1 (by omega) (by omega) (by omega) (by omega) (by omega) (fun r13 hr13 => ?_)
                dsimp only [Option.toList, List.cons_append, List.nil_append]
                exact w_ret (by decide +kernel) (hq _ N_20 hS (Or.inr ⟨_, by assumption, rfl, Or.inr ⟨by omega, by rw [hr13, ← hi1_20, eo]; first | rw [if_pos (by assumption)] | rw [if_neg (by assumption)]⟩⟩))
            · skip
              refine w_ieq 82 73 (by decide +kernel) (fun _ => ?_) (fun hz => absurd hz (by decide))
              refine w_pushN 0 83 (by decide +kernel) ?_
              refine w_store (ls' := [.ref 0, .int (nI k2), .int b, .int r4, .int (nI g4), .int (nI 0)]) (.istore 5) 85 (by decide +kernel) rfl rfl ?_
              have eo : odF on (fitB n T pw c m (M 65) (M 66)) k2 = 0 := by first | exact od_t (tb_3 (by omega) (by rw [← esx]; assumption)) | exact od_f (tb_3 (by omega) (by rw [← esx]; assumption))
              refine w_load (.iload_n 2) 86 (by decide +kernel) rfl rfl ?_
              refine w_ieq 94 89 (by decide +kernel) (fun h15 => ?_) (fun h15 => ?_)
              · skip
                refine w_load (.iload 4) 96 (by decide +kernel) rfl rfl ?_
                refine w_load (.iload 5) 98 (by decide +kernel) rfl rfl ?_
                refine w_load (.iload 4) 100 (by decide +kernel) rfl rfl ?_
                refine w_callS3 120 4 103 (by decide +kernel) (Nat.le_of_ble_eq_true rfl) rfl rfl rfl (by decide) (by omega) ?_
                refine s_inLeast hS.1 (by omega) (by omega) (by omega) (by omega) (by omega) (fun r16 hr16 => ?_)
                dsimp only [Option.toList, List.cons_append, List.nil_append]
                exact w_ret (by decide +kernel) (hq _ N_20 hS (Or.inr ⟨_, by assumption, rfl, Or.inr ⟨by omega, by rw [hr16, ← hi1_20, eo]; first | rw [if_pos (by assumption)] | rw [if_neg (by assumption)]⟩⟩))
              · skip
                refine w_load (.iload 5) 91 (by decide +kernel) rfl rfl ?_
                refine w_goto 96 (by decide +kernel) ?_
                refine w_load (.iload 5) 98 (by decide +kernel) rfl rfl ?_
                refine w_load (.iload 4) 100 (by decide +kernel) rfl rfl ?_
                refine w_callS3 120 4 103 (by decide +kernel) (Nat.le_of_ble_eq_true rfl) rfl rfl rfl (by decide) (by omega) ?_
                refine s_inLeast hS.1 (by omega) (by omega) (by omega) (by omega) (by omega) (fun r17 hr17 => ?_)
                dsimp only [Option.toList, List.cons_append, List.nil_append]
                exact w_ret (by decide +kernel) (hq _ N_20 hS (Or.inr ⟨_, by assumption, rfl, Or.inr ⟨by omega, by rw [hr17, ← hi1_20, eo]; first | rw [if_pos (by assumption)] | rw [if_neg (by assumption)]⟩⟩))
          · skip
            refine w_push (-3) 64 (by decide +kernel) ?_
            exact w_ret (by decide +kernel) (hq _ N_20 hS (Or.inr ⟨_, by assumption, rfl, Or.inl ⟨by omega, rfl⟩⟩))
        · skip
          refine w_load (.iload 4) 28 (by decide +kernel) rfl rfl ?_
          refine w_load (.iload_n 3) 29 (by decide +kernel) rfl rfl ?_
          refine w_load (.iload 5) 31 (by decide +kernel) rfl rfl ?_
          refine w_callS2 115 2 34 (by decide +kernel) (Nat.le_of_ble_eq_true rfl) rfl rfl (by decide) (by omega) ?_
          refine s_holds hS.1 (by omega) (by omega) (fun r18 hr18 => ?_)
          dsimp only [Option.toList, List.cons_append, List.nil_append]
          rcases hr18 with ⟨rfl, htr18⟩ | ⟨rfl, htr18⟩
          · skip
            refine w_ieq 47 37 (by decide +kernel) (fun hz => absurd hz (by decide)) (fun _ => ?_)
            refine w_load (.aload_n 0) 38 (by decide +kernel) rfl rfl ?_
            refine w_getR (k := 11) (r := 67) 41 (by decide +kernel) sh_0 rfl ?_
            refine w_load (.iload 5) 43 (by decide +kernel) rfl rfl ?_
            refine w_ialdK 44 (by decide +kernel) sh_67 (by decide) (by omega) ((hS.2 67 g5 (by (try dsimp only); first | omega | (simp only [Hs, Tl, Sc, isHs, isScr, isTs] at *; omega))).trans (ho g5 (by omega))) ?_
            refine w_goto 48 (by decide +kernel) ?_
            refine w_addN (g4 + on g5) 49 (by decide +kernel) (by omega) ?_
            refine w_store (ls' := [.ref 0, .int (nI k2), .int b, .int r4, .int (nI (g4 + on g5)), .int (nI g5)]) (.istore 4) 51 (by decide +kernel) rfl rfl ?_
            refine w_iincN (z := 5) (g5 + 1) 54 (by decide +kernel) rfl (Nat.le_of_ble_eq_true rfl) rfl rfl ?_
            show Wp _ _ _ [.ref 0, .int (nI k2), .int b, .int r4, .int (nI (g4 + on g5)), .int (nI (g5 + 1))] _ _ _ _
            refine w_goto 20 (by decide +kernel) ?_
            exact ih_20 N_20 (g4 + on g5) (g5 + 1) hS (by first | omega | (rw [sN_t (f := (fitB n T pw c m (M 65) (M 66))) (tb_3 (by omega) (by rw [← esx]; assumption))]; omega) | (rw [sN_f (f := (fitB n T pw c m (M 65) (M 66))) (tb_3 (by omega) (by rw [← esx]; assumption))]; omega)) (by first | omega | (rw [sN_t (f := (fitB n T pw c m (M 65) (M 66))) (tb_3 (by omega) (by rw [← esx]; assumption))]; omega) | (rw [sN_f (f := (fitB n T pw c m (M 65) (M 66))) (tb_3 (by omega) (by rw [← esx]; assumption))]; omega)) (by first | omega | (rw [sN_t (f := (fitB n T pw c m (M 65) (M 66))) (tb_3 (by omega) (by rw [← esx]; assumption))]; omega) | (rw [sN_f (f := (fitB n T pw c m (M 65) (M 66))) (tb_3 (by omega) (by rw [← esx]; assumption))]; omega)) (by omega)
          · skip
            refine w_ieq 47 37 (by decide +kernel) (fun _ => ?_) (fun hz => absurd hz (by decide))
            refine w_pushN 0 48 (by decide +kernel) ?_
            refine w_addN g4 49 (by decide +kernel) (by omega) ?_
            refine w_store (ls' := [.ref 0, .int (nI k2), .int b, .int r4, .int (nI g4), .int (nI g5)]) (.istore 4) 51 (by decide +kernel) rfl rfl ?_
            refine w_iincN (z := 5) (g5 + 1) 54 (by decide +kernel) rfl (Nat.le_of_ble_eq_true rfl) rfl rfl ?_
            show Wp _ _ _ [.ref 0, .int (nI k2), .int b, .int r4, .int (nI g4), .int (nI (g5 + 1))] _ _ _ _
            refine w_goto 20 (by decide +kernel) ?_
            exact ih_20 N_20 g4 (g5 + 1) hS (by first | omega | (rw [sN_t (f := (fitB n T pw c m (M 65) (M 66))) (tb_3 (by omega) (by rw [← esx]; assumption))]; omega) | (rw [sN_f (f := (fitB n T pw c m (M 65) (M 66))) (tb_3 (by omega) (by rw [← esx]; assumption))]; omega)) (by first | omega | (rw [sN_t (f := (fitB n T pw c m (M 65) (M 66))) (tb_3 (by omega) (by rw [← esx]; assumption))]; omega) | (rw [sN_f (f := (fitB n T pw c m (M 65) (M 66))) (tb_3 (by omega) (by rw [← esx]; assumption))]; omega)) (by first | omega | (rw [sN_t (f := (fitB n T pw c m (M 65) (M 66))) (tb_3 (by omega) (by rw [← esx]; assumption))]; omega) | (rw [sN_f (f := (fitB n T pw c m (M 65) (M 66))) (tb_3 (by omega) (by rw [← esx]; assumption))]; omega)) (by omega)
    exact LP_20 _ Nr4 0 0 hS (by first | omega | rfl) (by first | omega | rfl) (by first | omega | rfl) (Nat.lt_succ_self _)
  · skip
    refine w_ine 9 7 (by decide +kernel) (fun hz => absurd hz (by decide)) (fun _ => ?_)
    refine w_push (-1) 8 (by decide +kernel) ?_
    exact w_ret (by decide +kernel) (hq _ N hS (Or.inl ⟨rfl, by assumption⟩))
