-- X7_isDoneWithout#s
set_option maxRecDepth 10000 in
theorem s_isDoneW {d : Nat} {M : Mt} {L : Lt} {Q : Option Value → Mt → Lt → Prop} {t q : Nat} {n : Nat} {c pw : Row} {T : TLs}  (hI : Inv M) (hn : n ≤ 5) (en : M 4 2 = nI n) (hc : HE n (M 5) c) (hp : LQ n (M 6) pw) (hw : wedOk n c) (hT : tlX T M) (ht : t < 3) (hq2 : q < 256) (hd : 5 ≤ d) (hq : ∀ (r : Int32) (N : Mt), St (fun i _ => 10 ≤ i ∧ i ≤ 14) M N → ((r = 1 ∧ dnW n T pw t c q) ∨ (r = 0 ∧ ¬ dnW n T pw t c q)) → Q (some (.int r)) N L) : Wp d 124 0 [.ref 0, .ref (70 + 2 * t), .int (nI q), .null, .null, .null] [] M L Q := by
  refine (show ∀ N : Mt, N = M → St (fun i _ => 10 ≤ i ∧ i ≤ 14) M N → Wp d 124 0 [.ref 0, .ref (70 + 2 * t), .int (nI q), .null, .null, .null] [] N L Q from ?_) M rfl (St.rf hI)
  intro N hNM hS
  have kz0 : N (4) 2 = nI n := by rw [hNM]; exact en
  refine w_load (.aload_n 0) 1 (by decide +kernel) rfl rfl ?_
  refine w_getR (k := 4) (r := 10) 4 (by decide +kernel) sh_0 rfl ?_
  refine w_load (.aload_n 0) 5 (by decide +kernel) rfl rfl ?_
  refine w_getR (k := 2) (r := 4) 8 (by decide +kernel) sh_0 rfl ?_
  refine w_callV1 66 6 3 11 (by decide +kernel) sh_10 (Nat.le_of_ble_eq_true rfl) rfl (by decide) (by omega) ?_
  refine s_begin hS.1 tl_10 hs_4 (by omega) kz0 (by rw [hNM]; exact hc) (by rw [hNM]; exact hp) (by omega) (fun Nr1 hTr1 hr1 => ?_)
  have kn2 := (hTr1.2 (4) 2 (by (try dsimp only); first | omega | (simp only [Hs, Tl, Sc, isHs, isScr, isTs] at *; omega))).trans kz0
  have hS := hS.tr hTr1 (by intro i k; first | exact rfl | exact fun h => h.elim | omega | (dsimp only; omega) | (simp only [Hs, Tl, Sc, isHs, isScr, isTs] at *; omega))
  have s8 := hr1.1
  have g8 := hr1.2.1
  dsimp only [Option.toList, List.nil_append]
  refine w_load (.aload_n 1) 12 (by decide +kernel) rfl rfl ?_
  refine w_callV0 43 2 1 15 (by decide +kernel) (sc_tale t ht).1.1 (Nat.le_of_ble_eq_true rfl)  (by decide) (by omega) ?_
  refine s_wholeT hS.1 (by omega) (hT.keep (fun i k h1 h2 => hS.2 i k (by (try dsimp only); first | omega | (simp only [Hs, Tl, Sc, isHs, isScr, isTs] at *; omega)))) (by omega) (fun r3 hr3 => ?_)
  dsimp only [Option.toList, List.cons_append, List.nil_append]
  rcases hr3 with rfl
  · skip
    have hndr3 := nD_x hT (show t < 3 by omega)
    refine w_store (ls' := [.ref 0, .ref (70 + 2 * t), .int (nI q), .int (nI ((nD T t))), .null, .null]) (.istore_n 3) 16 (by decide +kernel) rfl rfl ?_
    refine w_pushN 0 17 (by decide +kernel) ?_
    refine w_store (ls' := [.ref 0, .ref (70 + 2 * t), .int (nI q), .int (nI ((nD T t))), .int (nI 0), .null]) (.istore 4) 19 (by decide +kernel) rfl rfl ?_
    refine w_pushN 0 20 (by decide +kernel) ?_
    refine w_store (ls' := [.ref 0, .ref (70 + 2 * t), .int (nI q), .int (nI ((nD T t))), .int (nI 0), .int (nI 0)]) (.istore 5) 22 (by decide +kernel) rfl rfl ?_
    have LP_22 : ∀ (kk : Nat) (N_22 : Mt) (x4_22 : Int32) (g5 : Nat), St (fun i _ => 10 ≤ i ∧ i ≤ 14) M N_22 → g5 ≤ 8 → shT n 10 N_22 (runF n (deedV (T t).2) (nI q) g5 (c, pw, nI 0, nI 0)) → N_22 11 2 = nI n → x4_22 = setI g5 (fun p => !tb (nI q) p) → g5 ≤ ((nD T t)) → 8 - g5 < kk → Wp d 124 22 [.ref 0, .ref (70 + 2 * t), .int (nI q), .int (nI ((nD T t))), .int x4_22, .int (nI g5)] [] N_22 L Q := by
      intro kk
      induction kk with
      | zero => intro N_22 x4_22 g5 hS hi0_22 hi1_22 hi2_22 hi3_22 hi4_22 hm_22; exact absurd hm_22 (Nat.not_lt_zero _)
      | succ kk ih_22 =>
        intro N_22 x4_22 g5 hS hi0_22 hi1_22 hi2_22 hi3_22 hi4_22 hm_22
        refine w_load (.iload 5) 24 (by decide +kernel) rfl rfl ?_
        refine w_load (.iload_n 3) 25 (by decide +kernel) rfl rfl ?_
        refine w_cgeN 67 28 (by decide +kernel) (by omega) (by omega) (fun h4 => ?_) (fun h4 => ?_)
        · skip
          refine w_load (.aload_n 0) 68 (by decide +kernel) rfl rfl ?_
          refine w_getR (k := 4) (r := 10) 71 (by decide +kernel) sh_0 rfl ?_
          refine w_getI (k := 2) 74 (by decide +kernel) sh_10 rfl ?_
          refine w_load (.iload 4) 76 (by decide +kernel) rfl rfl ?_
          refine w_cne 83 79 (by decide +kernel) (fun h5 => ?_) (fun h5 => ?_)
          · skip
            refine w_pushN 0 84 (by decide +kernel) ?_
            exact w_retZ (by decide +kernel) (Or.inl rfl) (hq _ N_22 hS (Or.inr ⟨rfl, fun hz => absurd ((dn_1 hi1_22 (by omega) hi3_22).mpr hz) (by assumption)⟩))
          · skip
            refine w_pushN 1 80 (by decide +kernel) ?_
            refine w_goto 84 (by decide +kernel) ?_
            exact w_retZ (by decide +kernel) (Or.inr rfl) (hq _ N_22 hS (Or.inl ⟨rfl, (dn_1 hi1_22 (by omega) hi3_22).mp (by assumption)⟩))
        · skip
          refine w_load (.iload_n 2) 29 (by decide +kernel) rfl rfl ?_
          refine w_load (.iload 5) 31 (by decide +kernel) rfl rfl ?_
          refine w_callS2 115 2 34 (by decide +kernel) (Nat.le_of_ble_eq_true rfl) rfl rfl (by decide) (by omega) ?_
          refine s_holds hS.1 (by omega) (by omega) (fun r6 hr6 => ?_)
          dsimp only [Option.toList, List.cons_append, List.nil_append]
          rcases hr6 with ⟨rfl, htr6⟩ | ⟨rfl, htr6⟩
          · skip
            refine w_ine 61 37 (by decide +kernel) (fun _ => ?_) (fun hz => absurd hz (by decide))
            refine w_iincN (z := 5) (g5 + 1) 64 (by decide +kernel) rfl (Nat.le_of_ble_eq_true rfl) rfl rfl ?_
            show Wp _ _ _ [.ref 0, .ref (70 + 2 * t), .int (nI q), .int (nI ((nD T t))), .int x4_22, .int (nI (g5 + 1))] _ _ _ _
            refine w_goto 22 (by decide +kernel) ?_
            exact ih_22 N_22 _ (g5 + 1) hS (by first | omega | assumption | (rw [ru_t (by assumption)]; assumption) | exact setI_s hi3_22 (by rw [show tb (nI q) g5 = true by assumption]; rfl) | (rw [eo]; exact setI_t hi3_22 (by rw [show tb (nI q) g5 = false by assumption]; rfl))) (by first | omega | assumption | (rw [ru_t (by assumption)]; assumption) | exact setI_s hi3_22 (by rw [show tb (nI q) g5 = true by assumption]; rfl) | (rw [eo]; exact setI_t hi3_22 (by rw [show tb (nI q) g5 = false by assumption]; rfl))) (by first | omega | assumption | (rw [ru_t (by assumption)]; assumption) | exact setI_s hi3_22 (by rw [show tb (nI q) g5 = true by assumption]; rfl) | (rw [eo]; exact setI_t hi3_22 (by rw [show tb (nI q) g5 = false by assumption]; rfl))) (by first | omega | assumption | (rw [ru_t (by assumption)]; assumption) | exact setI_s hi3_22 (by rw [show tb (nI q) g5 = true by assumption]; rfl) | (rw [eo]; exact setI_t hi3_22 (by rw [show tb (nI q) g5 = false by assumption]; rfl))) (by first | omega | assumption | (rw [ru_t (by assumption)]; assumption) | exact setI_s hi3_22 (by rw [show tb (nI q) g5 = true by assumption]; rfl) | (rw [eo]; exact setI_t hi3_22 (by rw [show tb (nI q) g5 = false by assumption]; rfl))) (by omega)
          · skip
            refine w_ine 61 37 (by decide +kernel) (fun hz => absurd hz (by decide)) (fun _ => ?_)
            refine w_load (.aload_n 0) 38 (by decide +kernel) rfl rfl ?_
            refine w_getR (k := 4) (r := 10) 41 (by decide +kernel) sh_0 rfl ?_
            refine w_load (.aload_n 1) 42 (by decide +kernel) rfl rfl ?_
            refine w_load (.iload 5) 44 (by decide +kernel) rfl rfl ?_
            refine w_callV1 44 2 4 47 (by decide +kernel) (sc_tale t ht).1.1 (Nat.le_of_ble_eq_true rfl) rfl (by decide) (by omega) ?_
            refine s_deedAtT hS.1 (by omega) (hT.keep (fun i k h1 h2 => hS.2 i k (by (try dsimp only); first | omega | (simp only [Hs, Tl, Sc, isHs, isScr, isTs] at *; omega)))) (by omega) (by omega) (fun r9 hr9 => ?_)
            dsimp only [Option.toList, List.cons_append, List.nil_append]
            rcases hr9 with rfl
            · skip
              have hdnr9 := dn_num (T := T) (t := t) (p := g5) (by omega)
              have hdbr9 := hdnr9.2
              refine w_load (.iload 5) 49 (by decide +kernel) rfl rfl ?_
              refine w_callV2 69 6 6 52 (by decide +kernel) sh_10 (Nat.le_of_ble_eq_true rfl) rfl rfl (by decide) (by omega) ?_
              refine s_hear hS.1 tl_10 (by omega) hi2_22 hi1_22 (wedOk.run hw hn g5) (by omega) (fun Nr10 hTr10 hr10 => ?_)
              have hS := hS.tr hTr10 (by intro i k; first | exact rfl | exact fun h => h.elim | omega | (dsimp only; omega) | (simp only [Hs, Tl, Sc, isHs, isScr, isTs] at *; omega))
              have s49 : shT n 10 Nr10 (runF n (deedV (T t).2) (nI q) (g5 + 1) (c, pw, nI 0, nI 0)) := by rw [ru_e (by assumption), (dn_num (show g5 < nD T t by omega)).1]; exact hr10
              have g49 : Nr10 11 2 = nI n := (hTr10.2 11 2 (by (try dsimp only); first | omega | (simp only [Hs, Tl, Sc, isHs, isScr, isTs] at *; omega))).trans hi2_22
              dsimp only [Option.toList, List.nil_append]
              refine w_load (.iload 4) 54 (by decide +kernel) rfl rfl ?_
              refine w_pushN 1 55 (by decide +kernel) ?_
              refine w_load (.iload 5) 57 (by decide +kernel) rfl rfl ?_
              refine w_pure .ishl 58 (by decide +kernel) rfl rfl ?_
              refine w_pure .ior 59 (by decide +kernel) rfl rfl ?_
              refine w_topi (fun v11 ev11 => ?_)
              refine w_store (ls' := [.ref 0, .ref (70 + 2 * t), .int (nI q), .int (nI ((nD T t))), .int v11, .int (nI g5)]) (.istore 4) 61 (by decide +kernel) rfl rfl ?_
              have eo := ev11
              refine w_iincN (z := 5) (g5 + 1) 64 (by decide +kernel) rfl (Nat.le_of_ble_eq_true rfl) rfl rfl ?_
              show Wp _ _ _ [.ref 0, .ref (70 + 2 * t), .int (nI q), .int (nI ((nD T t))), .int v11, .int (nI (g5 + 1))] _ _ _ _
              refine w_goto 22 (by decide +kernel) ?_
              exact ih_22 Nr10 _ (g5 + 1) hS (by first | omega | assumption | (rw [ru_t (by assumption)]; assumption) | exact setI_s hi3_22 (by rw [show tb (nI q) g5 = true by assumption]; rfl) | (rw [eo]; exact setI_t hi3_22 (by rw [show tb (nI q) g5 = false by assumption]; rfl))) (by first | omega | assumption | (rw [ru_t (by assumption)]; assumption) | exact setI_s hi3_22 (by rw [show tb (nI q) g5 = true by assumption]; rfl) | (rw [eo]; exact setI_t hi3_22 (by rw [show tb (nI q) g5 = false by assumption]; rfl))) (by first | omega | assumption | (rw [ru_t (by assumption)]; assumption) | exact setI_s hi3_22 (by rw [show tb (nI q) g5 = true by assumption]; rfl) | (rw [eo]; exact setI_t hi3_22 (by rw [show tb (nI q) g5 = false by assumption]; rfl))) (by first | omega | assumption | (rw [ru_t (by assumption)]; assumption) | exact setI_s hi3_22 (by rw [show tb (nI q) g5 = true by assumption]; rfl) | (rw [eo]; exact setI_t hi3_22 (by rw [show tb (nI q) g5 = false by assumption]; rfl))) (by first | omega | assumption | (rw [ru_t (by assumption)]; assumption) | exact setI_s hi3_22 (by rw [show tb (nI q) g5 = true by assumption]; rfl) | (rw [eo]; exact setI_t hi3_22 (by rw [show tb (nI q) g5 = false by assumption]; rfl))) (by omega)
    exact LP_22 _ Nr1 _ 0 hS (by first | omega | assumption | rfl) (by first | omega | assumption | rfl) (by first | omega | assumption | rfl) (by first | omega | assumption | rfl) (by first | omega | assumption | rfl) (Nat.lt_succ_self _)
-- X7_cut#s
set_option maxRecDepth 10000 in
theorem s_cut7 {d : Nat} {M : Mt} {L : Lt} {Q : Option Value → Mt → Lt → Prop} {n : Nat} {c pw : Row} {T : TLs} {a : Int32} (hI : Inv M) (hn : n ≤ 5) (en : M 4 2 = nI n) (hc : HE n (M 5) c) (hp : LQ n (M 6) pw) (hw : wedOk n c) (hT : tlX T M) (hd : 6 ≤ d) (hq : ∀ (r : Int32) (N : Mt), St (fun i _ => (7 ≤ i ∧ i ≤ 57) ∨ i = 63 ∨ i = 68 ∨ i = 69) M N → ((r = -1 ∧ ¬ (∃ k, k < 3 ∧ a = nI k)) ∨ (∃ t b p, t < 3 ∧ a = nI t ∧ pw2 (nD T t) p ∧ 1 ≤ p ∧ r = nI b ∧ isLM (dnW n T pw t c) onN (fun s => s ≤ p - 1) b)) → Q (some (.int r)) N L) : Wp d 92 0 [.ref 0, .int a, .null, .null, .null, .null] [] M L Q := by
  refine (show ∀ N : Mt, N = M → St (fun i _ => (7 ≤ i ∧ i ≤ 57) ∨ i = 63 ∨ i = 68 ∨ i = 69) M N → Wp d 92 0 [.ref 0, .int a, .null, .null, .null, .null] [] N L Q from ?_) M rfl (St.rf hI)
  intro N hNM hS
  have kz0 : N (4) 2 = nI n := by rw [hNM]; exact en
  refine w_load (.iload_n 1) 1 (by decide +kernel) rfl rfl ?_
  refine w_callS1 111 1 4 (by decide +kernel) (Nat.le_of_ble_eq_true rfl) rfl (by decide) (by omega) ?_
  refine k_111 hS.1  (by omega) (fun r1 hr1 => ?_)
  dsimp only [Option.toList, List.cons_append, List.nil_append]
  rcases hr1 with ⟨rfl, k2, hk2, rfl⟩ | ⟨rfl, hnok2⟩
  · skip
    refine w_ine 9 7 (by decide +kernel) (fun _ => ?_) (fun hz => absurd hz (by decide))
    refine w_load (.aload_n 0) 10 (by decide +kernel) rfl rfl ?_
    refine w_getR (k := 1) (r := 3) 13 (by decide +kernel) sh_0 rfl ?_
    refine w_load (.iload_n 1) 14 (by decide +kernel) rfl rfl ?_
    refine w_tale 15 (by decide +kernel) (by omega) ?_
    refine w_callV0 43 2 1 18 (by decide +kernel) (sc_tale k2 (by omega)).1.1 (Nat.le_of_ble_eq_true rfl)  (by decide) (by omega) ?_
    refine s_wholeT hS.1 (by omega) (hT.keep (fun i k h1 h2 => hS.2 i k (by (try dsimp only); first | omega | (simp only [Hs, Tl, Sc, isHs, isScr, isTs] at *; omega)))) (by omega) (fun r4 hr4 => ?_)
    dsimp only [Option.toList, List.cons_append, List.nil_append]
    rcases hr4 with rfl
    · skip
      have hndr4 := nD_x hT (show k2 < 3 by omega)
      refine w_store (ls' := [.ref 0, .int (nI k2), .int (nI ((nD T k2))), .null, .null, .null]) (.istore_n 2) 19 (by decide +kernel) rfl rfl ?_
      refine w_pushN 1 20 (by decide +kernel) ?_
      refine w_load (.iload_n 2) 21 (by decide +kernel) rfl rfl ?_
      refine w_shl1x 22 (by decide +kernel) (by omega) (fun p5 hp5 ep5 => ?_)
      refine w_pushN 1 23 (by decide +kernel) ?_
      refine w_subN (p5 - 1) 24 (by decide +kernel) (by omega) rfl ?_
      refine w_store (ls' := [.ref 0, .int (nI k2), .int (nI ((nD T k2))), .int (nI ((p5 - 1))), .null, .null]) (.istore_n 3) 25 (by decide +kernel) rfl rfl ?_
      have hall : ∀ s, s < (p5 - 1) → onN s < onN (p5 - 1) := on_all (m := (nD T k2)) (by omega) ep5
      have hdall : dnW n T pw k2 c (p5 - 1) := dn_all (by omega) ep5
      have hpw := ep5
      refine w_load (.iload_n 3) 26 (by decide +kernel) rfl rfl ?_
      refine w_store (ls' := [.ref 0, .int (nI k2), .int (nI ((nD T k2))), .int (nI ((p5 - 1))), .int (nI ((p5 - 1))), .null]) (.istore 4) 28 (by decide +kernel) rfl rfl ?_
      refine w_pushN 0 29 (by decide +kernel) ?_
      refine w_store (ls' := [.ref 0, .int (nI k2), .int (nI ((nD T k2))), .int (nI ((p5 - 1))), .int (nI ((p5 - 1))), .int (nI 0)]) (.istore 5) 31 (by decide +kernel) rfl rfl ?_
      have LP_31 : ∀ (kk : Nat) (N_31 : Mt) (g4 : Nat) (g5 : Nat), St (fun i _ => (7 ≤ i ∧ i ≤ 57) ∨ i = 63 ∨ i = 68 ∨ i = 69) M N_31 → g5 ≤ 256 → isLM (dnW n T pw k2 c) onN (fun s => s < g5 ∨ s = ((p5 - 1))) g4 → g4 ≤ ((p5 - 1)) → g5 ≤ ((p5 - 1)) + 1 → 256 - g5 < kk → Wp d 92 31 [.ref 0, .int (nI k2), .int (nI ((nD T k2))), .int (nI ((p5 - 1))), .int (nI g4), .int (nI g5)] [] N_31 L Q := by
        intro kk
        induction kk with
        | zero => intro N_31 g4 g5 hS hi0_31 hi1_31 hi2_31 hi3_31 hm_31; exact absurd hm_31 (Nat.not_lt_zero _)
        | succ kk ih_31 =>
          intro N_31 g4 g5 hS hi0_31 hi1_31 hi2_31 hi3_31 hm_31
          refine w_load (.iload 5) 33 (by decide +kernel) rfl rfl ?_
          refine w_load (.iload_n 3) 34 (by decide +kernel) rfl rfl ?_
          refine w_cgtN 75 37 (by decide +kernel) (by omega) (by omega) (fun h6 => ?_) (fun h6 => ?_)
          · skip
            refine w_load (.iload 4) 77 (by decide +kernel) rfl rfl ?_
            exact w_ret (by decide +kernel) (hq _ N_31 hS (Or.inr ⟨_, g4, _, by assumption, rfl, hpw, by omega, rfl, hi1_31.cg (fun s => by omega)⟩))
          · skip
            refine w_load (.iload 5) 39 (by decide +kernel) rfl rfl ?_
            refine w_callS1 200 1 42 (by decide +kernel) (Nat.le_of_ble_eq_true rfl) rfl (by decide) (by omega) ?_
            refine s_bitCountN hS.1 (by omega) (by omega) (fun r7 hr7 => ?_)
            dsimp only [Option.toList, List.cons_append, List.nil_append]
            rcases hr7 with rfl
            · skip
              have honr7 := on_le g5
              refine w_load (.iload 4) 44 (by decide +kernel) rfl rfl ?_
              refine w_callS1 200 1 47 (by decide +kernel) (Nat.le_of_ble_eq_true rfl) rfl (by decide) (by omega) ?_
              refine s_bitCountN hS.1 (by omega) (by omega) (fun r8 hr8 => ?_)
              dsimp only [Option.toList, List.cons_append, List.nil_append]
              rcases hr8 with rfl
              · skip
                have honr8 := on_le g4
                refine w_cgeN 69 50 (by decide +kernel) (by omega) (by omega) (fun h9 => ?_) (fun h9 => ?_)
                · skip
                  refine w_iincN (z := 5) (g5 + 1) 72 (by decide +kernel) rfl (Nat.le_of_ble_eq_true rfl) rfl rfl ?_
                  show Wp _ _ _ [.ref 0, .int (nI k2), .int (nI ((nD T k2))), .int (nI ((p5 - 1))), .int (nI g4), .int (nI (g5 + 1))] _ _ _ _
                  refine w_goto 31 (by decide +kernel) ?_
                  exact ih_31 N_31 g4 (g5 + 1) hS (by first | omega | exact lm_up hi1_31 (by assumption) (by omega) | exact lm_stay hi1_31 (by omega) hall (Or.inl (by assumption)) | exact lm_stay hi1_31 (by omega) hall (Or.inr (by omega))) (by first | omega | exact lm_up hi1_31 (by assumption) (by omega) | exact lm_stay hi1_31 (by omega) hall (Or.inl (by assumption)) | exact lm_stay hi1_31 (by omega) hall (Or.inr (by omega))) (by first | omega | exact lm_up hi1_31 (by assumption) (by omega) | exact lm_stay hi1_31 (by omega) hall (Or.inl (by assumption)) | exact lm_stay hi1_31 (by omega) hall (Or.inr (by omega))) (by first | omega | exact lm_up hi1_31 (by assumption) (by omega) | exact lm_stay hi1_31 (by omega) hall (Or.inl (by assumption)) | exact lm_stay hi1_31 (by omega) hall (Or.inr (by omega))) (by omega)
                · skip
                  refine w_load (.aload_n 0) 51 (by decide +kernel) rfl rfl ?_
                  refine w_load (.aload_n 0) 52 (by decide +kernel) rfl rfl ?_
                  refine w_getR (k := 1) (r := 3) 55 (by decide +kernel) sh_0 rfl ?_
                  refine w_load (.iload_n 1) 56 (by decide +kernel) rfl rfl ?_
                  refine w_tale 57 (by decide +kernel) (by omega) ?_
                  refine w_load (.iload 5) 59 (by decide +kernel) rfl rfl ?_
                  refine w_callV2 124 7 6 62 (by decide +kernel) sh_0 (Nat.le_of_ble_eq_true rfl) rfl rfl (by decide) (by omega) ?_
                  refine s_isDoneW hS.1 (by omega) ((hS.2 4 2 (by (try dsimp only); first | omega | (simp only [Hs, Tl, Sc, isHs, isScr, isTs] at *; omega))).trans en) (by rw [hS.row (x := 5) (fun k => (by (try dsimp only); first | omega | (simp only [Hs, Tl, Sc, isHs, isScr, isTs] at *; omega)))]; exact hc) (by rw [hS.row (x := 6) (fun k => (by (try dsimp only); first | omega | (simp only [Hs, Tl, Sc, isHs, isScr, isTs] at *; omega)))]; exact hp) hw (hT.keep (fun i k h1 h2 => hS.2 i k (by (try dsimp only); first | omega | (simp only [Hs, Tl, Sc, isHs, isScr, isTs] at *; omega)))) (by omega) (by omega) (by omega) (fun r10 Nr10 hTr10 hr10 => ?_)
                  have kn11 := (hTr10.2 (4) 2 (by (try dsimp only); first | omega | (simp only [Hs, Tl, Sc, isHs, isScr, isTs] at *; omega))).trans ((hS.2 4 2 (by (try dsimp only); first | omega | (simp only [Hs, Tl, Sc, isHs, isScr, isTs] at *; omega))).trans en)
                  have hS := hS.tr hTr10 (by intro i k; first | exact rfl | exact fun h => h.elim | omega | (dsimp only; omega) | (simp only [Hs, Tl, Sc, isHs, isScr, isTs] at *; omega))
                  dsimp only [Option.toList, List.cons_append, List.nil_append]
                  rcases hr10 with ⟨rfl, hdwr10⟩ | ⟨rfl, hdwr10⟩
                  · skip
                    refine w_ieq 69 65 (by decide +kernel) (fun hz => absurd hz (by decide)) (fun _ => ?_)
                    refine w_load (.iload 5) 67 (by decide +kernel) rfl rfl ?_
                    refine w_store (ls' := [.ref 0, .int (nI k2), .int (nI ((nD T k2))), .int (nI ((p5 - 1))), .int (nI g5), .int (nI g5)]) (.istore 4) 69 (by decide +kernel) rfl rfl ?_
                    refine w_iincN (z := 5) (g5 + 1) 72 (by decide +kernel) rfl (Nat.le_of_ble_eq_true rfl) rfl rfl ?_
                    show Wp _ _ _ [.ref 0, .int (nI k2), .int (nI ((nD T k2))), .int (nI ((p5 - 1))), .int (nI g5), .int (nI (g5 + 1))] _ _ _ _
                    refine w_goto 31 (by decide +kernel) ?_
                    exact ih_31 Nr10 g5 (g5 + 1) hS (by first | omega | exact lm_up hi1_31 (by assumption) (by omega) | exact lm_stay hi1_31 (by omega) hall (Or.inl (by assumption)) | exact lm_stay hi1_31 (by omega) hall (Or.inr (by omega))) (by first | omega | exact lm_up hi1_31 (by assumption) (by omega) | exact lm_stay hi1_31 (by omega) hall (Or.inl (by assumption)) | exact lm_stay hi1_31 (by omega) hall (Or.inr (by omega))) (by first | omega | exact lm_up hi1_31 (by assumption) (by omega) | exact lm_stay hi1_31 (by omega) hall (Or.inl (by assumption)) | exact lm_stay hi1_31 (by omega) hall (Or.inr (by omega))) (by first | omega | exact lm_up hi1_31 (by assumption) (by omega) | exact lm_stay hi1_31 (by omega) hall (Or.inl (by assumption)) | exact lm_stay hi1_31 (by omega) hall (Or.inr (by omega))) (by omega)
                  · skip
                    refine w_ieq 69 65 (by decide +kernel) (fun _ => ?_) (fun hz => absurd hz (by decide))
                    refine w_iincN (z := 5) (g5 + 1) 72 (by decide +kernel) rfl (Nat.le_of_ble_eq_true rfl) rfl rfl ?_
                    show Wp _ _ _ [.ref 0, .int (nI k2), .int (nI ((nD T k2))), .int (nI ((p5 - 1))), .int (nI g4), .int (nI (g5 + 1))] _ _ _ _
                    refine w_goto 31 (by decide +kernel) ?_
                    exact ih_31 Nr10 g4 (g5 + 1) hS (by first | omega | exact lm_up hi1_31 (by assumption) (by omega) | exact lm_stay hi1_31 (by omega) hall (Or.inl (by assumption)) | exact lm_stay hi1_31 (by omega) hall (Or.inr (by omega))) (by first | omega | exact lm_up hi1_31 (by assumption) (by omega) | exact lm_stay hi1_31 (by omega) hall (Or.inl (by assumption)) | exact lm_stay hi1_31 (by omega) hall (Or.inr (by omega))) (by first | omega | exact lm_up hi1_31 (by assumption) (by omega) | exact lm_stay hi1_31 (by omega) hall (Or.inl (by assumption)) | exact lm_stay hi1_31 (by omega) hall (Or.inr (by omega))) (by first | omega | exact lm_up hi1_31 (by assumption) (by omega) | exact lm_stay hi1_31 (by omega) hall (Or.inl (by assumption)) | exact lm_stay hi1_31 (by omega) hall (Or.inr (by omega))) (by omega)
      exact LP_31 _ N ((p5 - 1)) 0 hS (by first | omega | exact lm_start hdall rfl) (by first | omega | exact lm_start hdall rfl) (by first | omega | exact lm_start hdall rfl) (by first | omega | exact lm_start hdall rfl) (Nat.lt_succ_self _)
  · skip
    refine w_ine 9 7 (by decide +kernel) (fun hz => absurd hz (by decide)) (fun _ => ?_)
    refine w_push (-1) 8 (by decide +kernel) ?_
    exact w_ret (by decide +kernel) (hq _ N hS (Or.inl ⟨rfl, by assumption⟩))
-- X8_cut#s
set_option maxRecDepth 10000 in
theorem s_cut8 {d : Nat} {M : Mt} {L : Lt} {Q : Option Value → Mt → Lt → Prop} {n : Nat} {c pw : Row} {T : TLs} {a : Int32} (hI : Inv M) (hn : n ≤ 5) (en : M 76 0 = nI n) (hc : HE n (lvC M 0) c) (hp : LQ n (M 77) pw) (hw : wedOk n c) (hT : tlM T M) (hd : 4 ≤ d) (hq : ∀ (r : Int32) (N : Mt), St (fun i k => (i = 78 ∧ 22 ≤ k) ∨ i = 83 ∨ i = 84 ∨ (i = 76 ∧ (k = 7 ∨ k = 11))) M N → ((r = -1 ∧ ¬ (∃ k, k < 3 ∧ a = nI k)) ∨ (∃ t b p, t < 3 ∧ a = nI t ∧ pw2 (nD T t) p ∧ 1 ≤ p ∧ r = nI b ∧ isLM (dnW n T pw t c) onN (fun s => s ≤ p - 1) b)) → Q (some (.int r)) N L) : Wp d 175 0 [.ref 76, .int a, .null, .null, .null, .null] [] M L Q := by
  refine (show ∀ N : Mt, N = M → St (fun i k => (i = 78 ∧ 22 ≤ k) ∨ i = 83 ∨ i = 84 ∨ (i = 76 ∧ (k = 7 ∨ k = 11))) M N → Wp d 175 0 [.ref 76, .int a, .null, .null, .null, .null] [] N L Q from ?_) M rfl (St.rf hI)
  intro N hNM hS
  have kz0 : N (76) 0 = nI n := by rw [hNM]; exact en
  refine w_load (.iload_n 1) 1 (by decide +kernel) rfl rfl ?_
  refine w_callS1 142 1 4 (by decide +kernel) (Nat.le_of_ble_eq_true rfl) rfl (by decide) (by omega) ?_
  refine k_142 hS.1  (by omega) (fun r1 hr1 => ?_)
  dsimp only [Option.toList, List.cons_append, List.nil_append]
  rcases hr1 with ⟨rfl, k2, hk2, rfl⟩ | ⟨rfl, hnok2⟩
  · skip
    refine w_ine 9 7 (by decide +kernel) (fun _ => ?_) (fun hz => absurd hz (by decide))
    refine w_pushN 1 10 (by decide +kernel) ?_
    refine w_load (.aload_n 0) 11 (by decide +kernel) rfl rfl ?_
    refine w_load (.iload_n 1) 12 (by decide +kernel) rfl rfl ?_
    refine w_callV1 148 8 3 15 (by decide +kernel) sh_76 (Nat.le_of_ble_eq_true rfl) rfl (by decide) (by omega) ?_
    refine s_deedsT hS.1 (by omega) (hT.keep (hS.row (fun k => (by (try dsimp only); first | omega | (simp only [Hs, Tl, Sc, isHs, isScr, isTs] at *; omega)))) (hS.row (fun k => (by (try dsimp only); first | omega | (simp only [Hs, Tl, Sc, isHs, isScr, isTs] at *; omega))))) (by omega) (fun r4 hr4 => ?_)
    dsimp only [Option.toList, List.cons_append, List.nil_append]
    rcases hr4 with rfl
    · skip
      have hndr4 := nD_m hT (show k2 < 3 by omega)
      refine w_shl1x 16 (by decide +kernel) (by omega) (fun p5 hp5 ep5 => ?_)
      refine w_pushN 1 17 (by decide +kernel) ?_
      refine w_subN (p5 - 1) 18 (by decide +kernel) (by omega) rfl ?_
      refine w_store (ls' := [.ref 76, .int (nI k2), .int (nI ((p5 - 1))), .null, .null, .null]) (.istore_n 2) 19 (by decide +kernel) rfl rfl ?_
      have hmd : (nD T k2) ≤ 8 := by omega
      have hdall : dnW n T pw k2 c (p5 - 1) := dn_all hmd ep5
      have hpw := ep5
      refine w_load (.iload_n 2) 20 (by decide +kernel) rfl rfl ?_
      refine w_store (ls' := [.ref 76, .int (nI k2), .int (nI ((p5 - 1))), .int (nI ((p5 - 1))), .null, .null]) (.istore_n 3) 21 (by decide +kernel) rfl rfl ?_
      refine w_load (.iload_n 2) 22 (by decide +kernel) rfl rfl ?_
      refine w_store (ls' := [.ref 76, .int (nI k2), .int (nI ((p5 - 1))), .int (nI ((p5 - 1))), .int (nI ((p5 - 1))), .null]) (.istore 4) 24 (by decide +kernel) rfl rfl ?_
      have LP_24 : ∀ (kk : Nat) (N_24 : Mt) (g3 : Nat) (x4_24 : Int32), St (fun i k => (i = 78 ∧ 22 ≤ k) ∨ i = 83 ∨ i = 84 ∨ (i = 76 ∧ (k = 7 ∨ k = 11))) M N_24 → dnQ (dnW n T pw k2 c) onN ((p5 - 1)) x4_24 g3 → g3 ≤ ((p5 - 1)) → (x4_24.toInt + 1).toNat < kk → Wp d 175 24 [.ref 76, .int (nI k2), .int (nI ((p5 - 1))), .int (nI g3), .int x4_24, .null] [] N_24 L Q := by
        intro kk
        induction kk with
        | zero => intro N_24 g3 x4_24 hS hi0_24 hi1_24 hm_24; exact absurd hm_24 (Nat.not_lt_zero _)
        | succ kk ih_24 =>
          intro N_24 g3 x4_24 hS hi0_24 hi1_24 hm_24
          have hS0 := hS
          refine w_load (.iload 4) 26 (by decide +kernel) rfl rfl ?_
          refine w_ilt 89 29 (by decide +kernel) (fun h6 => ?_) (fun h6 => ?_)
          · skip
            have hLM := hi0_24.lt (by omega) h6
            refine w_load (.iload_n 3) 90 (by decide +kernel) rfl rfl ?_
            exact w_ret (by decide +kernel) (hq _ N_24 hS (Or.inr ⟨_, g3, _, by assumption, rfl, hpw, by omega, rfl, hLM⟩))
          · skip
            obtain ⟨gq, hgq, rfl, hgL⟩ := hi0_24.ge (by omega) h6
            refine w_load (.aload_n 0) 30 (by decide +kernel) rfl rfl ?_
            refine w_pushN 0 31 (by decide +kernel) ?_
            refine w_pushN 1 32 (by decide +kernel) ?_
            refine w_callV2 160 8 4 35 (by decide +kernel) sh_76 (Nat.le_of_ble_eq_true rfl) rfl rfl (by decide) (by omega) ?_
            refine s_lay hS.1 (by omega) (by omega) (by omega) (by omega) (fun Nr7 hTr7 hr7 => ?_)
            have kn8 := (hTr7.2 (76) 0 (by (try dsimp only); first | omega | (simp only [Hs, Tl, Sc, isHs, isScr, isTs] at *; omega))).trans ((hS.2 76 0 (by (try dsimp only); first | omega | (simp only [Hs, Tl, Sc, isHs, isScr, isTs] at *; omega))).trans en)
            have hS := hS.tr hTr7 (by intro i k; first | exact rfl | exact fun h => h.elim | omega | (dsimp only; omega) | (simp only [Hs, Tl, Sc, isHs, isScr, isTs] at *; omega))
            have hl1 : HE n (lvC Nr7 1) c := lay_HE hn hr7 (lv_same hn hc (fun k h1 h2 => hS0.2 78 k (by (try dsimp only); first | omega | (simp only [Hs, Tl, Sc, isHs, isScr, isTs] at *; omega))))
            dsimp only [Option.toList, List.nil_append]
            refine w_load (.aload_n 0) 36 (by decide +kernel) rfl rfl ?_
            refine w_pushN 1 37 (by decide +kernel) ?_
            refine w_load (.iload_n 1) 38 (by decide +kernel) rfl rfl ?_
            refine w_load (.iload 4) 40 (by decide +kernel) rfl rfl ?_
            refine w_callV3 159 8 7 43 (by decide +kernel) sh_76 (Nat.le_of_ble_eq_true rfl) rfl rfl rfl (by decide) (by omega) ?_
            refine s_tellOnT hS.1 (by omega) (by omega) kn8 (by omega) (hT.keep (hS.row (fun k => (by (try dsimp only); first | omega | (simp only [Hs, Tl, Sc, isHs, isScr, isTs] at *; omega)))) (hS.row (fun k => (by (try dsimp only); first | omega | (simp only [Hs, Tl, Sc, isHs, isScr, isTs] at *; omega))))) hl1 (by rw [hS.row (x := 77) (fun k => (by (try dsimp only); first | omega | (simp only [Hs, Tl, Sc, isHs, isScr, isTs] at *; omega)))]; exact hp) hw (by omega) (fun r9 Nr9 hTr9 hr9 => ?_)
            have kn10 := (hTr9.2 (76) 0 (by (try dsimp only); first | omega | (simp only [Hs, Tl, Sc, isHs, isScr, isTs] at *; omega))).trans kn8
            have hS := hS.tr hTr9 (by intro i k; first | exact rfl | exact fun h => h.elim | omega | (dsimp only; omega) | (simp only [Hs, Tl, Sc, isHs, isScr, isTs] at *; omega))
            obtain ⟨hSt, hrt⟩ := hr9
            dsimp only [Option.toList, List.cons_append, List.nil_append]
            refine w_load (.iload_n 2) 44 (by decide +kernel) rfl rfl ?_
            refine w_load (.iload 4) 46 (by decide +kernel) rfl rfl ?_
            refine w_push (-1) 47 (by decide +kernel) ?_
            refine w_pure .ixor 48 (by decide +kernel) rfl rfl ?_
            refine w_pure .iand 49 (by decide +kernel) rfl rfl ?_
            refine w_cne 56 52 (by decide +kernel) (fun h11 => ?_) (fun h11 => ?_)
            · skip
              have hD : ¬ dnW n T pw k2 c gq := fun hz => absurd ((dn_8 hmd hpw hrt).mpr hz) h11
              refine w_pushN 0 57 (by decide +kernel) ?_
              refine w_store (ls' := [.ref 76, .int (nI k2), .int (nI ((p5 - 1))), .int (nI g3), .int (nI gq), .int (nI 0)]) (.istore 5) 59 (by decide +kernel) rfl rfl ?_
              refine w_load (.iload 5) 61 (by decide +kernel) rfl rfl ?_
              refine w_ieq 81 64 (by decide +kernel) (fun _ => ?_) (fun hz => absurd hz (by decide))
              refine w_load (.iload_n 3) 82 (by decide +kernel) rfl rfl ?_
              refine w_store (ls' := [.ref 76, .int (nI k2), .int (nI ((p5 - 1))), .int (nI g3), .int (nI gq), .int (nI 0)]) (.istore_n 3) 83 (by decide +kernel) rfl rfl ?_
              obtain ⟨v13, ev13⟩ : ∃ y : Int32, y = (nI gq) + Int32.ofInt (-1) := ⟨_, rfl⟩
              refine w_store (ls' := [.ref 76, .int (nI k2), .int (nI ((p5 - 1))), .int (nI g3), .int v13, .int (nI 0)]) (.iinc 4 (-1)) 86 (by decide +kernel) rfl (by rw [ev13]; rfl) ?_
              refine w_goto 24 (by decide +kernel) ?_
              refine Wp.forget (ls := [.ref 76, .int (nI k2), .int (nI ((p5 - 1))), .int (nI g3), .int v13, .null]) ⟨Or.inl rfl, Or.inl rfl, Or.inl rfl, Or.inl rfl, Or.inl rfl, Or.inr ⟨rfl, rfl⟩, trivial⟩ ?_
              exact ih_24 Nr9 g3 _ hS (by first | omega | exact dnQ.new hgL hgq (by assumption) (by assumption) (by omega) | exact dnQ.old hgL hgq (by assumption) (Or.inl (by assumption)) | exact dnQ.old hgL hgq (by assumption) (Or.inr (by omega))) (by first | omega | exact dnQ.new hgL hgq (by assumption) (by assumption) (by omega) | exact dnQ.old hgL hgq (by assumption) (Or.inl (by assumption)) | exact dnQ.old hgL hgq (by assumption) (Or.inr (by omega))) (by exact dn_mu (g := gq) (by omega) (by assumption) hm_24)
            · skip
              have hD : dnW n T pw k2 c gq := (dn_8 hmd hpw hrt).mp h11
              refine w_pushN 1 53 (by decide +kernel) ?_
              refine w_goto 57 (by decide +kernel) ?_
              refine w_store (ls' := [.ref 76, .int (nI k2), .int (nI ((p5 - 1))), .int (nI g3), .int (nI gq), .int (nI 1)]) (.istore 5) 59 (by decide +kernel) rfl rfl ?_
              refine w_load (.iload 5) 61 (by decide +kernel) rfl rfl ?_
              refine w_ieq 81 64 (by decide +kernel) (fun hz => absurd hz (by decide)) (fun _ => ?_)
              refine w_load (.iload 4) 66 (by decide +kernel) rfl rfl ?_
              refine w_callS1 136 3 69 (by decide +kernel) (Nat.le_of_ble_eq_true rfl) rfl (by decide) (by omega) ?_
              refine s_onesN hS.1 (by omega) (by omega) (fun r15 hr15 => ?_)
              dsimp only [Option.toList, List.cons_append, List.nil_append]
              rcases hr15 with rfl
              · skip
                have honr15 := on_le gq
                refine w_load (.iload_n 3) 70 (by decide +kernel) rfl rfl ?_
                refine w_callS1 136 3 73 (by decide +kernel) (Nat.le_of_ble_eq_true rfl) rfl (by decide) (by omega) ?_
                refine s_onesN hS.1 (by omega) (by omega) (fun r16 hr16 => ?_)
                dsimp only [Option.toList, List.cons_append, List.nil_append]
                rcases hr16 with rfl
                · skip
                  have honr16 := on_le g3
                  refine w_cgtN 81 76 (by decide +kernel) (by omega) (by omega) (fun h17 => ?_) (fun h17 => ?_)
                  · skip
                    refine w_load (.iload_n 3) 82 (by decide +kernel) rfl rfl ?_
                    refine w_store (ls' := [.ref 76, .int (nI k2), .int (nI ((p5 - 1))), .int (nI g3), .int (nI gq), .int (nI 1)]) (.istore_n 3) 83 (by decide +kernel) rfl rfl ?_
                    obtain ⟨v18, ev18⟩ : ∃ y : Int32, y = (nI gq) + Int32.ofInt (-1) := ⟨_, rfl⟩
                    refine w_store (ls' := [.ref 76, .int (nI k2), .int (nI ((p5 - 1))), .int (nI g3), .int v18, .int (nI 1)]) (.iinc 4 (-1)) 86 (by decide +kernel) rfl (by rw [ev18]; rfl) ?_
                    refine w_goto 24 (by decide +kernel) ?_
                    refine Wp.forget (ls := [.ref 76, .int (nI k2), .int (nI ((p5 - 1))), .int (nI g3), .int v18, .null]) ⟨Or.inl rfl, Or.inl rfl, Or.inl rfl, Or.inl rfl, Or.inl rfl, Or.inr ⟨rfl, rfl⟩, trivial⟩ ?_
                    exact ih_24 Nr9 g3 _ hS (by first | omega | exact dnQ.new hgL hgq (by assumption) (by assumption) (by omega) | exact dnQ.old hgL hgq (by assumption) (Or.inl (by assumption)) | exact dnQ.old hgL hgq (by assumption) (Or.inr (by omega))) (by first | omega | exact dnQ.new hgL hgq (by assumption) (by assumption) (by omega) | exact dnQ.old hgL hgq (by assumption) (Or.inl (by assumption)) | exact dnQ.old hgL hgq (by assumption) (Or.inr (by omega))) (by exact dn_mu (g := gq) (by omega) (by assumption) hm_24)
                  · skip
                    refine w_load (.iload 4) 78 (by decide +kernel) rfl rfl ?_
                    refine w_goto 82 (by decide +kernel) ?_
                    refine w_store (ls' := [.ref 76, .int (nI k2), .int (nI ((p5 - 1))), .int (nI gq), .int (nI gq), .int (nI 1)]) (.istore_n 3) 83 (by decide +kernel) rfl rfl ?_
                    obtain ⟨v19, ev19⟩ : ∃ y : Int32, y = (nI gq) + Int32.ofInt (-1) := ⟨_, rfl⟩
                    refine w_store (ls' := [.ref 76, .int (nI k2), .int (nI ((p5 - 1))), .int (nI gq), .int v19, .int (nI 1)]) (.iinc 4 (-1)) 86 (by decide +kernel) rfl (by rw [ev19]; rfl) ?_
                    refine w_goto 24 (by decide +kernel) ?_
                    refine Wp.forget (ls := [.ref 76, .int (nI k2), .int (nI ((p5 - 1))), .int (nI gq), .int v19, .null]) ⟨Or.inl rfl, Or.inl rfl, Or.inl rfl, Or.inl rfl, Or.inl rfl, Or.inr ⟨rfl, rfl⟩, trivial⟩ ?_
                    exact ih_24 Nr9 gq _ hS (by first | omega | exact dnQ.new hgL hgq (by assumption) (by assumption) (by omega) | exact dnQ.old hgL hgq (by assumption) (Or.inl (by assumption)) | exact dnQ.old hgL hgq (by assumption) (Or.inr (by omega))) (by first | omega | exact dnQ.new hgL hgq (by assumption) (by assumption) (by omega) | exact dnQ.old hgL hgq (by assumption) (Or.inl (by assumption)) | exact dnQ.old hgL hgq (by assumption) (Or.inr (by omega))) (by exact dn_mu (g := gq) (by omega) (by assumption) hm_24)
      exact LP_24 _ N ((p5 - 1)) _ hS (by first | omega | exact dnQ.start hdall) (by first | omega | exact dnQ.start hdall) (Nat.lt_succ_self _)
  · skip
    refine w_ine 9 7 (by decide +kernel) (fun hz => absurd hz (by decide)) (fun _ => ?_)
    refine w_push (-1) 8 (by decide +kernel) ?_
    exact w_ret (by decide +kernel) (hq _ N hS (Or.inl ⟨rfl, by assumption⟩))
