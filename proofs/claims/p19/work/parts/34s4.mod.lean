-- X8_bearsAt#s
set_option maxRecDepth 10000 in
theorem s_bearsAt {d : Nat} {M : Mt} {L : Lt} {Q : Option Value → Mt → Lt → Prop} {lv n : Nat} {c : Row} {a : Int32} (hI : Inv M) (hlv : lv ≤ 7) (hn : n ≤ 5) (en : M 76 0 = nI n) (hc : HE n (lvC M lv) c) (hd : 1 ≤ d) (hq : ∀ (r : Int32), (r = bears n c a) → Q (some (.int r)) M L) : Wp d 152 0 [.ref 76, .int (nI lv), .int a, .null, .null, .null] [] M L Q := by
  refine w_pushN 22 2 (by decide +kernel) ?_
  refine w_load (.iload_n 1) 3 (by decide +kernel) rfl rfl ?_
  refine w_mulN (22 * lv) 4 (by decide +kernel) rfl ?_
  refine w_store (ls' := [.ref 76, .int (nI lv), .int a, .int (nI (22 * lv)), .null, .null]) (.istore_n 3) 5 (by decide +kernel) rfl rfl ?_
  refine w_pushN 0 6 (by decide +kernel) ?_
  refine w_store (ls' := [.ref 76, .int (nI lv), .int a, .int (nI (22 * lv)), .int (nI 0), .null]) (.istore 4) 8 (by decide +kernel) rfl rfl ?_
  refine w_pushN 0 9 (by decide +kernel) ?_
  refine w_store (ls' := [.ref 76, .int (nI lv), .int a, .int (nI (22 * lv)), .int (nI 0), .int (nI 0)]) (.istore 5) 11 (by decide +kernel) rfl rfl ?_
  have LP_11 : ∀ (kk : Nat) (x4_11 : Int32) (g5 : Nat), g5 ≤ 5 → x4_11 = setI g5 (fun g => decide (lvC M lv g = a) && tb (lvC M lv 15) g) → g5 ≤ n → 5 - g5 < kk → Wp d 152 11 [.ref 76, .int (nI lv), .int a, .int (nI (22 * lv)), .int x4_11, .int (nI g5)] [] M L Q := by
    intro kk
    induction kk with
    | zero => intro x4_11 g5 hi0_11 hi1_11 hi2_11 hm_11; exact absurd hm_11 (Nat.not_lt_zero _)
    | succ kk ih_11 =>
      intro x4_11 g5 hi0_11 hi1_11 hi2_11 hm_11
      refine w_load (.iload 5) 13 (by decide +kernel) rfl rfl ?_
      refine w_load (.aload_n 0) 14 (by decide +kernel) rfl rfl ?_
      refine w_getK (k := 0) 17 (by decide +kernel) sh_76 rfl en ?_
      refine w_cgeN 69 20 (by decide +kernel) (by omega) (by omega) (fun h1 => ?_) (fun h1 => ?_)
      · skip
        refine w_load (.iload 4) 71 (by decide +kernel) rfl rfl ?_
        exact w_ret (by decide +kernel) (hq _ (by have hgn : g5 = n := (by omega); rw [hgn] at hi1_11; exact hi1_11.trans (bears_cg hc)))
      · skip
        refine w_load (.iload 4) 22 (by decide +kernel) rfl rfl ?_
        refine w_load (.aload_n 0) 23 (by decide +kernel) rfl rfl ?_
        refine w_getR (k := 2) (r := 78) 26 (by decide +kernel) sh_76 rfl ?_
        refine w_load (.iload_n 3) 27 (by decide +kernel) rfl rfl ?_
        refine w_pushN 15 29 (by decide +kernel) ?_
        refine w_addN (22 * lv + 15) 30 (by decide +kernel) (by omega) ?_
        refine w_ialdN 31 (by decide +kernel) sh_78 (by omega) (by omega) ?_
        refine w_load (.iload 5) 33 (by decide +kernel) rfl rfl ?_
        refine w_callS2 135 2 36 (by decide +kernel) (Nat.le_of_ble_eq_true rfl) rfl rfl (by decide) (by omega) ?_
        refine k_135 hI  (by omega) (fun r2 hr2 => ?_)
        dsimp only [Option.toList, List.cons_append, List.nil_append]
        rcases hr2 with ⟨rfl, hbr2⟩ | ⟨rfl, hbr2⟩
        · skip
          have htr2 := tb_hb (by omega) hbr2
          refine w_ieq 59 39 (by decide +kernel) (fun hz => absurd hz (by decide)) (fun _ => ?_)
          refine w_load (.aload_n 0) 40 (by decide +kernel) rfl rfl ?_
          refine w_getR (k := 2) (r := 78) 43 (by decide +kernel) sh_76 rfl ?_
          refine w_load (.iload_n 3) 44 (by decide +kernel) rfl rfl ?_
          refine w_load (.iload 5) 46 (by decide +kernel) rfl rfl ?_
          refine w_addN (22 * lv + g5) 47 (by decide +kernel) (by omega) ?_
          refine w_ialdN 48 (by decide +kernel) sh_78 (by omega) (by omega) ?_
          refine w_load (.iload_n 2) 49 (by decide +kernel) rfl rfl ?_
          refine w_cne 59 52 (by decide +kernel) (fun h4 => ?_) (fun h4 => ?_)
          · skip
            refine w_pushN 0 60 (by decide +kernel) ?_
            refine w_pure .ior 61 (by decide +kernel) rfl rfl ?_
            refine w_topi (fun v5 ev5 => ?_)
            refine w_store (ls' := [.ref 76, .int (nI lv), .int a, .int (nI (22 * lv)), .int v5, .int (nI g5)]) (.istore 4) 63 (by decide +kernel) rfl rfl ?_
            have ebit := ev5
            refine w_iincN (z := 5) (g5 + 1) 66 (by decide +kernel) rfl (Nat.le_of_ble_eq_true rfl) rfl rfl ?_
            show Wp _ _ _ [.ref 76, .int (nI lv), .int a, .int (nI (22 * lv)), .int v5, .int (nI (g5 + 1))] _ _ _ _
            refine w_goto 11 (by decide +kernel) ?_
            exact ih_11 _ (g5 + 1) (by first | omega | (rw [ebit]; first | exact setI_t (by assumption) (band_t (decide_eq_true (by assumption)) (by assumption)) | exact setI_f (by assumption) (band_f2 (by assumption)) | exact setI_f (by assumption) (band_f1 (decide_eq_false (by assumption))))) (by first | omega | (rw [ebit]; first | exact setI_t (by assumption) (band_t (decide_eq_true (by assumption)) (by assumption)) | exact setI_f (by assumption) (band_f2 (by assumption)) | exact setI_f (by assumption) (band_f1 (decide_eq_false (by assumption))))) (by first | omega | (rw [ebit]; first | exact setI_t (by assumption) (band_t (decide_eq_true (by assumption)) (by assumption)) | exact setI_f (by assumption) (band_f2 (by assumption)) | exact setI_f (by assumption) (band_f1 (decide_eq_false (by assumption))))) (by omega)
          · skip
            refine w_pushN 1 53 (by decide +kernel) ?_
            refine w_load (.iload 5) 55 (by decide +kernel) rfl rfl ?_
            refine w_pure .ishl 56 (by decide +kernel) rfl rfl ?_
            refine w_goto 60 (by decide +kernel) ?_
            refine w_pure .ior 61 (by decide +kernel) rfl rfl ?_
            refine w_topi (fun v6 ev6 => ?_)
            refine w_store (ls' := [.ref 76, .int (nI lv), .int a, .int (nI (22 * lv)), .int v6, .int (nI g5)]) (.istore 4) 63 (by decide +kernel) rfl rfl ?_
            have ebit := ev6
            refine w_iincN (z := 5) (g5 + 1) 66 (by decide +kernel) rfl (Nat.le_of_ble_eq_true rfl) rfl rfl ?_
            show Wp _ _ _ [.ref 76, .int (nI lv), .int a, .int (nI (22 * lv)), .int v6, .int (nI (g5 + 1))] _ _ _ _
            refine w_goto 11 (by decide +kernel) ?_
            exact ih_11 _ (g5 + 1) (by first | omega | (rw [ebit]; first | exact setI_t (by assumption) (band_t (decide_eq_true (by assumption)) (by assumption)) | exact setI_f (by assumption) (band_f2 (by assumption)) | exact setI_f (by assumption) (band_f1 (decide_eq_false (by assumption))))) (by first | omega | (rw [ebit]; first | exact setI_t (by assumption) (band_t (decide_eq_true (by assumption)) (by assumption)) | exact setI_f (by assumption) (band_f2 (by assumption)) | exact setI_f (by assumption) (band_f1 (decide_eq_false (by assumption))))) (by first | omega | (rw [ebit]; first | exact setI_t (by assumption) (band_t (decide_eq_true (by assumption)) (by assumption)) | exact setI_f (by assumption) (band_f2 (by assumption)) | exact setI_f (by assumption) (band_f1 (decide_eq_false (by assumption))))) (by omega)
        · skip
          have htr2 := tb_nhb (by omega) hbr2
          refine w_ieq 59 39 (by decide +kernel) (fun _ => ?_) (fun hz => absurd hz (by decide))
          refine w_pushN 0 60 (by decide +kernel) ?_
          refine w_pure .ior 61 (by decide +kernel) rfl rfl ?_
          refine w_topi (fun v8 ev8 => ?_)
          refine w_store (ls' := [.ref 76, .int (nI lv), .int a, .int (nI (22 * lv)), .int v8, .int (nI g5)]) (.istore 4) 63 (by decide +kernel) rfl rfl ?_
          have ebit := ev8
          refine w_iincN (z := 5) (g5 + 1) 66 (by decide +kernel) rfl (Nat.le_of_ble_eq_true rfl) rfl rfl ?_
          show Wp _ _ _ [.ref 76, .int (nI lv), .int a, .int (nI (22 * lv)), .int v8, .int (nI (g5 + 1))] _ _ _ _
          refine w_goto 11 (by decide +kernel) ?_
          exact ih_11 _ (g5 + 1) (by first | omega | (rw [ebit]; first | exact setI_t (by assumption) (band_t (decide_eq_true (by assumption)) (by assumption)) | exact setI_f (by assumption) (band_f2 (by assumption)) | exact setI_f (by assumption) (band_f1 (decide_eq_false (by assumption))))) (by first | omega | (rw [ebit]; first | exact setI_t (by assumption) (band_t (decide_eq_true (by assumption)) (by assumption)) | exact setI_f (by assumption) (band_f2 (by assumption)) | exact setI_f (by assumption) (band_f1 (decide_eq_false (by assumption))))) (by first | omega | (rw [ebit]; first | exact setI_t (by assumption) (band_t (decide_eq_true (by assumption)) (by assumption)) | exact setI_f (by assumption) (band_f2 (by assumption)) | exact setI_f (by assumption) (band_f1 (decide_eq_false (by assumption))))) (by omega)
  exact LP_11 _ _ 0 (by first | omega | rfl) (by first | omega | rfl) (by first | omega | rfl) (Nat.lt_succ_self _)
-- X8_strong#s
set_option maxRecDepth 10000 in
theorem s_strong {d : Nat} {M : Mt} {L : Lt} {Q : Option Value → Mt → Lt → Prop} {lv n : Nat} {l : Row} {a : Int32} (hI : Inv M) (hlv : lv ≤ 7) (hn : n ≤ 5) (en : M 76 0 = nI n) (hl : LQ n (lvL M lv) l) (hd : 1 ≤ d) (hq : ∀ (r : Int32), (r = able n a l) → Q (some (.int r)) M L) : Wp d 155 0 [.ref 76, .int (nI lv), .int a, .null, .null] [] M L Q := by
  refine w_pushN 0 1 (by decide +kernel) ?_
  refine w_store (ls' := [.ref 76, .int (nI lv), .int a, .int (nI 0), .null]) (.istore_n 3) 2 (by decide +kernel) rfl rfl ?_
  refine w_pushN 0 3 (by decide +kernel) ?_
  refine w_store (ls' := [.ref 76, .int (nI lv), .int a, .int (nI 0), .int (nI 0)]) (.istore 4) 5 (by decide +kernel) rfl rfl ?_
  have LP_5 : ∀ (kk : Nat) (x3_5 : Int32) (g4 : Nat), g4 ≤ 5 → x3_5 = setI g4 (fun g => tb a g && decide (0 < lvL M lv g)) → g4 ≤ n → 5 - g4 < kk → Wp d 155 5 [.ref 76, .int (nI lv), .int a, .int x3_5, .int (nI g4)] [] M L Q := by
    intro kk
    induction kk with
    | zero => intro x3_5 g4 hi0_5 hi1_5 hi2_5 hm_5; exact absurd hm_5 (Nat.not_lt_zero _)
    | succ kk ih_5 =>
      intro x3_5 g4 hi0_5 hi1_5 hi2_5 hm_5
      refine w_load (.iload 4) 7 (by decide +kernel) rfl rfl ?_
      refine w_load (.aload_n 0) 8 (by decide +kernel) rfl rfl ?_
      refine w_getK (k := 0) 11 (by decide +kernel) sh_76 rfl en ?_
      refine w_cgeN 58 14 (by decide +kernel) (by omega) (by omega) (fun h1 => ?_) (fun h1 => ?_)
      · skip
        refine w_load (.iload_n 3) 59 (by decide +kernel) rfl rfl ?_
        exact w_ret (by decide +kernel) (hq _ (by have hgn : g4 = n := (by omega); rw [hgn] at hi1_5; exact hi1_5.trans (able_cg hl)))
      · skip
        refine w_load (.iload_n 3) 15 (by decide +kernel) rfl rfl ?_
        refine w_load (.iload_n 2) 16 (by decide +kernel) rfl rfl ?_
        refine w_load (.iload 4) 18 (by decide +kernel) rfl rfl ?_
        refine w_callS2 135 2 21 (by decide +kernel) (Nat.le_of_ble_eq_true rfl) rfl rfl (by decide) (by omega) ?_
        refine k_135 hI  (by omega) (fun r2 hr2 => ?_)
        dsimp only [Option.toList, List.cons_append, List.nil_append]
        rcases hr2 with ⟨rfl, hbr2⟩ | ⟨rfl, hbr2⟩
        · skip
          have htr2 := tb_hb (by omega) hbr2
          refine w_ieq 49 24 (by decide +kernel) (fun hz => absurd hz (by decide)) (fun _ => ?_)
          refine w_load (.aload_n 0) 25 (by decide +kernel) rfl rfl ?_
          refine w_getR (k := 2) (r := 78) 28 (by decide +kernel) sh_76 rfl ?_
          refine w_pushN 22 30 (by decide +kernel) ?_
          refine w_load (.iload_n 1) 31 (by decide +kernel) rfl rfl ?_
          refine w_mulN (22 * lv) 32 (by decide +kernel) rfl ?_
          refine w_pushN 17 34 (by decide +kernel) ?_
          refine w_addN (22 * lv + 17) 35 (by decide +kernel) (by omega) ?_
          refine w_load (.iload 4) 37 (by decide +kernel) rfl rfl ?_
          refine w_addN (22 * lv + 17 + g4) 38 (by decide +kernel) (by omega) ?_
          refine w_ialdN 39 (by decide +kernel) sh_78 (by omega) (by omega) ?_
          refine w_ile 49 42 (by decide +kernel) (fun h4 => ?_) (fun h4 => ?_)
          · skip
            refine w_pushN 0 50 (by decide +kernel) ?_
            refine w_pure .ior 51 (by decide +kernel) rfl rfl ?_
            refine w_topi (fun v5 ev5 => ?_)
            refine w_store (ls' := [.ref 76, .int (nI lv), .int a, .int v5, .int (nI g4)]) (.istore_n 3) 52 (by decide +kernel) rfl rfl ?_
            have ebit := ev5
            refine w_iincN (z := 4) (g4 + 1) 55 (by decide +kernel) rfl (Nat.le_of_ble_eq_true rfl) rfl rfl ?_
            show Wp _ _ _ [.ref 76, .int (nI lv), .int a, .int v5, .int (nI (g4 + 1))] _ _ _ _
            refine w_goto 5 (by decide +kernel) ?_
            exact ih_5 _ (g4 + 1) (by first | omega | (rw [ebit]; first | exact setI_t (by assumption) (band_t (by assumption) (decide_eq_true (gt_of (by assumption)))) | exact setI_f (by assumption) (band_f1 (by assumption)) | exact setI_f (by assumption) (band_f2 (decide_eq_false (ngt_of (by assumption)))))) (by first | omega | (rw [ebit]; first | exact setI_t (by assumption) (band_t (by assumption) (decide_eq_true (gt_of (by assumption)))) | exact setI_f (by assumption) (band_f1 (by assumption)) | exact setI_f (by assumption) (band_f2 (decide_eq_false (ngt_of (by assumption)))))) (by first | omega | (rw [ebit]; first | exact setI_t (by assumption) (band_t (by assumption) (decide_eq_true (gt_of (by assumption)))) | exact setI_f (by assumption) (band_f1 (by assumption)) | exact setI_f (by assumption) (band_f2 (decide_eq_false (ngt_of (by assumption)))))) (by omega)
          · skip
            refine w_pushN 1 43 (by decide +kernel) ?_
            refine w_load (.iload 4) 45 (by decide +kernel) rfl rfl ?_
            refine w_pure .ishl 46 (by decide +kernel) rfl rfl ?_
            refine w_goto 50 (by decide +kernel) ?_
            refine w_pure .ior 51 (by decide +kernel) rfl rfl ?_
            refine w_topi (fun v6 ev6 => ?_)
            refine w_store (ls' := [.ref 76, .int (nI lv), .int a, .int v6, .int (nI g4)]) (.istore_n 3) 52 (by decide +kernel) rfl rfl ?_
            have ebit := ev6
            refine w_iincN (z := 4) (g4 + 1) 55 (by decide +kernel) rfl (Nat.le_of_ble_eq_true rfl) rfl rfl ?_
            show Wp _ _ _ [.ref 76, .int (nI lv), .int a, .int v6, .int (nI (g4 + 1))] _ _ _ _
            refine w_goto 5 (by decide +kernel) ?_
            exact ih_5 _ (g4 + 1) (by first | omega | (rw [ebit]; first | exact setI_t (by assumption) (band_t (by assumption) (decide_eq_true (gt_of (by assumption)))) | exact setI_f (by assumption) (band_f1 (by assumption)) | exact setI_f (by assumption) (band_f2 (decide_eq_false (ngt_of (by assumption)))))) (by first | omega | (rw [ebit]; first | exact setI_t (by assumption) (band_t (by assumption) (decide_eq_true (gt_of (by assumption)))) | exact setI_f (by assumption) (band_f1 (by assumption)) | exact setI_f (by assumption) (band_f2 (decide_eq_false (ngt_of (by assumption)))))) (by first | omega | (rw [ebit]; first | exact setI_t (by assumption) (band_t (by assumption) (decide_eq_true (gt_of (by assumption)))) | exact setI_f (by assumption) (band_f1 (by assumption)) | exact setI_f (by assumption) (band_f2 (decide_eq_false (ngt_of (by assumption)))))) (by omega)
        · skip
          have htr2 := tb_nhb (by omega) hbr2
          refine w_ieq 49 24 (by decide +kernel) (fun _ => ?_) (fun hz => absurd hz (by decide))
          refine w_pushN 0 50 (by decide +kernel) ?_
          refine w_pure .ior 51 (by decide +kernel) rfl rfl ?_
          refine w_topi (fun v8 ev8 => ?_)
          refine w_store (ls' := [.ref 76, .int (nI lv), .int a, .int v8, .int (nI g4)]) (.istore_n 3) 52 (by decide +kernel) rfl rfl ?_
          have ebit := ev8
          refine w_iincN (z := 4) (g4 + 1) 55 (by decide +kernel) rfl (Nat.le_of_ble_eq_true rfl) rfl rfl ?_
          show Wp _ _ _ [.ref 76, .int (nI lv), .int a, .int v8, .int (nI (g4 + 1))] _ _ _ _
          refine w_goto 5 (by decide +kernel) ?_
          exact ih_5 _ (g4 + 1) (by first | omega | (rw [ebit]; first | exact setI_t (by assumption) (band_t (by assumption) (decide_eq_true (gt_of (by assumption)))) | exact setI_f (by assumption) (band_f1 (by assumption)) | exact setI_f (by assumption) (band_f2 (decide_eq_false (ngt_of (by assumption)))))) (by first | omega | (rw [ebit]; first | exact setI_t (by assumption) (band_t (by assumption) (decide_eq_true (gt_of (by assumption)))) | exact setI_f (by assumption) (band_f1 (by assumption)) | exact setI_f (by assumption) (band_f2 (decide_eq_false (ngt_of (by assumption)))))) (by first | omega | (rw [ebit]; first | exact setI_t (by assumption) (band_t (by assumption) (decide_eq_true (gt_of (by assumption)))) | exact setI_f (by assumption) (band_f1 (by assumption)) | exact setI_f (by assumption) (band_f2 (decide_eq_false (ngt_of (by assumption)))))) (by omega)
  exact LP_5 _ _ 0 (by first | omega | rfl) (by first | omega | rfl) (by first | omega | rfl) (Nat.lt_succ_self _)
-- X8_least#s
set_option maxRecDepth 10000 in
theorem s_least {d : Nat} {M : Mt} {L : Lt} {Q : Option Value → Mt → Lt → Prop} {a : Int32} (hI : Inv M)  (hd : 1 ≤ d) (hq : ∀ (r : Int32), ((∃ k, k < 5 ∧ r = nI k ∧ isL a k) ∨ (r = -9 ∧ ∀ k, k < 5 → tb a k = false)) → Q (some (.int r)) M L) : Wp d 154 0 [.int a, .null] [] M L Q := by
  refine w_pushN 0 1 (by decide +kernel) ?_
  refine w_store (ls' := [.int a, .int (nI 0)]) (.istore_n 1) 2 (by decide +kernel) rfl rfl ?_
  have LP_2 : ∀ (kk : Nat) (g1 : Nat), g1 ≤ 5 → (∀ z, z < g1 → tb a z = false) → 5 - g1 < kk → Wp d 154 2 [.int a, .int (nI g1)] [] M L Q := by
    intro kk
    induction kk with
    | zero => intro g1 hi0_2 hi1_2 hm_2; exact absurd hm_2 (Nat.not_lt_zero _)
    | succ kk ih_2 =>
      intro g1 hi0_2 hi1_2 hm_2
      refine w_load (.iload_n 1) 3 (by decide +kernel) rfl rfl ?_
      refine w_pushN 5 4 (by decide +kernel) ?_
      refine w_cgeN 23 7 (by decide +kernel) (by omega) (by omega) (fun h1 => ?_) (fun h1 => ?_)
      · skip
        refine w_push (-9) 25 (by decide +kernel) ?_
        exact w_ret (by decide +kernel) (hq _ (Or.inr ⟨rfl, fun z hz => hi1_2 z (by omega)⟩))
      · skip
        refine w_load (.iload_n 0) 8 (by decide +kernel) rfl rfl ?_
        refine w_load (.iload_n 1) 9 (by decide +kernel) rfl rfl ?_
        refine w_callS2 135 2 12 (by decide +kernel) (Nat.le_of_ble_eq_true rfl) rfl rfl (by decide) (by omega) ?_
        refine k_135 hI  (by omega) (fun r2 hr2 => ?_)
        dsimp only [Option.toList, List.cons_append, List.nil_append]
        rcases hr2 with ⟨rfl, hbr2⟩ | ⟨rfl, hbr2⟩
        · skip
          have htr2 := tb_hb (by omega) hbr2
          refine w_ieq 17 15 (by decide +kernel) (fun hz => absurd hz (by decide)) (fun _ => ?_)
          refine w_load (.iload_n 1) 16 (by decide +kernel) rfl rfl ?_
          exact w_ret (by decide +kernel) (hq _ (Or.inl ⟨g1, by omega, rfl, (tb_hb (by omega) (by assumption)), by assumption⟩))
        · skip
          have htr2 := tb_nhb (by omega) hbr2
          refine w_ieq 17 15 (by decide +kernel) (fun _ => ?_) (fun hz => absurd hz (by decide))
          refine w_iincN (z := 1) (g1 + 1) 20 (by decide +kernel) rfl (Nat.le_of_ble_eq_true rfl) rfl rfl ?_
          show Wp _ _ _ [.int a, .int (nI (g1 + 1))] _ _ _ _
          refine w_goto 2 (by decide +kernel) ?_
          exact ih_2 (g1 + 1) (by first | omega | exact lt_ext (by assumption) (tb_nhb (by omega) (by assumption))) (by first | omega | exact lt_ext (by assumption) (tb_nhb (by omega) (by assumption))) (by omega)
  exact LP_2 _ 0 (by first | omega | (intro z hz; omega)) (by first | omega | (intro z hz; omega)) (Nat.lt_succ_self _)
-- X8_act#s
set_option maxRecDepth 10000 in
theorem s_act {d : Nat} {M : Mt} {L : Lt} {Q : Option Value → Mt → Lt → Prop} {lv n dr p : Nat} {s s' : TSt} {a : Int32} {o : Int32} (hI : Inv M) (hlv : lv ≤ 7) (hn : n ≤ 5) (hs : HE n (lvC M lv) s.1 ∧ LQ n (lvL M lv) s.2.1) (hw : wedOk n s.1) (hdr : dr < n) (ho : (o = -9 ∧ s' = fineS s dr) ∨ ∃ z, z < n ∧ o = nI z ∧ s' = actS a p s dr z) (hd : 0 ≤ d) (hq : ∀ (r : Int32) (N : Mt), St (fun i k => (i = 78 ∧ 22 * lv ≤ k ∧ k < 22 * lv + 22)) M N → ((r = 1 ∧ HE n (lvC N lv) s'.1 ∧ LQ n (lvL N lv) s'.2.1 ∧ s'.2.2.1 = s.2.2.1 ∧ s'.2.2.2 = s.2.2.2 ||| bitI p) ∨ (r = 0 ∧ HE n (lvC N lv) s'.1 ∧ LQ n (lvL N lv) s'.2.1 ∧ s'.2.2.1 = s.2.2.1 + nI 1 ∧ s'.2.2.2 = s.2.2.2)) → Q (some (.int r)) N L) : Wp d 156 0 [.ref 76, .int (nI lv), .int a, .int (nI dr), .int o, .null, .null, .null, .null] [] M L Q := by
  refine (show ∀ N : Mt, N = M → St (fun i k => (i = 78 ∧ 22 * lv ≤ k ∧ k < 22 * lv + 22)) M N → Wp d 156 0 [.ref 76, .int (nI lv), .int a, .int (nI dr), .int o, .null, .null, .null, .null] [] N L Q from ?_) M rfl (St.rf hI)
  intro N hNM hS
  refine w_pushN 22 2 (by decide +kernel) ?_
  refine w_load (.iload_n 1) 3 (by decide +kernel) rfl rfl ?_
  refine w_mulN (22 * lv) 4 (by decide +kernel) rfl ?_
  refine w_store (ls' := [.ref 76, .int (nI lv), .int a, .int (nI dr), .int o, .int (nI (22 * lv)), .null, .null, .null]) (.istore 5) 6 (by decide +kernel) rfl rfl ?_
  refine w_load (.iload_n 2) 7 (by decide +kernel) rfl rfl ?_
  refine w_pushN 16 9 (by decide +kernel) ?_
  refine w_div 10 (by decide +kernel) (by decide) ?_
  refine w_topi (fun v1 ev1 => ?_)
  refine w_store (ls' := [.ref 76, .int (nI lv), .int a, .int (nI dr), .int o, .int (nI (22 * lv)), .int v1, .null, .null]) (.istore 6) 12 (by decide +kernel) rfl rfl ?_
  have eK : v1 = kdD a := ev1
  refine w_load (.iload 4) 14 (by decide +kernel) rfl rfl ?_
  refine w_push (-9) 16 (by decide +kernel) ?_
  refine w_ceq 84 19 (by decide +kernel) (fun h2 => ?_) (fun h2 => ?_)
  · skip
    have hs2 : s' = fineS s dr := act_no ho (by omega) h2
    refine w_pushN 0 85 (by decide +kernel) ?_
    refine w_store (ls' := [.ref 76, .int (nI lv), .int a, .int (nI dr), .int o, .int (nI (22 * lv)), .int v1, .int (nI 0), .null]) (.istore 7) 87 (by decide +kernel) rfl rfl ?_
    refine w_load (.iload 7) 89 (by decide +kernel) rfl rfl ?_
    refine w_ine 109 92 (by decide +kernel) (fun hz => absurd hz (by decide)) (fun _ => ?_)
    refine w_load (.aload_n 0) 93 (by decide +kernel) rfl rfl ?_
    refine w_getR (k := 2) (r := 78) 96 (by decide +kernel) sh_76 rfl ?_
    refine w_load (.iload 5) 98 (by decide +kernel) rfl rfl ?_
    refine w_pushN 5 99 (by decide +kernel) ?_
    refine w_addN (22 * lv + 5) 100 (by decide +kernel) (by omega) ?_
    refine w_load (.iload_n 3) 101 (by decide +kernel) rfl rfl ?_
    refine w_addN (22 * lv + 5 + dr) 102 (by decide +kernel) (by omega) ?_
    refine w_pure .dup2 103 (by decide +kernel) rfl rfl ?_
    refine w_ialdN 104 (by decide +kernel) sh_78 (by omega) (by omega) ?_
    refine w_pushN 1 105 (by decide +kernel) ?_
    refine w_pure .isub 106 (by decide +kernel) rfl rfl ?_
    refine w_iastE 107 (by decide +kernel) sh_78 (by omega) (by omega) hS (rg_78 (fun h1 h2 => by first | omega | exact Or.inl rfl | exact Or.inr ⟨_, by omega, rfl⟩ | exact inv_78 hS.1 _ (by omega) (by omega) | exact inv_82 hS.1 _ (by omega) (by omega) | exact inv_89 hS.1 _ (by omega) (by omega))) (by first | exact rfl | omega | (dsimp only; omega) | (simp only [Hs, Tl, Sc, isHs, isScr, isTs] at *; omega)) (fun Nq4 hS hq4 oq4 mq4 => ?_)
    have cRq4 := lvC_up' (lv := lv) (j := 5 + dr) mq4 (by omega)
    rw [rdC (M := N) (lv := lv) (i := 22 * lv + 5 + dr) (j := 5 + dr) (by omega)] at cRq4
    have lLq4 := lvL_ne' (lv := lv) mq4 (by omega)
    refine w_pushN 0 108 (by decide +kernel) ?_
    exact w_retZ (by decide +kernel) (Or.inl rfl) (hq _ Nq4 hS (by rw [show s' = fineS s dr from hs2]; exact Or.inr ⟨rfl, by rw [cRq4, hNM]; exact hs.1.fine hdr, by rw [lLq4, hNM]; exact hs.2, rfl, rfl⟩))
  · skip
    obtain ⟨oz, hoz, rfl, hs2⟩ := act_yes ho h2
    refine w_load (.iload 6) 21 (by decide +kernel) rfl rfl ?_
    refine w_pushN 1 22 (by decide +kernel) ?_
    refine w_cne 60 25 (by decide +kernel) (fun h5 => ?_) (fun h5 => ?_)
    · skip
      refine w_load (.iload 6) 62 (by decide +kernel) rfl rfl ?_
      refine w_pushN 2 63 (by decide +kernel) ?_
      refine w_cne 80 66 (by decide +kernel) (fun h6 => ?_) (fun h6 => ?_)
      · skip
        refine w_pushN 1 81 (by decide +kernel) ?_
        refine w_goto 85 (by decide +kernel) ?_
        refine w_store (ls' := [.ref 76, .int (nI lv), .int a, .int (nI dr), .int (nI oz), .int (nI (22 * lv)), .int v1, .int (nI 1), .null]) (.istore 7) 87 (by decide +kernel) rfl rfl ?_
        refine w_load (.iload 7) 89 (by decide +kernel) rfl rfl ?_
        refine w_ine 109 92 (by decide +kernel) (fun _ => ?_) (fun hz => absurd hz (by decide))
        refine w_load (.aload_n 0) 110 (by decide +kernel) rfl rfl ?_
        refine w_getR (k := 2) (r := 78) 113 (by decide +kernel) sh_76 rfl ?_
        refine w_load (.iload 5) 115 (by decide +kernel) rfl rfl ?_
        refine w_pushN 17 117 (by decide +kernel) ?_
        refine w_addN (22 * lv + 17) 118 (by decide +kernel) (by omega) ?_
        refine w_load (.iload_n 3) 119 (by decide +kernel) rfl rfl ?_
        refine w_addN (22 * lv + 17 + dr) 120 (by decide +kernel) (by omega) ?_
        refine w_pure .dup2 121 (by decide +kernel) rfl rfl ?_
        refine w_ialdN 122 (by decide +kernel) sh_78 (by omega) (by omega) ?_
        refine w_pushN 1 123 (by decide +kernel) ?_
        refine w_pure .isub 124 (by decide +kernel) rfl rfl ?_
        refine w_iastE 125 (by decide +kernel) sh_78 (by omega) (by omega) hS (rg_78 (fun h1 h2 => by first | omega | exact Or.inl rfl | exact Or.inr ⟨_, by omega, rfl⟩ | exact inv_78 hS.1 _ (by omega) (by omega) | exact inv_82 hS.1 _ (by omega) (by omega) | exact inv_89 hS.1 _ (by omega) (by omega))) (by first | exact rfl | omega | (dsimp only; omega) | (simp only [Hs, Tl, Sc, isHs, isScr, isTs] at *; omega)) (fun Nq8 hS hq8 oq8 mq8 => ?_)
        have cRq8 := lvC_up' (lv := lv) (j := 17 + dr) mq8 (by omega)
        have lLq8 := lvL_up' (lv := lv) (j := dr) mq8 (by omega)
        have cRLEFT := cRq8
        refine w_load (.iload 6) 127 (by decide +kernel) rfl rfl ?_
        refine w_ine 204 130 (by decide +kernel) (fun h9 => ?_) (fun h9 => ?_)
        · skip
          refine w_load (.iload 6) 206 (by decide +kernel) rfl rfl ?_
          refine w_pushN 1 207 (by decide +kernel) ?_
          refine w_cne 241 210 (by decide +kernel) (fun h10 => ?_) (fun h10 => ?_)
          · skip
            refine w_load (.iload 6) 243 (by decide +kernel) rfl rfl ?_
            refine w_pushN 2 244 (by decide +kernel) ?_
            refine w_cne 281 247 (by decide +kernel) (fun h11 => ?_) (fun h11 => ?_)
            · skip
              refine w_load (.aload_n 0) 282 (by decide +kernel) rfl rfl ?_
              refine w_getR (k := 2) (r := 78) 285 (by decide +kernel) sh_76 rfl ?_
              refine w_load (.iload 5) 287 (by decide +kernel) rfl rfl ?_
              refine w_load (.iload_n 3) 288 (by decide +kernel) rfl rfl ?_
              refine w_addN (22 * lv + dr) 289 (by decide +kernel) (by omega) ?_
              refine w_load (.iload_n 2) 290 (by decide +kernel) rfl rfl ?_
              refine w_pushN 4 291 (by decide +kernel) ?_
              refine w_rem 292 (by decide +kernel) (by decide) ?_
              refine w_iastE 293 (by decide +kernel) sh_78 (by omega) (by omega) hS (rg_78 (fun h1 h2 => by first | omega | exact Or.inl rfl | exact Or.inr ⟨_, by omega, rfl⟩ | exact inv_78 hS.1 _ (by omega) (by omega) | exact inv_82 hS.1 _ (by omega) (by omega) | exact inv_89 hS.1 _ (by omega) (by omega))) (by first | exact rfl | omega | (dsimp only; omega) | (simp only [Hs, Tl, Sc, isHs, isScr, isTs] at *; omega)) (fun Nq12 hS hq12 oq12 mq12 => ?_)
              have cRq12 := lvC_up' (lv := lv) (j := dr) mq12 (by omega)
              have lLq12 := lvL_ne' (lv := lv) mq12 (by omega)
              refine w_pushN 1 294 (by decide +kernel) ?_
              exact w_retZ (by decide +kernel) (Or.inr rfl) (hq _ Nq12 hS (by rw [show s' = _ from (hs2.trans (act_d3 (fun hz => h9 (eK.trans hz)) (fun hz => h10 (eK.trans hz)) (fun hz => h11 (eK.trans hz))))]; exact Or.inl ⟨rfl, by rw [cRq12, cRq8, hNM]; exact (hs.1.hi (by omega) hn).up _ rfl, by rw [lLq12, lLq8, hNM]; exact hs.2.up _ (by rw [← hs.2 dr hdr]; rfl), rfl, rfl⟩))
            · skip
              exact absurd h11 h6
          · skip
            exact absurd h10 h5
        · skip
          refine w_load (.aload_n 0) 131 (by decide +kernel) rfl rfl ?_
          refine w_getR (k := 2) (r := 78) 134 (by decide +kernel) sh_76 rfl ?_
          refine w_load (.iload 5) 136 (by decide +kernel) rfl rfl ?_
          refine w_pushN 10 138 (by decide +kernel) ?_
          refine w_addN (22 * lv + 10) 139 (by decide +kernel) (by omega) ?_
          refine w_load (.iload 4) 141 (by decide +kernel) rfl rfl ?_
          refine w_addN (22 * lv + 10 + oz) 142 (by decide +kernel) (by omega) ?_
          refine w_ialdN 143 (by decide +kernel) sh_78 (by omega) (by omega) ?_
          refine w_topi (fun v13 ev13 => ?_)
          refine w_store (ls' := [.ref 76, .int (nI lv), .int a, .int (nI dr), .int (nI oz), .int (nI (22 * lv)), .int v1, .int (nI 1), .int v13]) (.istore 8) 145 (by decide +kernel) rfl rfl ?_
          have ewd : wedv v13 := by rw [ev13]; exact inv_78 hS.1 _ (by omega) (by omega)
          have ewr : lvC N lv (10 + oz) = v13 := (act_rd cRLEFT ev13 (by omega)).symm
          have ewd2 : v13 = -9 ∨ ∃ k, k < n ∧ v13 = nI k := by rw [← ewr, hNM, (hs.1.1 oz hoz).2.2]; exact hw oz hoz
          refine w_load (.aload_n 0) 146 (by decide +kernel) rfl rfl ?_
          refine w_getR (k := 2) (r := 78) 149 (by decide +kernel) sh_76 rfl ?_
          refine w_load (.iload 5) 151 (by decide +kernel) rfl rfl ?_
          refine w_pushN 15 153 (by decide +kernel) ?_
          refine w_addN (22 * lv + 15) 154 (by decide +kernel) (by omega) ?_
          refine w_pure .dup2 155 (by decide +kernel) rfl rfl ?_
          refine w_ialdN 156 (by decide +kernel) sh_78 (by omega) (by omega) ?_
          refine w_pushN 1 157 (by decide +kernel) ?_
          refine w_load (.iload 4) 159 (by decide +kernel) rfl rfl ?_
          refine w_pure .ishl 160 (by decide +kernel) rfl rfl ?_
          refine w_push (-1) 161 (by decide +kernel) ?_
          refine w_pure .ixor 162 (by decide +kernel) rfl rfl ?_
          refine w_pure .iand 163 (by decide +kernel) rfl rfl ?_
          refine w_iastE 164 (by decide +kernel) sh_78 (by omega) (by omega) hS (rg_78 (fun h1 h2 => by first | omega | exact Or.inl rfl | exact Or.inr ⟨_, by omega, rfl⟩ | exact inv_78 hS.1 _ (by omega) (by omega) | exact inv_82 hS.1 _ (by omega) (by omega) | exact inv_89 hS.1 _ (by omega) (by omega))) (by first | exact rfl | omega | (dsimp only; omega) | (simp only [Hs, Tl, Sc, isHs, isScr, isTs] at *; omega)) (fun Nq14 hS hq14 oq14 mq14 => ?_)
          have cRq14 := lvC_up' (lv := lv) (j := 15) mq14 (by omega)
          rw [rdC (M := Nq8) (lv := lv) (i := 22 * lv + 15) (j := 15) (by omega)] at cRq14
          have lLq14 := lvL_ne' (lv := lv) mq14 (by omega)
          refine w_load (.aload_n 0) 165 (by decide +kernel) rfl rfl ?_
          refine w_getR (k := 2) (r := 78) 168 (by decide +kernel) sh_76 rfl ?_
          refine w_load (.iload 5) 170 (by decide +kernel) rfl rfl ?_
          refine w_pushN 10 172 (by decide +kernel) ?_
          refine w_addN (22 * lv + 10) 173 (by decide +kernel) (by omega) ?_
          refine w_load (.iload 4) 175 (by decide +kernel) rfl rfl ?_
          refine w_addN (22 * lv + 10 + oz) 176 (by decide +kernel) (by omega) ?_
          refine w_push (-9) 178 (by decide +kernel) ?_
          refine w_iastE 179 (by decide +kernel) sh_78 (by omega) (by omega) hS (rg_78 (fun h1 h2 => by first | omega | exact Or.inl rfl | exact Or.inr ⟨_, by omega, rfl⟩ | exact inv_78 hS.1 _ (by omega) (by omega) | exact inv_82 hS.1 _ (by omega) (by omega) | exact inv_89 hS.1 _ (by omega) (by omega))) (by first | exact rfl | omega | (dsimp only; omega) | (simp only [Hs, Tl, Sc, isHs, isScr, isTs] at *; omega)) (fun Nq15 hS hq15 oq15 mq15 => ?_)
          have cRq15 := lvC_up' (lv := lv) (j := 10 + oz) mq15 (by omega)
          have lLq15 := lvL_ne' (lv := lv) mq15 (by omega)
          refine w_load (.iload 8) 181 (by decide +kernel) rfl rfl ?_
          refine w_push (-9) 183 (by decide +kernel) ?_
          refine w_ceq 201 186 (by decide +kernel) (fun h16 => ?_) (fun h16 => ?_)
          · skip
            refine w_goto 293 (by decide +kernel) ?_
            refine w_pushN 1 294 (by decide +kernel) ?_
            exact w_retZ (by decide +kernel) (Or.inr rfl) (hq _ Nq15 hS (by rw [show s' = _ from (hs2.trans (act_d0 (eK.symm.trans h9)))]; exact Or.inl ⟨rfl, by rw [cRq15, cRq14, cRq8, hNM]; exact (buryR_out hn hoz (by rw [← hNM]; exact ewr.trans h16)).tr (hs.1.bury hoz), by rw [lLq15, lLq14, lLq8, hNM]; exact hs.2.up _ (by rw [← hs.2 dr hdr]; rfl), rfl, rfl⟩))
          · skip
            obtain ⟨kw, hkw, hxw⟩ := (ewd2 : v13 = -9 ∨ ∃ k, k < n ∧ v13 = nI k).resolve_left h16
            rw [hxw]
            refine w_load (.aload_n 0) 187 (by decide +kernel) rfl rfl ?_
            refine w_getR (k := 2) (r := 78) 190 (by decide +kernel) sh_76 rfl ?_
            refine w_load (.iload 5) 192 (by decide +kernel) rfl rfl ?_
            refine w_pushN 10 194 (by decide +kernel) ?_
            refine w_addN (22 * lv + 10) 195 (by decide +kernel) (by omega) ?_
            refine w_load (.iload 8) 197 (by decide +kernel) rfl rfl ?_
            refine w_addN (22 * lv + 10 + kw) 198 (by decide +kernel) (by omega) ?_
            refine w_push (-9) 200 (by decide +kernel) ?_
            refine w_iastE 201 (by decide +kernel) sh_78 (by omega) (by omega) hS (rg_78 (fun h1 h2 => by first | omega | exact Or.inl rfl | exact Or.inr ⟨_, by omega, rfl⟩ | exact inv_78 hS.1 _ (by omega) (by omega) | exact inv_82 hS.1 _ (by omega) (by omega) | exact inv_89 hS.1 _ (by omega) (by omega))) (by first | exact rfl | omega | (dsimp only; omega) | (simp only [Hs, Tl, Sc, isHs, isScr, isTs] at *; omega)) (fun Nq17 hS hq17 oq17 mq17 => ?_)
            have cRq17 := lvC_up' (lv := lv) (j := 10 + kw) mq17 (by omega)
            have lLq17 := lvL_ne' (lv := lv) mq17 (by omega)
            refine w_goto 293 (by decide +kernel) ?_
            refine w_pushN 1 294 (by decide +kernel) ?_
            exact w_retZ (by decide +kernel) (Or.inr rfl) (hq _ Nq17 hS (by rw [show s' = _ from (hs2.trans (act_d0 (eK.symm.trans h9)))]; exact Or.inl ⟨rfl, by rw [cRq17, cRq15, cRq14, cRq8, hNM]; exact (buryR_in hn hoz hkw (by rw [← hNM]; exact ewr.trans hxw)).tr (hs.1.bury hoz), by rw [lLq17, lLq15, lLq14, lLq8, hNM]; exact hs.2.up _ (by rw [← hs.2 dr hdr]; rfl), rfl, rfl⟩))
      · skip
        refine w_load (.aload_n 0) 67 (by decide +kernel) rfl rfl ?_
        refine w_getR (k := 2) (r := 78) 70 (by decide +kernel) sh_76 rfl ?_
        refine w_load (.iload 5) 72 (by decide +kernel) rfl rfl ?_
        refine w_pushN 5 73 (by decide +kernel) ?_
        refine w_addN (22 * lv + 5) 74 (by decide +kernel) (by omega) ?_
        refine w_load (.iload_n 3) 75 (by decide +kernel) rfl rfl ?_
        refine w_addN (22 * lv + 5 + dr) 76 (by decide +kernel) (by omega) ?_
        refine w_ialdN 77 (by decide +kernel) sh_78 (by omega) (by omega) ?_
        refine w_ile 84 80 (by decide +kernel) (fun h18 => ?_) (fun h18 => ?_)
        · skip
          refine w_pushN 0 85 (by decide +kernel) ?_
          refine w_store (ls' := [.ref 76, .int (nI lv), .int a, .int (nI dr), .int (nI oz), .int (nI (22 * lv)), .int v1, .int (nI 0), .null]) (.istore 7) 87 (by decide +kernel) rfl rfl ?_
          refine w_load (.iload 7) 89 (by decide +kernel) rfl rfl ?_
          refine w_ine 109 92 (by decide +kernel) (fun hz => absurd hz (by decide)) (fun _ => ?_)
          refine w_load (.aload_n 0) 93 (by decide +kernel) rfl rfl ?_
          refine w_getR (k := 2) (r := 78) 96 (by decide +kernel) sh_76 rfl ?_
          refine w_load (.iload 5) 98 (by decide +kernel) rfl rfl ?_
          refine w_pushN 5 99 (by decide +kernel) ?_
          refine w_addN (22 * lv + 5) 100 (by decide +kernel) (by omega) ?_
          refine w_load (.iload_n 3) 101 (by decide +kernel) rfl rfl ?_
          refine w_addN (22 * lv + 5 + dr) 102 (by decide +kernel) (by omega) ?_
          refine w_pure .dup2 103 (by decide +kernel) rfl rfl ?_
          refine w_ialdN 104 (by decide +kernel) sh_78 (by omega) (by omega) ?_
          refine w_pushN 1 105 (by decide +kernel) ?_
          refine w_pure .isub 106 (by decide +kernel) rfl rfl ?_
          refine w_iastE 107 (by decide +kernel) sh_78 (by omega) (by omega) hS (rg_78 (fun h1 h2 => by first | omega | exact Or.inl rfl | exact Or.inr ⟨_, by omega, rfl⟩ | exact inv_78 hS.1 _ (by omega) (by omega) | exact inv_82 hS.1 _ (by omega) (by omega) | exact inv_89 hS.1 _ (by omega) (by omega))) (by first | exact rfl | omega | (dsimp only; omega) | (simp only [Hs, Tl, Sc, isHs, isScr, isTs] at *; omega)) (fun Nq20 hS hq20 oq20 mq20 => ?_)
          have cRq20 := lvC_up' (lv := lv) (j := 5 + dr) mq20 (by omega)
          rw [rdC (M := N) (lv := lv) (i := 22 * lv + 5 + dr) (j := 5 + dr) (by omega)] at cRq20
          have lLq20 := lvL_ne' (lv := lv) mq20 (by omega)
          refine w_pushN 0 108 (by decide +kernel) ?_
          exact w_retZ (by decide +kernel) (Or.inl rfl) (hq _ Nq20 hS (by rw [show s' = fineS s dr from (hs2.trans (act_f2 (eK.symm.trans h6) (by rw [← (hs.1.1 dr hdr).2.1, ← hNM, ← rdC (M := N) (lv := lv) (i := 22 * lv + 5 + dr) (j := 5 + dr) (by omega)]; exact ngt_of (by assumption))))]; exact Or.inr ⟨rfl, by rw [cRq20, hNM]; exact hs.1.fine hdr, by rw [lLq20, hNM]; exact hs.2, rfl, rfl⟩))
        · skip
          refine w_pushN 1 81 (by decide +kernel) ?_
          refine w_goto 85 (by decide +kernel) ?_
          refine w_store (ls' := [.ref 76, .int (nI lv), .int a, .int (nI dr), .int (nI oz), .int (nI (22 * lv)), .int v1, .int (nI 1), .null]) (.istore 7) 87 (by decide +kernel) rfl rfl ?_
          refine w_load (.iload 7) 89 (by decide +kernel) rfl rfl ?_
          refine w_ine 109 92 (by decide +kernel) (fun _ => ?_) (fun hz => absurd hz (by decide))
          refine w_load (.aload_n 0) 110 (by decide +kernel) rfl rfl ?_
          refine w_getR (k := 2) (r := 78) 113 (by decide +kernel) sh_76 rfl ?_
          refine w_load (.iload 5) 115 (by decide +kernel) rfl rfl ?_
          refine w_pushN 17 117 (by decide +kernel) ?_
          refine w_addN (22 * lv + 17) 118 (by decide +kernel) (by omega) ?_
          refine w_load (.iload_n 3) 119 (by decide +kernel) rfl rfl ?_
          refine w_addN (22 * lv + 17 + dr) 120 (by decide +kernel) (by omega) ?_
          refine w_pure .dup2 121 (by decide +kernel) rfl rfl ?_
          refine w_ialdN 122 (by decide +kernel) sh_78 (by omega) (by omega) ?_
          refine w_pushN 1 123 (by decide +kernel) ?_
          refine w_pure .isub 124 (by decide +kernel) rfl rfl ?_
          refine w_iastE 125 (by decide +kernel) sh_78 (by omega) (by omega) hS (rg_78 (fun h1 h2 => by first | omega | exact Or.inl rfl | exact Or.inr ⟨_, by omega, rfl⟩ | exact inv_78 hS.1 _ (by omega) (by omega) | exact inv_82 hS.1 _ (by omega) (by omega) | exact inv_89 hS.1 _ (by omega) (by omega))) (by first | exact rfl | omega | (dsimp only; omega) | (simp only [Hs, Tl, Sc, isHs, isScr, isTs] at *; omega)) (fun Nq22 hS hq22 oq22 mq22 => ?_)
          have cRq22 := lvC_up' (lv := lv) (j := 17 + dr) mq22 (by omega)
          have lLq22 := lvL_up' (lv := lv) (j := dr) mq22 (by omega)
          have cRLEFT := cRq22
          refine w_load (.iload 6) 127 (by decide +kernel) rfl rfl ?_
          refine w_ine 204 130 (by decide +kernel) (fun h23 => ?_) (fun h23 => ?_)
          · skip
            refine w_load (.iload 6) 206 (by decide +kernel) rfl rfl ?_
            refine w_pushN 1 207 (by decide +kernel) ?_
            refine w_cne 241 210 (by decide +kernel) (fun h24 => ?_) (fun h24 => ?_)
            · skip
              refine w_load (.iload 6) 243 (by decide +kernel) rfl rfl ?_
              refine w_pushN 2 244 (by decide +kernel) ?_
              refine w_cne 281 247 (by decide +kernel) (fun h25 => ?_) (fun h25 => ?_)
              · skip
                exact absurd h6 h25
              · skip
                refine w_load (.aload_n 0) 248 (by decide +kernel) rfl rfl ?_
                refine w_getR (k := 2) (r := 78) 251 (by decide +kernel) sh_76 rfl ?_
                refine w_load (.iload 5) 253 (by decide +kernel) rfl rfl ?_
                refine w_pushN 5 254 (by decide +kernel) ?_
                refine w_addN (22 * lv + 5) 255 (by decide +kernel) (by omega) ?_
                refine w_load (.iload_n 3) 256 (by decide +kernel) rfl rfl ?_
                refine w_addN (22 * lv + 5 + dr) 257 (by decide +kernel) (by omega) ?_
                refine w_pure .dup2 258 (by decide +kernel) rfl rfl ?_
                refine w_ialdN 259 (by decide +kernel) sh_78 (by omega) (by omega) ?_
                refine w_pushN 1 260 (by decide +kernel) ?_
                refine w_pure .isub 261 (by decide +kernel) rfl rfl ?_
                refine w_iastE 262 (by decide +kernel) sh_78 (by omega) (by omega) hS (rg_78 (fun h1 h2 => by first | omega | exact Or.inl rfl | exact Or.inr ⟨_, by omega, rfl⟩ | exact inv_78 hS.1 _ (by omega) (by omega) | exact inv_82 hS.1 _ (by omega) (by omega) | exact inv_89 hS.1 _ (by omega) (by omega))) (by first | exact rfl | omega | (dsimp only; omega) | (simp only [Hs, Tl, Sc, isHs, isScr, isTs] at *; omega)) (fun Nq26 hS hq26 oq26 mq26 => ?_)
                have cRq26 := lvC_up' (lv := lv) (j := 5 + dr) mq26 (by omega)
                rw [rdC (M := Nq22) (lv := lv) (i := 22 * lv + 5 + dr) (j := 5 + dr) (by omega)] at cRq26
                have lLq26 := lvL_ne' (lv := lv) mq26 (by omega)
                refine w_load (.aload_n 0) 263 (by decide +kernel) rfl rfl ?_
                refine w_getR (k := 2) (r := 78) 266 (by decide +kernel) sh_76 rfl ?_
                refine w_load (.iload 5) 268 (by decide +kernel) rfl rfl ?_
                refine w_pushN 5 269 (by decide +kernel) ?_
                refine w_addN (22 * lv + 5) 270 (by decide +kernel) (by omega) ?_
                refine w_load (.iload 4) 272 (by decide +kernel) rfl rfl ?_
                refine w_addN (22 * lv + 5 + oz) 273 (by decide +kernel) (by omega) ?_
                refine w_pure .dup2 274 (by decide +kernel) rfl rfl ?_
                refine w_ialdN 275 (by decide +kernel) sh_78 (by omega) (by omega) ?_
                refine w_pushN 1 276 (by decide +kernel) ?_
                refine w_pure .iadd 277 (by decide +kernel) rfl rfl ?_
                refine w_iastE 278 (by decide +kernel) sh_78 (by omega) (by omega) hS (rg_78 (fun h1 h2 => by first | omega | exact Or.inl rfl | exact Or.inr ⟨_, by omega, rfl⟩ | exact inv_78 hS.1 _ (by omega) (by omega) | exact inv_82 hS.1 _ (by omega) (by omega) | exact inv_89 hS.1 _ (by omega) (by omega))) (by first | exact rfl | omega | (dsimp only; omega) | (simp only [Hs, Tl, Sc, isHs, isScr, isTs] at *; omega)) (fun Nq27 hS hq27 oq27 mq27 => ?_)
                have cRq27 := lvC_up' (lv := lv) (j := 5 + oz) mq27 (by omega)
                rw [rdC (M := Nq26) (lv := lv) (i := 22 * lv + 5 + oz) (j := 5 + oz) (by omega)] at cRq27
                have lLq27 := lvL_ne' (lv := lv) mq27 (by omega)
                refine w_goto 293 (by decide +kernel) ?_
                refine w_pushN 1 294 (by decide +kernel) ?_
                exact w_retZ (by decide +kernel) (Or.inr rfl) (hq _ Nq27 hS (by rw [show s' = _ from (hs2.trans (act_d2 (eK.symm.trans h25) (by rw [← (hs.1.1 dr hdr).2.1, ← hNM, ← rdC (M := N) (lv := lv) (i := 22 * lv + 5 + dr) (j := 5 + dr) (by omega)]; exact gt_of (by assumption))))]; exact Or.inl ⟨rfl, by rw [cRq27, cRq26, cRq22, hNM]; exact (hs.1.hi (by omega) hn).give hdr hoz, by rw [lLq27, lLq26, lLq22, hNM]; exact hs.2.up _ (by rw [← hs.2 dr hdr]; rfl), rfl, rfl⟩))
            · skip
              exact absurd ((h6).symm.trans h24) (by decide)
          · skip
            exact absurd ((h6).symm.trans h23) (by decide)
    · skip
      refine w_load (.aload_n 0) 26 (by decide +kernel) rfl rfl ?_
      refine w_getR (k := 2) (r := 78) 29 (by decide +kernel) sh_76 rfl ?_
      refine w_load (.iload 5) 31 (by decide +kernel) rfl rfl ?_
      refine w_pushN 10 33 (by decide +kernel) ?_
      refine w_addN (22 * lv + 10) 34 (by decide +kernel) (by omega) ?_
      refine w_load (.iload_n 3) 35 (by decide +kernel) rfl rfl ?_
      refine w_addN (22 * lv + 10 + dr) 36 (by decide +kernel) (by omega) ?_
      refine w_ialdN 37 (by decide +kernel) sh_78 (by omega) (by omega) ?_
      refine w_push (-9) 39 (by decide +kernel) ?_
      refine w_cne 84 42 (by decide +kernel) (fun h28 => ?_) (fun h28 => ?_)
      · skip
        refine w_pushN 0 85 (by decide +kernel) ?_
        refine w_store (ls' := [.ref 76, .int (nI lv), .int a, .int (nI dr), .int (nI oz), .int (nI (22 * lv)), .int v1, .int (nI 0), .null]) (.istore 7) 87 (by decide +kernel) rfl rfl ?_
        refine w_load (.iload 7) 89 (by decide +kernel) rfl rfl ?_
        refine w_ine 109 92 (by decide +kernel) (fun hz => absurd hz (by decide)) (fun _ => ?_)
        refine w_load (.aload_n 0) 93 (by decide +kernel) rfl rfl ?_
        refine w_getR (k := 2) (r := 78) 96 (by decide +kernel) sh_76 rfl ?_
        refine w_load (.iload 5) 98 (by decide +kernel) rfl rfl ?_
        refine w_pushN 5 99 (by decide +kernel) ?_
        refine w_addN (22 * lv + 5) 100 (by decide +kernel) (by omega) ?_
        refine w_load (.iload_n 3) 101 (by decide +kernel) rfl rfl ?_
        refine w_addN (22 * lv + 5 + dr) 102 (by decide +kernel) (by omega) ?_
        refine w_pure .dup2 103 (by decide +kernel) rfl rfl ?_
        refine w_ialdN 104 (by decide +kernel) sh_78 (by omega) (by omega) ?_
        refine w_pushN 1 105 (by decide +kernel) ?_
        refine w_pure .isub 106 (by decide +kernel) rfl rfl ?_
        refine w_iastE 107 (by decide +kernel) sh_78 (by omega) (by omega) hS (rg_78 (fun h1 h2 => by first | omega | exact Or.inl rfl | exact Or.inr ⟨_, by omega, rfl⟩ | exact inv_78 hS.1 _ (by omega) (by omega) | exact inv_82 hS.1 _ (by omega) (by omega) | exact inv_89 hS.1 _ (by omega) (by omega))) (by first | exact rfl | omega | (dsimp only; omega) | (simp only [Hs, Tl, Sc, isHs, isScr, isTs] at *; omega)) (fun Nq30 hS hq30 oq30 mq30 => ?_)
        have cRq30 := lvC_up' (lv := lv) (j := 5 + dr) mq30 (by omega)
        rw [rdC (M := N) (lv := lv) (i := 22 * lv + 5 + dr) (j := 5 + dr) (by omega)] at cRq30
        have lLq30 := lvL_ne' (lv := lv) mq30 (by omega)
        refine w_pushN 0 108 (by decide +kernel) ?_
        exact w_retZ (by decide +kernel) (Or.inl rfl) (hq _ Nq30 hS (by rw [show s' = fineS s dr from (hs2.trans (act_f1 (eK.symm.trans h5) (fun hz => by first | exact absurd hz.1 (by rw [← (hs.1.1 dr hdr).2.2, ← hNM, ← rdC (M := N) (lv := lv) (i := 22 * lv + 10 + dr) (j := 10 + dr) (by omega)]; assumption) | exact absurd hz.2 (by rw [← (hs.1.1 oz hoz).2.2, ← hNM, ← rdC (M := N) (lv := lv) (i := 22 * lv + 10 + oz) (j := 10 + oz) (by omega)]; assumption))))]; exact Or.inr ⟨rfl, by rw [cRq30, hNM]; exact hs.1.fine hdr, by rw [lLq30, hNM]; exact hs.2, rfl, rfl⟩))
      · skip
        refine w_load (.aload_n 0) 43 (by decide +kernel) rfl rfl ?_
        refine w_getR (k := 2) (r := 78) 46 (by decide +kernel) sh_76 rfl ?_
        refine w_load (.iload 5) 48 (by decide +kernel) rfl rfl ?_
        refine w_pushN 10 50 (by decide +kernel) ?_
        refine w_addN (22 * lv + 10) 51 (by decide +kernel) (by omega) ?_
        refine w_load (.iload 4) 53 (by decide +kernel) rfl rfl ?_
        refine w_addN (22 * lv + 10 + oz) 54 (by decide +kernel) (by omega) ?_
        refine w_ialdN 55 (by decide +kernel) sh_78 (by omega) (by omega) ?_
        refine w_push (-9) 57 (by decide +kernel) ?_
        refine w_cne 84 60 (by decide +kernel) (fun h31 => ?_) (fun h31 => ?_)
        · skip
          refine w_pushN 0 85 (by decide +kernel) ?_
          refine w_store (ls' := [.ref 76, .int (nI lv), .int a, .int (nI dr), .int (nI oz), .int (nI (22 * lv)), .int v1, .int (nI 0), .null]) (.istore 7) 87 (by decide +kernel) rfl rfl ?_
          refine w_load (.iload 7) 89 (by decide +kernel) rfl rfl ?_
          refine w_ine 109 92 (by decide +kernel) (fun hz => absurd hz (by decide)) (fun _ => ?_)
          refine w_load (.aload_n 0) 93 (by decide +kernel) rfl rfl ?_
          refine w_getR (k := 2) (r := 78) 96 (by decide +kernel) sh_76 rfl ?_
          refine w_load (.iload 5) 98 (by decide +kernel) rfl rfl ?_
          refine w_pushN 5 99 (by decide +kernel) ?_
          refine w_addN (22 * lv + 5) 100 (by decide +kernel) (by omega) ?_
          refine w_load (.iload_n 3) 101 (by decide +kernel) rfl rfl ?_
          refine w_addN (22 * lv + 5 + dr) 102 (by decide +kernel) (by omega) ?_
          refine w_pure .dup2 103 (by decide +kernel) rfl rfl ?_
          refine w_ialdN 104 (by decide +kernel) sh_78 (by omega) (by omega) ?_
          refine w_pushN 1 105 (by decide +kernel) ?_
          refine w_pure .isub 106 (by decide +kernel) rfl rfl ?_
          refine w_iastE 107 (by decide +kernel) sh_78 (by omega) (by omega) hS (rg_78 (fun h1 h2 => by first | omega | exact Or.inl rfl | exact Or.inr ⟨_, by omega, rfl⟩ | exact inv_78 hS.1 _ (by omega) (by omega) | exact inv_82 hS.1 _ (by omega) (by omega) | exact inv_89 hS.1 _ (by omega) (by omega))) (by first | exact rfl | omega | (dsimp only; omega) | (simp only [Hs, Tl, Sc, isHs, isScr, isTs] at *; omega)) (fun Nq33 hS hq33 oq33 mq33 => ?_)
          have cRq33 := lvC_up' (lv := lv) (j := 5 + dr) mq33 (by omega)
          rw [rdC (M := N) (lv := lv) (i := 22 * lv + 5 + dr) (j := 5 + dr) (by omega)] at cRq33
          have lLq33 := lvL_ne' (lv := lv) mq33 (by omega)
          refine w_pushN 0 108 (by decide +kernel) ?_
          exact w_retZ (by decide +kernel) (Or.inl rfl) (hq _ Nq33 hS (by rw [show s' = fineS s dr from (hs2.trans (act_f1 (eK.symm.trans h5) (fun hz => by first | exact absurd hz.1 (by rw [← (hs.1.1 dr hdr).2.2, ← hNM, ← rdC (M := N) (lv := lv) (i := 22 * lv + 10 + dr) (j := 10 + dr) (by omega)]; assumption) | exact absurd hz.2 (by rw [← (hs.1.1 oz hoz).2.2, ← hNM, ← rdC (M := N) (lv := lv) (i := 22 * lv + 10 + oz) (j := 10 + oz) (by omega)]; assumption))))]; exact Or.inr ⟨rfl, by rw [cRq33, hNM]; exact hs.1.fine hdr, by rw [lLq33, hNM]; exact hs.2, rfl, rfl⟩))
        · skip
          refine w_load (.iload 6) 62 (by decide +kernel) rfl rfl ?_
          refine w_pushN 2 63 (by decide +kernel) ?_
          refine w_cne 80 66 (by decide +kernel) (fun h34 => ?_) (fun h34 => ?_)
          · skip
            refine w_pushN 1 81 (by decide +kernel) ?_
            refine w_goto 85 (by decide +kernel) ?_
            refine w_store (ls' := [.ref 76, .int (nI lv), .int a, .int (nI dr), .int (nI oz), .int (nI (22 * lv)), .int v1, .int (nI 1), .null]) (.istore 7) 87 (by decide +kernel) rfl rfl ?_
            refine w_load (.iload 7) 89 (by decide +kernel) rfl rfl ?_
            refine w_ine 109 92 (by decide +kernel) (fun _ => ?_) (fun hz => absurd hz (by decide))
            refine w_load (.aload_n 0) 110 (by decide +kernel) rfl rfl ?_
            refine w_getR (k := 2) (r := 78) 113 (by decide +kernel) sh_76 rfl ?_
            refine w_load (.iload 5) 115 (by decide +kernel) rfl rfl ?_
            refine w_pushN 17 117 (by decide +kernel) ?_
            refine w_addN (22 * lv + 17) 118 (by decide +kernel) (by omega) ?_
            refine w_load (.iload_n 3) 119 (by decide +kernel) rfl rfl ?_
            refine w_addN (22 * lv + 17 + dr) 120 (by decide +kernel) (by omega) ?_
            refine w_pure .dup2 121 (by decide +kernel) rfl rfl ?_
            refine w_ialdN 122 (by decide +kernel) sh_78 (by omega) (by omega) ?_
            refine w_pushN 1 123 (by decide +kernel) ?_
            refine w_pure .isub 124 (by decide +kernel) rfl rfl ?_
            refine w_iastE 125 (by decide +kernel) sh_78 (by omega) (by omega) hS (rg_78 (fun h1 h2 => by first | omega | exact Or.inl rfl | exact Or.inr ⟨_, by omega, rfl⟩ | exact inv_78 hS.1 _ (by omega) (by omega) | exact inv_82 hS.1 _ (by omega) (by omega) | exact inv_89 hS.1 _ (by omega) (by omega))) (by first | exact rfl | omega | (dsimp only; omega) | (simp only [Hs, Tl, Sc, isHs, isScr, isTs] at *; omega)) (fun Nq36 hS hq36 oq36 mq36 => ?_)
            have cRq36 := lvC_up' (lv := lv) (j := 17 + dr) mq36 (by omega)
            have lLq36 := lvL_up' (lv := lv) (j := dr) mq36 (by omega)
            have cRLEFT := cRq36
            refine w_load (.iload 6) 127 (by decide +kernel) rfl rfl ?_
            refine w_ine 204 130 (by decide +kernel) (fun h37 => ?_) (fun h37 => ?_)
            · skip
              refine w_load (.iload 6) 206 (by decide +kernel) rfl rfl ?_
              refine w_pushN 1 207 (by decide +kernel) ?_
              refine w_cne 241 210 (by decide +kernel) (fun h38 => ?_) (fun h38 => ?_)
              · skip
                exact absurd h5 h38
              · skip
                refine w_load (.aload_n 0) 211 (by decide +kernel) rfl rfl ?_
                refine w_getR (k := 2) (r := 78) 214 (by decide +kernel) sh_76 rfl ?_
                refine w_load (.iload 5) 216 (by decide +kernel) rfl rfl ?_
                refine w_pushN 10 218 (by decide +kernel) ?_
                refine w_addN (22 * lv + 10) 219 (by decide +kernel) (by omega) ?_
                refine w_load (.iload_n 3) 220 (by decide +kernel) rfl rfl ?_
                refine w_addN (22 * lv + 10 + dr) 221 (by decide +kernel) (by omega) ?_
                refine w_load (.iload 4) 223 (by decide +kernel) rfl rfl ?_
                refine w_iastE 224 (by decide +kernel) sh_78 (by omega) (by omega) hS (rg_78 (fun h1 h2 => by first | omega | exact Or.inl rfl | exact Or.inr ⟨_, by omega, rfl⟩ | exact inv_78 hS.1 _ (by omega) (by omega) | exact inv_82 hS.1 _ (by omega) (by omega) | exact inv_89 hS.1 _ (by omega) (by omega))) (by first | exact rfl | omega | (dsimp only; omega) | (simp only [Hs, Tl, Sc, isHs, isScr, isTs] at *; omega)) (fun Nq39 hS hq39 oq39 mq39 => ?_)
                have cRq39 := lvC_up' (lv := lv) (j := 10 + dr) mq39 (by omega)
                have lLq39 := lvL_ne' (lv := lv) mq39 (by omega)
                refine w_load (.aload_n 0) 225 (by decide +kernel) rfl rfl ?_
                refine w_getR (k := 2) (r := 78) 228 (by decide +kernel) sh_76 rfl ?_
                refine w_load (.iload 5) 230 (by decide +kernel) rfl rfl ?_
                refine w_pushN 10 232 (by decide +kernel) ?_
                refine w_addN (22 * lv + 10) 233 (by decide +kernel) (by omega) ?_
                refine w_load (.iload 4) 235 (by decide +kernel) rfl rfl ?_
                refine w_addN (22 * lv + 10 + oz) 236 (by decide +kernel) (by omega) ?_
                refine w_load (.iload_n 3) 237 (by decide +kernel) rfl rfl ?_
                refine w_iastE 238 (by decide +kernel) sh_78 (by omega) (by omega) hS (rg_78 (fun h1 h2 => by first | omega | exact Or.inl rfl | exact Or.inr ⟨_, by omega, rfl⟩ | exact inv_78 hS.1 _ (by omega) (by omega) | exact inv_82 hS.1 _ (by omega) (by omega) | exact inv_89 hS.1 _ (by omega) (by omega))) (by first | exact rfl | omega | (dsimp only; omega) | (simp only [Hs, Tl, Sc, isHs, isScr, isTs] at *; omega)) (fun Nq40 hS hq40 oq40 mq40 => ?_)
                have cRq40 := lvC_up' (lv := lv) (j := 10 + oz) mq40 (by omega)
                have lLq40 := lvL_ne' (lv := lv) mq40 (by omega)
                refine w_goto 293 (by decide +kernel) ?_
                refine w_pushN 1 294 (by decide +kernel) ?_
                exact w_retZ (by decide +kernel) (Or.inr rfl) (hq _ Nq40 hS (by rw [show s' = _ from (hs2.trans (act_d1 (eK.symm.trans h38) ⟨by rw [← (hs.1.1 dr hdr).2.2, ← hNM, ← rdC (M := N) (lv := lv) (i := 22 * lv + 10 + dr) (j := 10 + dr) (by omega)]; assumption, by rw [← (hs.1.1 oz hoz).2.2, ← hNM, ← rdC (M := N) (lv := lv) (i := 22 * lv + 10 + oz) (j := 10 + oz) (by omega)]; assumption⟩))]; exact Or.inl ⟨rfl, by rw [cRq40, cRq39, cRq36, hNM]; exact (hs.1.hi (by omega) hn).join, by rw [lLq40, lLq39, lLq36, hNM]; exact hs.2.up _ (by rw [← hs.2 dr hdr]; rfl), rfl, rfl⟩))
            · skip
              exact absurd ((h5).symm.trans h37) (by decide)
          · skip
            exact absurd ((h5).symm.trans h34) (by decide)
-- X8_deed#s
set_option maxRecDepth 10000 in
theorem s_deed {d : Nat} {M : Mt} {L : Lt} {Q : Option Value → Mt → Lt → Prop} {lv n p : Nat} {s : TSt} {a : Int32} (hI : Inv M) (hlv : lv ≤ 7) (hn : n ≤ 5) (en : M 76 0 = nI n) (hs : shL n lv M s) (hw : wedOk n s.1) (hd : 2 ≤ d) (hq : ∀ (r : Int32) (N : Mt), St (fun i k => (i = 78 ∧ 22 * lv ≤ k ∧ k < 22 * lv + 22) ∨ (i = 76 ∧ k = 7)) M N → ((r = 1 ∧ shL n lv N (hearF n a p s) ∧ (hearF n a p s).2.2.2 = s.2.2.2 ||| bitI p) ∨ (r = 0 ∧ shL n lv N (hearF n a p s) ∧ (hearF n a p s).2.2.2 = s.2.2.2)) → Q (some (.int r)) N L) : Wp d 157 0 [.ref 76, .int (nI lv), .int a, .null, .null, .null, .null] [] M L Q := by
  refine (show ∀ N : Mt, N = M → St (fun i k => (i = 78 ∧ 22 * lv ≤ k ∧ k < 22 * lv + 22) ∨ (i = 76 ∧ k = 7)) M N → Wp d 157 0 [.ref 76, .int (nI lv), .int a, .null, .null, .null, .null] [] N L Q from ?_) M rfl (St.rf hI)
  intro N hNM hS
  have kz0 : N (76) 0 = nI n := by rw [hNM]; exact en
  have hs0 : shL n lv N s := by rw [hNM]; exact hs
  refine w_load (.aload_n 0) 1 (by decide +kernel) rfl rfl ?_
  refine w_load (.iload_n 1) 2 (by decide +kernel) rfl rfl ?_
  refine w_load (.iload_n 2) 3 (by decide +kernel) rfl rfl ?_
  refine w_pushN 4 4 (by decide +kernel) ?_
  refine w_div 5 (by decide +kernel) (by decide) ?_
  refine w_pushN 4 6 (by decide +kernel) ?_
  refine w_rem 7 (by decide +kernel) (by decide) ?_
  refine w_callV2 152 8 6 10 (by decide +kernel) sh_76 (Nat.le_of_ble_eq_true rfl) rfl rfl (by decide) (by omega) ?_
  refine s_bearsAt hS.1 (by omega) (by omega) kz0 hs0.1 (by omega) (fun r1 hr1 => ?_)
  dsimp only [Option.toList, List.cons_append, List.nil_append]
  rcases hr1 with rfl
  · skip
    refine w_topi (fun v2 ev2 => ?_)
    refine w_store (ls' := [.ref 76, .int (nI lv), .int a, .int v2, .null, .null, .null]) (.istore_n 3) 11 (by decide +kernel) rfl rfl ?_
    have eB : v2 = bears n s.1 (fstD a) := ev2
    have hv5 : is5 v2 := by rw [eB]; exact is5_set hn
    refine w_load (.aload_n 0) 12 (by decide +kernel) rfl rfl ?_
    refine w_load (.iload_n 1) 13 (by decide +kernel) rfl rfl ?_
    refine w_load (.iload_n 3) 14 (by decide +kernel) rfl rfl ?_
    refine w_callV2 155 8 5 17 (by decide +kernel) sh_76 (Nat.le_of_ble_eq_true rfl) rfl rfl (by decide) (by omega) ?_
    refine s_strong hS.1 (by omega) (by omega) kz0 hs0.2.1 (by omega) (fun r3 hr3 => ?_)
    dsimp only [Option.toList, List.cons_append, List.nil_append]
    rcases hr3 with rfl
    · skip
      refine w_topi (fun v4 ev4 => ?_)
      refine w_store (ls' := [.ref 76, .int (nI lv), .int a, .int v2, .int v4, .null, .null]) (.istore 4) 19 (by decide +kernel) rfl rfl ?_
      have eD : v4 = dorI n a s := by rw [ev4, eB]; rfl
      have hv6 : is5 v4 := by rw [eD]; exact is5_dor hn
      refine w_load (.iload 4) 21 (by decide +kernel) rfl rfl ?_
      refine w_ine 60 24 (by decide +kernel) (fun h5 => ?_) (fun h5 => ?_)
      · skip
        refine w_load (.iload 4) 62 (by decide +kernel) rfl rfl ?_
        refine w_callS1 154 2 65 (by decide +kernel) (Nat.le_of_ble_eq_true rfl) rfl (by decide) (by omega) ?_
        refine s_least hS.1  (by omega) (fun r6 hr6 => ?_)
        dsimp only [Option.toList, List.cons_append, List.nil_append]
        rcases hr6 with ⟨kd, hkd, rfl, hLd⟩ | ⟨rfl, hnor6⟩
        · skip
          have hdn : kd < n := dor_lt hn (by rw [← eD]; exact hLd.1)
          refine w_store (ls' := [.ref 76, .int (nI lv), .int a, .int v2, .int v4, .int (nI kd), .null]) (.istore 5) 67 (by decide +kernel) rfl rfl ?_
          refine w_load (.aload_n 0) 68 (by decide +kernel) rfl rfl ?_
          refine w_load (.iload_n 1) 69 (by decide +kernel) rfl rfl ?_
          refine w_load (.iload_n 2) 70 (by decide +kernel) rfl rfl ?_
          refine w_load (.iload 5) 72 (by decide +kernel) rfl rfl ?_
          refine w_load (.aload_n 0) 73 (by decide +kernel) rfl rfl ?_
          refine w_load (.iload_n 1) 74 (by decide +kernel) rfl rfl ?_
          refine w_load (.iload_n 2) 75 (by decide +kernel) rfl rfl ?_
          refine w_pushN 4 76 (by decide +kernel) ?_
          refine w_rem 77 (by decide +kernel) (by decide) ?_
          refine w_callV2 152 8 6 80 (by decide +kernel) sh_76 (Nat.le_of_ble_eq_true rfl) rfl rfl (by decide) (by omega) ?_
          refine s_bearsAt hS.1 (by omega) (by omega) kz0 hs0.1 (by omega) (fun r7 hr7 => ?_)
          dsimp only [Option.toList, List.cons_append, List.nil_append]
          rcases hr7 with rfl
          · skip
            refine w_pushN 1 81 (by decide +kernel) ?_
            refine w_load (.iload 5) 83 (by decide +kernel) rfl rfl ?_
            refine w_pure .ishl 84 (by decide +kernel) rfl rfl ?_
            refine w_push (-1) 85 (by decide +kernel) ?_
            refine w_pure .ixor 86 (by decide +kernel) rfl rfl ?_
            refine w_pure .iand 87 (by decide +kernel) rfl rfl ?_
            refine w_callS1 154 2 90 (by decide +kernel) (Nat.le_of_ble_eq_true rfl) rfl (by decide) (by omega) ?_
            refine s_least hS.1  (by omega) (fun r8 hr8 => ?_)
            dsimp only [Option.toList, List.cons_append, List.nil_append]
            rcases hr8 with ⟨ko, hko, rfl, hLo⟩ | ⟨rfl, hnor8⟩
            · skip
              have hon : ko < n := oth_lt hn hLo.1
              refine w_callV4 156 8 9 93 (by decide +kernel) sh_76 (Nat.le_of_ble_eq_true rfl) rfl rfl rfl rfl (by decide) (by omega) ?_
              refine s_act (p := p) hS.1 (by omega) (by omega) ⟨by rw [hNM]; exact hs.1, by rw [hNM]; exact hs.2.1⟩ hw hdn (Or.inr ⟨_, hon, rfl, rfl⟩) (by omega) (fun r9 Nr9 hTr9 hr9 => ?_)
              have kn10 := (hTr9.2 (76) 0 (by (try dsimp only); first | omega | (simp only [Hs, Tl, Sc, isHs, isScr, isTs] at *; omega))).trans kz0
              have hS := hS.tr hTr9 (by intro i k; first | exact rfl | exact fun h => h.elim | omega | (dsimp only; omega) | (simp only [Hs, Tl, Sc, isHs, isScr, isTs] at *; omega))
              dsimp only [Option.toList, List.cons_append, List.nil_append]
              rcases hr9 with ⟨rfl, hAr9, hBr9, hCr9, hDr9⟩ | ⟨rfl, hAr9, hBr9, hCr9, hDr9⟩
              · skip
                refine w_store (ls' := [.ref 76, .int (nI lv), .int a, .int v2, .int v4, .int (nI kd), .int (1)]) (.istore 6) 95 (by decide +kernel) rfl rfl ?_
                refine w_load (.aload_n 0) 96 (by decide +kernel) rfl rfl ?_
                refine w_pure .dup 97 (by decide +kernel) rfl rfl ?_
                refine w_getI (k := 7) 100 (by decide +kernel) sh_76 rfl ?_
                refine w_load (.iload 6) 102 (by decide +kernel) rfl rfl ?_
                refine w_ieq 109 105 (by decide +kernel) (fun hz => absurd hz (by decide)) (fun _ => ?_)
                refine w_pushN 0 106 (by decide +kernel) ?_
                refine w_goto 110 (by decide +kernel) ?_
                refine w_pure .iadd 111 (by decide +kernel) rfl rfl ?_
                refine w_putE (k := 7) 114 (by decide +kernel) sh_76 rfl hS (rg_76 (by decide)) (by first | exact rfl | omega | (dsimp only; omega) | (simp only [Hs, Tl, Sc, isHs, isScr, isTs] at *; omega)) (fun Nq12 hS hq12 oq12 mq12 => ?_)
                have kn13 := (oq12 (76) 0 (by first | omega | (simp only [Hs, Tl, Sc, isHs, isScr, isTs] at *; omega))).trans kn10
                refine w_load (.iload 6) 116 (by decide +kernel) rfl rfl ?_
                exact w_retZ (by decide +kernel) (Or.inr rfl) (hq _ Nq12 hS (by rw [show hearF n a p s = _ from hear_a (fun hz => (by assumption : ¬ _) (eD.trans hz)) (eD ▸ lsN_eq hLd hkd) hLo hko]; exact Or.inl ⟨rfl, ⟨by rw [mq12, lvC_76 (by decide)]; exact hAr9, by rw [mq12, lvL_76 (by decide)]; exact hBr9, by rw [mq12, up2_eq, hTr9.2 76 7 (by (try dsimp only); omega), hNM, hs.2.2, hCr9]; exact add_0 _⟩, hDr9⟩))
              · skip
                refine w_store (ls' := [.ref 76, .int (nI lv), .int a, .int v2, .int v4, .int (nI kd), .int (0)]) (.istore 6) 95 (by decide +kernel) rfl rfl ?_
                refine w_load (.aload_n 0) 96 (by decide +kernel) rfl rfl ?_
                refine w_pure .dup 97 (by decide +kernel) rfl rfl ?_
                refine w_getI (k := 7) 100 (by decide +kernel) sh_76 rfl ?_
                refine w_load (.iload 6) 102 (by decide +kernel) rfl rfl ?_
                refine w_ieq 109 105 (by decide +kernel) (fun _ => ?_) (fun hz => absurd hz (by decide))
                refine w_pushN 1 110 (by decide +kernel) ?_
                refine w_pure .iadd 111 (by decide +kernel) rfl rfl ?_
                refine w_putE (k := 7) 114 (by decide +kernel) sh_76 rfl hS (rg_76 (by decide)) (by first | exact rfl | omega | (dsimp only; omega) | (simp only [Hs, Tl, Sc, isHs, isScr, isTs] at *; omega)) (fun Nq15 hS hq15 oq15 mq15 => ?_)
                have kn16 := (oq15 (76) 0 (by first | omega | (simp only [Hs, Tl, Sc, isHs, isScr, isTs] at *; omega))).trans kn10
                refine w_load (.iload 6) 116 (by decide +kernel) rfl rfl ?_
                exact w_retZ (by decide +kernel) (Or.inl rfl) (hq _ Nq15 hS (by rw [show hearF n a p s = _ from hear_a (fun hz => (by assumption : ¬ _) (eD.trans hz)) (eD ▸ lsN_eq hLd hkd) hLo hko]; exact Or.inr ⟨rfl, ⟨by rw [mq15, lvC_76 (by decide)]; exact hAr9, by rw [mq15, lvL_76 (by decide)]; exact hBr9, by rw [mq15, up2_eq, hTr9.2 76 7 (by (try dsimp only); omega), hNM, hs.2.2, hCr9] <;> rfl⟩, hDr9⟩))
            · skip
              have hO0 := is5_0 (is5_oth hn) hnor8
              refine w_callV4 156 8 9 93 (by decide +kernel) sh_76 (Nat.le_of_ble_eq_true rfl) rfl rfl rfl rfl (by decide) (by omega) ?_
              refine s_act (p := p) hS.1 (by omega) (by omega) ⟨by rw [hNM]; exact hs.1, by rw [hNM]; exact hs.2.1⟩ hw hdn (Or.inl ⟨rfl, rfl⟩) (by omega) (fun r17 Nr17 hTr17 hr17 => ?_)
              have kn18 := (hTr17.2 (76) 0 (by (try dsimp only); first | omega | (simp only [Hs, Tl, Sc, isHs, isScr, isTs] at *; omega))).trans kz0
              have hS := hS.tr hTr17 (by intro i k; first | exact rfl | exact fun h => h.elim | omega | (dsimp only; omega) | (simp only [Hs, Tl, Sc, isHs, isScr, isTs] at *; omega))
              dsimp only [Option.toList, List.cons_append, List.nil_append]
              rcases hr17 with ⟨rfl, hAr17, hBr17, hCr17, hDr17⟩ | ⟨rfl, hAr17, hBr17, hCr17, hDr17⟩
              · skip
                refine w_store (ls' := [.ref 76, .int (nI lv), .int a, .int v2, .int v4, .int (nI kd), .int (1)]) (.istore 6) 95 (by decide +kernel) rfl rfl ?_
                refine w_load (.aload_n 0) 96 (by decide +kernel) rfl rfl ?_
                refine w_pure .dup 97 (by decide +kernel) rfl rfl ?_
                refine w_getI (k := 7) 100 (by decide +kernel) sh_76 rfl ?_
                refine w_load (.iload 6) 102 (by decide +kernel) rfl rfl ?_
                refine w_ieq 109 105 (by decide +kernel) (fun hz => absurd hz (by decide)) (fun _ => ?_)
                refine w_pushN 0 106 (by decide +kernel) ?_
                refine w_goto 110 (by decide +kernel) ?_
                refine w_pure .iadd 111 (by decide +kernel) rfl rfl ?_
                refine w_putE (k := 7) 114 (by decide +kernel) sh_76 rfl hS (rg_76 (by decide)) (by first | exact rfl | omega | (dsimp only; omega) | (simp only [Hs, Tl, Sc, isHs, isScr, isTs] at *; omega)) (fun Nq20 hS hq20 oq20 mq20 => ?_)
                have kn21 := (oq20 (76) 0 (by first | omega | (simp only [Hs, Tl, Sc, isHs, isScr, isTs] at *; omega))).trans kn18
                refine w_load (.iload 6) 116 (by decide +kernel) rfl rfl ?_
                exact w_retZ (by decide +kernel) (Or.inr rfl) (hq _ Nq20 hS (by rw [show hearF n a p s = _ from hear_o (fun hz => (by assumption : ¬ _) (eD.trans hz)) (eD ▸ lsN_eq hLd hkd) hO0]; exact Or.inl ⟨rfl, ⟨by rw [mq20, lvC_76 (by decide)]; exact hAr17, by rw [mq20, lvL_76 (by decide)]; exact hBr17, by rw [mq20, up2_eq, hTr17.2 76 7 (by (try dsimp only); omega), hNM, hs.2.2, hCr17]; exact add_0 _⟩, hDr17⟩))
              · skip
                refine w_store (ls' := [.ref 76, .int (nI lv), .int a, .int v2, .int v4, .int (nI kd), .int (0)]) (.istore 6) 95 (by decide +kernel) rfl rfl ?_
                refine w_load (.aload_n 0) 96 (by decide +kernel) rfl rfl ?_
                refine w_pure .dup 97 (by decide +kernel) rfl rfl ?_
                refine w_getI (k := 7) 100 (by decide +kernel) sh_76 rfl ?_
                refine w_load (.iload 6) 102 (by decide +kernel) rfl rfl ?_
                refine w_ieq 109 105 (by decide +kernel) (fun _ => ?_) (fun hz => absurd hz (by decide))
                refine w_pushN 1 110 (by decide +kernel) ?_
                refine w_pure .iadd 111 (by decide +kernel) rfl rfl ?_
                refine w_putE (k := 7) 114 (by decide +kernel) sh_76 rfl hS (rg_76 (by decide)) (by first | exact rfl | omega | (dsimp only; omega) | (simp only [Hs, Tl, Sc, isHs, isScr, isTs] at *; omega)) (fun Nq23 hS hq23 oq23 mq23 => ?_)
                have kn24 := (oq23 (76) 0 (by first | omega | (simp only [Hs, Tl, Sc, isHs, isScr, isTs] at *; omega))).trans kn18
                refine w_load (.iload 6) 116 (by decide +kernel) rfl rfl ?_
                exact w_retZ (by decide +kernel) (Or.inl rfl) (hq _ Nq23 hS (by rw [show hearF n a p s = _ from hear_o (fun hz => (by assumption : ¬ _) (eD.trans hz)) (eD ▸ lsN_eq hLd hkd) hO0]; exact Or.inr ⟨rfl, ⟨by rw [mq23, lvC_76 (by decide)]; exact hAr17, by rw [mq23, lvL_76 (by decide)]; exact hBr17, by rw [mq23, up2_eq, hTr17.2 76 7 (by (try dsimp only); omega), hNM, hs.2.2, hCr17] <;> rfl⟩, hDr17⟩))
        · skip
          exact (no_ls (by assumption) (by assumption) hnor6).elim
      · skip
        refine w_load (.iload_n 3) 25 (by decide +kernel) rfl rfl ?_
        refine w_ieq 58 28 (by decide +kernel) (fun h25 => ?_) (fun h25 => ?_)
        · skip
          refine w_pushN 0 59 (by decide +kernel) ?_
          exact w_retZ (by decide +kernel) (Or.inl rfl) (hq _ N hS (by rw [show hearF n a p s = s from hear_0 (eD ▸ (by assumption)) (eB ▸ (by assumption))]; exact Or.inr ⟨rfl, by rw [hNM]; exact hs, rfl⟩))
        · skip
          refine w_load (.aload_n 0) 29 (by decide +kernel) rfl rfl ?_
          refine w_getR (k := 2) (r := 78) 32 (by decide +kernel) sh_76 rfl ?_
          refine w_pushN 22 34 (by decide +kernel) ?_
          refine w_load (.iload_n 1) 35 (by decide +kernel) rfl rfl ?_
          refine w_mulN (22 * lv) 36 (by decide +kernel) rfl ?_
          refine w_pushN 5 37 (by decide +kernel) ?_
          refine w_addN (22 * lv + 5) 38 (by decide +kernel) (by omega) ?_
          refine w_load (.iload_n 3) 39 (by decide +kernel) rfl rfl ?_
          refine w_callS1 154 2 42 (by decide +kernel) (Nat.le_of_ble_eq_true rfl) rfl (by decide) (by omega) ?_
          refine s_least hS.1  (by omega) (fun r26 hr26 => ?_)
          dsimp only [Option.toList, List.cons_append, List.nil_append]
          rcases hr26 with ⟨kb, hkb, rfl, hLb⟩ | ⟨rfl, hnor26⟩
          · skip
            have hbn : kb < n := (isL_lt hn (P := fun g => decide (s.1 g = fstD a) && tb (s.1 15) g) (by rw [eB] at hLb; exact hLb.1)).1
            refine w_addN (22 * lv + 5 + kb) 43 (by decide +kernel) (by omega) ?_
            refine w_pure .dup2 44 (by decide +kernel) rfl rfl ?_
            refine w_ialdN 45 (by decide +kernel) sh_78 (by omega) (by omega) ?_
            refine w_pushN 1 46 (by decide +kernel) ?_
            refine w_pure .isub 47 (by decide +kernel) rfl rfl ?_
            refine w_iastE 48 (by decide +kernel) sh_78 (by omega) (by omega) hS (rg_78 (fun h1 h2 => by first | omega | exact Or.inl rfl | exact Or.inr ⟨_, by omega, rfl⟩ | exact inv_78 hS.1 _ (by omega) (by omega) | exact inv_82 hS.1 _ (by omega) (by omega) | exact inv_89 hS.1 _ (by omega) (by omega))) (by first | exact rfl | omega | (dsimp only; omega) | (simp only [Hs, Tl, Sc, isHs, isScr, isTs] at *; omega)) (fun Nq27 hS hq27 oq27 mq27 => ?_)
            have kn28 := (oq27 (76) 0 (by first | omega | (simp only [Hs, Tl, Sc, isHs, isScr, isTs] at *; omega))).trans kz0
            have cRb := lvC_up' (lv := lv) (j := 5 + kb) mq27 (by omega)
            rw [rdC (M := N) (lv := lv) (i := 22 * lv + 5 + kb) (j := 5 + kb) (by omega)] at cRb
            have lLb := lvL_ne' (lv := lv) mq27 (by omega)
            refine w_load (.aload_n 0) 49 (by decide +kernel) rfl rfl ?_
            refine w_pure .dup 50 (by decide +kernel) rfl rfl ?_
            refine w_getI (k := 7) 53 (by decide +kernel) sh_76 rfl ?_
            refine w_pushN 1 54 (by decide +kernel) ?_
            refine w_pure .iadd 55 (by decide +kernel) rfl rfl ?_
            refine w_putE (k := 7) 58 (by decide +kernel) sh_76 rfl hS (rg_76 (by decide)) (by first | exact rfl | omega | (dsimp only; omega) | (simp only [Hs, Tl, Sc, isHs, isScr, isTs] at *; omega)) (fun Nq29 hS hq29 oq29 mq29 => ?_)
            have kn30 := (oq29 (76) 0 (by first | omega | (simp only [Hs, Tl, Sc, isHs, isScr, isTs] at *; omega))).trans kn28
            refine w_pushN 0 59 (by decide +kernel) ?_
            exact w_retZ (by decide +kernel) (Or.inl rfl) (hq _ Nq29 hS (by rw [show hearF n a p s = fineS s kb from (hear_b (eD ▸ (by assumption)) (fun hz => (by assumption : ¬ _) (eB.trans hz))).trans (by rw [← eB, lsN_eq hLb hkb])]; exact Or.inr ⟨rfl, ⟨by rw [mq29, lvC_76 (by decide), cRb, hNM]; exact hs.1.up _ (by rw [(hs.1.1 kb hbn).2.1]), by rw [mq29, lvL_76 (by decide), lLb, hNM]; exact hs.2.1, by show _ = s.2.2.1 + nI 1; rw [mq29, up2_eq, mq27, up2_ne (by omega), hNM, hs.2.2]⟩, rfl⟩))
          · skip
            exact (no_ls (by assumption) (by assumption) hnor26).elim
-- X8_dusk#s
set_option maxRecDepth 10000 in
theorem s_dusk {d : Nat} {M : Mt} {L : Lt} {Q : Option Value → Mt → Lt → Prop} {lv n : Nat} {c pw : Row}  (hI : Inv M) (hlv : lv ≤ 7) (hn : n ≤ 5) (hc : HE n (lvC M lv) c) (hp : LQ n (M 77) pw) (hd : 0 ≤ d) (hq : ∀ (N : Mt), St (fun i k => (i = 78 ∧ 22 * lv ≤ k ∧ k < 22 * lv + 22) ∨ (i = 76 ∧ k = 7)) M N → (shL n lv N (c, pw, nI 0, nI 0)) → Q none N L) : Wp d 158 0 [.ref 76, .int (nI lv), .null] [] M L Q := by
  refine (show ∀ N : Mt, N = M → St (fun i k => (i = 78 ∧ 22 * lv ≤ k ∧ k < 22 * lv + 22) ∨ (i = 76 ∧ k = 7)) M N → Wp d 158 0 [.ref 76, .int (nI lv), .null] [] N L Q from ?_) M rfl (St.rf hI)
  intro N hNM hS
  refine w_pushN 0 1 (by decide +kernel) ?_
  refine w_store (ls' := [.ref 76, .int (nI lv), .int (nI 0)]) (.istore_n 2) 2 (by decide +kernel) rfl rfl ?_
  have LP_2 : ∀ (kk : Nat) (N_2 : Mt) (g2 : Nat), St (fun i k => (i = 78 ∧ 22 * lv ≤ k ∧ k < 22 * lv + 22) ∨ (i = 76 ∧ k = 7)) M N_2 → g2 ≤ 5 → (∀ g, g < g2 → g < n → lvL N_2 lv g = pw g) → HE n (lvC N_2 lv) c → 5 - g2 < kk → Wp d 158 2 [.ref 76, .int (nI lv), .int (nI g2)] [] N_2 L Q := by
    intro kk
    induction kk with
    | zero => intro N_2 g2 hS hi0_2 hi1_2 hi2_2 hm_2; exact absurd hm_2 (Nat.not_lt_zero _)
    | succ kk ih_2 =>
      intro N_2 g2 hS hi0_2 hi1_2 hi2_2 hm_2
      have hS0 := hS
      refine w_load (.iload_n 2) 3 (by decide +kernel) rfl rfl ?_
      refine w_pushN 5 4 (by decide +kernel) ?_
      refine w_cgeN 33 7 (by decide +kernel) (by omega) (by omega) (fun h1 => ?_) (fun h1 => ?_)
      · skip
        refine w_load (.aload_n 0) 34 (by decide +kernel) rfl rfl ?_
        refine w_pushN 0 35 (by decide +kernel) ?_
        refine w_putE (k := 7) 38 (by decide +kernel) sh_76 rfl hS (rg_76 (by decide)) (by first | exact rfl | omega | (dsimp only; omega) | (simp only [Hs, Tl, Sc, isHs, isScr, isTs] at *; omega)) (fun Nq2 hS hq2 oq2 mq2 => ?_)
        exact w_retV (by decide +kernel) (hq Nq2 hS ⟨by rw [mq2, lvC_76 (by decide)]; exact hi2_2, by rw [mq2, lvL_76 (by decide)]; exact fun g hg => hi1_2 g (by omega) hg, by show _ = nI 0; rw [mq2, up2_eq]⟩)
      · skip
        refine w_load (.aload_n 0) 8 (by decide +kernel) rfl rfl ?_
        refine w_getR (k := 2) (r := 78) 11 (by decide +kernel) sh_76 rfl ?_
        refine w_pushN 22 13 (by decide +kernel) ?_
        refine w_load (.iload_n 1) 14 (by decide +kernel) rfl rfl ?_
        refine w_mulN (22 * lv) 15 (by decide +kernel) rfl ?_
        refine w_pushN 17 17 (by decide +kernel) ?_
        refine w_addN (22 * lv + 17) 18 (by decide +kernel) (by omega) ?_
        refine w_load (.iload_n 2) 19 (by decide +kernel) rfl rfl ?_
        refine w_addN (22 * lv + 17 + g2) 20 (by decide +kernel) (by omega) ?_
        refine w_load (.aload_n 0) 21 (by decide +kernel) rfl rfl ?_
        refine w_getR (k := 1) (r := 77) 24 (by decide +kernel) sh_76 rfl ?_
        refine w_load (.iload_n 2) 25 (by decide +kernel) rfl rfl ?_
        refine w_ialdN 26 (by decide +kernel) sh_77 (by omega) (by omega) ?_
        refine w_iastE 27 (by decide +kernel) sh_78 (by omega) (by omega) hS (rg_78 (fun h1 h2 => by first | omega | exact Or.inl rfl | exact Or.inr ⟨_, by omega, rfl⟩ | exact inv_78 hS.1 _ (by omega) (by omega) | exact inv_82 hS.1 _ (by omega) (by omega) | exact inv_89 hS.1 _ (by omega) (by omega))) (by first | exact rfl | omega | (dsimp only; omega) | (simp only [Hs, Tl, Sc, isHs, isScr, isTs] at *; omega)) (fun Nq3 hS hq3 oq3 mq3 => ?_)
        have b1 := du_step (n := n) (pw := pw) hi1_2 mq3 (fun hg => ((hS0.2 77 g2 (by omega)).trans (hp g2 hg)))
        have b2 : HE n (lvC Nq3 lv) c := by rw [lvC_up' (lv := lv) (j := 17 + g2) mq3 (by omega)]; exact hi2_2.hi (by omega) hn
        refine w_iincN (z := 2) (g2 + 1) 30 (by decide +kernel) rfl (Nat.le_of_ble_eq_true rfl) rfl rfl ?_
        show Wp _ _ _ [.ref 76, .int (nI lv), .int (nI (g2 + 1))] _ _ _ _
        refine w_goto 2 (by decide +kernel) ?_
        exact ih_2 Nq3 (g2 + 1) hS (by first | omega | assumption) (by first | omega | assumption) (by first | omega | assumption) (by omega)
  exact LP_2 _ N 0 hS (by first | omega | (intro g hg; omega) | (rw [hNM]; exact hc)) (by first | omega | (intro g hg; omega) | (rw [hNM]; exact hc)) (by first | omega | (intro g hg; omega) | (rw [hNM]; exact hc)) (Nat.lt_succ_self _)
-- X8_lay#s
set_option maxRecDepth 10000 in
theorem s_lay {d : Nat} {M : Mt} {L : Lt} {Q : Option Value → Mt → Lt → Prop} {f t : Nat}  (hI : Inv M) (hf : f ≤ 7) (ht : t ≤ 7) (hft : ¬ f = t) (hd : 0 ≤ d) (hq : ∀ (N : Mt), St (fun i k => (i = 78 ∧ 22 * t ≤ k ∧ k < 22 * t + 22)) M N → (∀ k, k < 22 → N 78 (22 * t + k) = M 78 (22 * f + k)) → Q none N L) : Wp d 160 0 [.ref 76, .int (nI f), .int (nI t), .null] [] M L Q := by
  refine (show ∀ N : Mt, N = M → St (fun i k => (i = 78 ∧ 22 * t ≤ k ∧ k < 22 * t + 22)) M N → Wp d 160 0 [.ref 76, .int (nI f), .int (nI t), .null] [] N L Q from ?_) M rfl (St.rf hI)
  intro N hNM hS
  refine w_pushN 0 1 (by decide +kernel) ?_
  refine w_store (ls' := [.ref 76, .int (nI f), .int (nI t), .int (nI 0)]) (.istore_n 3) 2 (by decide +kernel) rfl rfl ?_
  have LP_2 : ∀ (kk : Nat) (N_2 : Mt) (g3 : Nat), St (fun i k => (i = 78 ∧ 22 * t ≤ k ∧ k < 22 * t + 22)) M N_2 → g3 ≤ 22 → (∀ k, k < g3 → N_2 78 (22 * t + k) = M 78 (22 * f + k)) → 22 - g3 < kk → Wp d 160 2 [.ref 76, .int (nI f), .int (nI t), .int (nI g3)] [] N_2 L Q := by
    intro kk
    induction kk with
    | zero => intro N_2 g3 hS hi0_2 hi1_2 hm_2; exact absurd hm_2 (Nat.not_lt_zero _)
    | succ kk ih_2 =>
      intro N_2 g3 hS hi0_2 hi1_2 hm_2
      have hS0 := hS
      refine w_load (.iload_n 3) 3 (by decide +kernel) rfl rfl ?_
      refine w_pushN 22 5 (by decide +kernel) ?_
      refine w_cgeN 36 8 (by decide +kernel) (by omega) (by omega) (fun h1 => ?_) (fun h1 => ?_)
      · skip
        exact w_retV (by decide +kernel) (hq N_2 hS (fun k hk => hi1_2 k (by omega)))
      · skip
        refine w_load (.aload_n 0) 9 (by decide +kernel) rfl rfl ?_
        refine w_getR (k := 2) (r := 78) 12 (by decide +kernel) sh_76 rfl ?_
        refine w_pushN 22 14 (by decide +kernel) ?_
        refine w_load (.iload_n 2) 15 (by decide +kernel) rfl rfl ?_
        refine w_mulN (22 * t) 16 (by decide +kernel) rfl ?_
        refine w_load (.iload_n 3) 17 (by decide +kernel) rfl rfl ?_
        refine w_addN (22 * t + g3) 18 (by decide +kernel) (by omega) ?_
        refine w_load (.aload_n 0) 19 (by decide +kernel) rfl rfl ?_
        refine w_getR (k := 2) (r := 78) 22 (by decide +kernel) sh_76 rfl ?_
        refine w_pushN 22 24 (by decide +kernel) ?_
        refine w_load (.iload_n 1) 25 (by decide +kernel) rfl rfl ?_
        refine w_mulN (22 * f) 26 (by decide +kernel) rfl ?_
        refine w_load (.iload_n 3) 27 (by decide +kernel) rfl rfl ?_
        refine w_addN (22 * f + g3) 28 (by decide +kernel) (by omega) ?_
        refine w_ialdN 29 (by decide +kernel) sh_78 (by omega) (by omega) ?_
        refine w_iastE 30 (by decide +kernel) sh_78 (by omega) (by omega) hS (rg_78 (fun h1 h2 => by first | omega | exact Or.inl rfl | exact Or.inr ⟨_, by omega, rfl⟩ | exact inv_78 hS.1 _ (by omega) (by omega) | exact inv_82 hS.1 _ (by omega) (by omega) | exact inv_89 hS.1 _ (by omega) (by omega))) (by first | exact rfl | omega | (dsimp only; omega) | (simp only [Hs, Tl, Sc, isHs, isScr, isTs] at *; omega)) (fun Nq2 hS hq2 oq2 mq2 => ?_)
        have b1 := lay_step (f := f) (t := t) hi1_2 mq2 (hS0.2 _ _ (by omega)) (by omega)
        refine w_iincN (z := 3) (g3 + 1) 33 (by decide +kernel) rfl (Nat.le_of_ble_eq_true rfl) rfl rfl ?_
        show Wp _ _ _ [.ref 76, .int (nI f), .int (nI t), .int (nI (g3 + 1))] _ _ _ _
        refine w_goto 2 (by decide +kernel) ?_
        exact ih_2 Nq2 (g3 + 1) hS (by first | omega | assumption) (by first | omega | assumption) (by omega)
  exact LP_2 _ N 0 hS (by first | omega | (intro k hk; omega)) (by first | omega | (intro k hk; omega)) (Nat.lt_succ_self _)
-- X8_deedOf#s
set_option maxRecDepth 10000 in
theorem s_deedOf {d : Nat} {M : Mt} {L : Lt} {Q : Option Value → Mt → Lt → Prop} {t k : Nat}  (hI : Inv M) (ht : t < 3) (hk : k < 8) (hd : 1 ≤ d) (hq : ∀ (r : Int32), (r = deedV (fun i => M 80 (24 * t + i)) k) → Q (some (.int r)) M L) : Wp d 149 0 [.ref 76, .int (nI t), .int (nI k), .null] [] M L Q := by
  refine w_pushN 24 2 (by decide +kernel) ?_
  refine w_load (.iload_n 1) 3 (by decide +kernel) rfl rfl ?_
  refine w_mulN (24 * t) 4 (by decide +kernel) rfl ?_
  refine w_pushN 3 5 (by decide +kernel) ?_
  refine w_load (.iload_n 2) 6 (by decide +kernel) rfl rfl ?_
  refine w_mulN (3 * k) 7 (by decide +kernel) rfl ?_
  refine w_addN (24 * t + 3 * k) 8 (by decide +kernel) (by omega) ?_
  refine w_store (ls' := [.ref 76, .int (nI t), .int (nI k), .int (nI (24 * t + 3 * k))]) (.istore_n 3) 9 (by decide +kernel) rfl rfl ?_
  refine w_pushN 16 11 (by decide +kernel) ?_
  refine w_load (.aload_n 0) 12 (by decide +kernel) rfl rfl ?_
  refine w_getR (k := 5) (r := 80) 15 (by decide +kernel) sh_76 rfl ?_
  refine w_load (.iload_n 3) 16 (by decide +kernel) rfl rfl ?_
  refine w_ialdN 17 (by decide +kernel) sh_80 (by omega) (by omega) ?_
  refine w_callS1 145 1 20 (by decide +kernel) (Nat.le_of_ble_eq_true rfl) rfl (by decide) (by omega) ?_
  refine k_145 hI  (by omega) (fun r1 hr1 => ?_)
  dsimp only [Option.toList, List.cons_append, List.nil_append]
  rcases hr1 with rfl
  · skip
    refine w_pure .imul 21 (by decide +kernel) rfl rfl ?_
    refine w_pushN 4 22 (by decide +kernel) ?_
    refine w_load (.aload_n 0) 23 (by decide +kernel) rfl rfl ?_
    refine w_getR (k := 5) (r := 80) 26 (by decide +kernel) sh_76 rfl ?_
    refine w_load (.iload_n 3) 27 (by decide +kernel) rfl rfl ?_
    refine w_pushN 1 28 (by decide +kernel) ?_
    refine w_addN (24 * t + 3 * k + 1) 29 (by decide +kernel) (by omega) ?_
    refine w_ialdN 30 (by decide +kernel) sh_80 (by omega) (by omega) ?_
    refine w_pushN 97 32 (by decide +kernel) ?_
    refine w_pure .isub 33 (by decide +kernel) rfl rfl ?_
    refine w_pure .imul 34 (by decide +kernel) rfl rfl ?_
    refine w_pure .iadd 35 (by decide +kernel) rfl rfl ?_
    refine w_load (.aload_n 0) 36 (by decide +kernel) rfl rfl ?_
    refine w_getR (k := 5) (r := 80) 39 (by decide +kernel) sh_76 rfl ?_
    refine w_load (.iload_n 3) 40 (by decide +kernel) rfl rfl ?_
    refine w_pushN 2 41 (by decide +kernel) ?_
    refine w_addN (24 * t + 3 * k + 2) 42 (by decide +kernel) (by omega) ?_
    refine w_ialdN 43 (by decide +kernel) sh_80 (by omega) (by omega) ?_
    refine w_pure .iadd 44 (by decide +kernel) rfl rfl ?_
    refine w_pushN 97 46 (by decide +kernel) ?_
    refine w_pure .isub 47 (by decide +kernel) rfl rfl ?_
    exact w_ret (by decide +kernel) (hq _ (by unfold deedV; show _ = kd (M 80 (24 * t + 3 * k)) * nI 16 + (M 80 (24 * t + (3 * k + 1)) - nI 97) * nI 4 + M 80 (24 * t + (3 * k + 2)) - nI 97; rw [Int32.mul_comm (nI 16), Int32.mul_comm (nI 4), Nat.add_assoc (24 * t) (3 * k) 1, Nat.add_assoc (24 * t) (3 * k) 2]))
-- X8_tellOn#s
set_option maxRecDepth 10000 in
theorem s_tellOn {d : Nat} {M : Mt} {L : Lt} {Q : Option Value → Mt → Lt → Prop} {lv t n z : Nat} {c pw : Row} {a : Int32} (hI : Inv M) (hlv : lv ≤ 7) (hn : n ≤ 5) (en : M 76 0 = nI n) (ht : t < 3) (hz : z ≤ 24) (ez : M 81 t = nI z) (hc : HE n (lvC M lv) c) (hp : LQ n (M 77) pw) (hw : wedOk n c) (hd : 3 ≤ d) (hq : ∀ (r : Int32) (N : Mt), St (fun i k => (i = 78 ∧ 22 * lv ≤ k ∧ k < 22 * lv + 22) ∨ (i = 76 ∧ k = 7)) M N → (∃ k, sndT (fun i => M 80 (24 * t + i)) z k ∧ shL n lv N (dawnS (runF n (deedV (fun i => M 80 (24 * t + i))) a (k / 3) (c, pw, nI 0, nI 0))) ∧ r = (dawnS (runF n (deedV (fun i => M 80 (24 * t + i))) a (k / 3) (c, pw, nI 0, nI 0))).2.2.2) → Q (some (.int r)) N L) : Wp d 159 0 [.ref 76, .int (nI lv), .int (nI t), .int a, .null, .null, .null] [] M L Q := by
  refine (show ∀ N : Mt, N = M → St (fun i k => (i = 78 ∧ 22 * lv ≤ k ∧ k < 22 * lv + 22) ∨ (i = 76 ∧ k = 7)) M N → Wp d 159 0 [.ref 76, .int (nI lv), .int (nI t), .int a, .null, .null, .null] [] N L Q from ?_) M rfl (St.rf hI)
  intro N hNM hS
  have kz0 : N (76) 0 = nI n := by rw [hNM]; exact en
  have kz1 : N (81) t = nI z := by rw [hNM]; exact ez
  refine w_load (.aload_n 0) 1 (by decide +kernel) rfl rfl ?_
  refine w_load (.iload_n 1) 2 (by decide +kernel) rfl rfl ?_
  refine w_callV1 158 8 3 5 (by decide +kernel) sh_76 (Nat.le_of_ble_eq_true rfl) rfl (by decide) (by omega) ?_
  refine s_dusk hS.1 (by omega) (by omega) (by rw [hNM]; exact hc) (by rw [hNM]; exact hp) (by omega) (fun Nr1 hTr1 hr1 => ?_)
  have kn2 := (hTr1.2 (76) 0 (by (try dsimp only); first | omega | (simp only [Hs, Tl, Sc, isHs, isScr, isTs] at *; omega))).trans kz0
  have kn3 := (hTr1.2 (81) t (by (try dsimp only); first | omega | (simp only [Hs, Tl, Sc, isHs, isScr, isTs] at *; omega))).trans kz1
  have hS := hS.tr hTr1 (by intro i k; first | exact rfl | exact fun h => h.elim | omega | (dsimp only; omega) | (simp only [Hs, Tl, Sc, isHs, isScr, isTs] at *; omega))
  have hr80 : (fun i => Nr1 80 (24 * t + i)) = (fun i => M 80 (24 * t + i)) := by rw [hTr1.row (x := 80) (fun k => by (try dsimp only); omega), hNM]
  dsimp only [Option.toList, List.nil_append]
  refine w_pushN 0 6 (by decide +kernel) ?_
  refine w_store (ls' := [.ref 76, .int (nI lv), .int (nI t), .int a, .int (nI 0), .null, .null]) (.istore 4) 8 (by decide +kernel) rfl rfl ?_
  refine w_load (.aload_n 0) 9 (by decide +kernel) rfl rfl ?_
  refine w_load (.iload_n 2) 10 (by decide +kernel) rfl rfl ?_
  refine w_callV1 148 8 3 13 (by decide +kernel) sh_76 (Nat.le_of_ble_eq_true rfl) rfl (by decide) (by omega) ?_
  refine k_148 hS.1 (by omega) (by omega) kn3 (by omega) (fun r4 hr4 => ?_)
  dsimp only [Option.toList, List.cons_append, List.nil_append]
  rcases hr4 with ⟨kr4, hsr4, rfl⟩
  · skip
    have hlr4 := hsr4.1
    refine w_store (ls' := [.ref 76, .int (nI lv), .int (nI t), .int a, .int (nI 0), .int (nI ((kr4 / 3))), .null]) (.istore 5) 15 (by decide +kernel) rfl rfl ?_
    refine w_pushN 0 16 (by decide +kernel) ?_
    refine w_store (ls' := [.ref 76, .int (nI lv), .int (nI t), .int a, .int (nI 0), .int (nI ((kr4 / 3))), .int (nI 0)]) (.istore 6) 18 (by decide +kernel) rfl rfl ?_
    have LP_18 : ∀ (kk : Nat) (N_18 : Mt) (x4_18 : Int32) (g6 : Nat), St (fun i k => (i = 78 ∧ 22 * lv ≤ k ∧ k < 22 * lv + 22) ∨ (i = 76 ∧ k = 7)) M N_18 → g6 ≤ 8 → shL n lv N_18 (runF n (deedV (fun i => M 80 (24 * t + i))) a g6 (c, pw, nI 0, nI 0)) → x4_18 = (runF n (deedV (fun i => M 80 (24 * t + i))) a g6 (c, pw, nI 0, nI 0)).2.2.2 → N_18 80 = M 80 → N_18 76 0 = nI n → N_18 81 t = nI z → g6 ≤ ((kr4 / 3)) → 8 - g6 < kk → Wp d 159 18 [.ref 76, .int (nI lv), .int (nI t), .int a, .int x4_18, .int (nI ((kr4 / 3))), .int (nI g6)] [] N_18 L Q := by
      intro kk
      induction kk with
      | zero => intro N_18 x4_18 g6 hS hi0_18 hi1_18 hi2_18 hi3_18 hi4_18 hi5_18 hi6_18 hm_18; exact absurd hm_18 (Nat.not_lt_zero _)
      | succ kk ih_18 =>
        intro N_18 x4_18 g6 hS hi0_18 hi1_18 hi2_18 hi3_18 hi4_18 hi5_18 hi6_18 hm_18
        refine w_load (.iload 6) 20 (by decide +kernel) rfl rfl ?_
        refine w_load (.iload 5) 22 (by decide +kernel) rfl rfl ?_
        refine w_cgeN 64 25 (by decide +kernel) (by omega) (by omega) (fun h5 => ?_) (fun h5 => ?_)
        · skip
          refine w_load (.aload_n 0) 65 (by decide +kernel) rfl rfl ?_
          refine w_getR (k := 2) (r := 78) 68 (by decide +kernel) sh_76 rfl ?_
          refine w_pushN 22 70 (by decide +kernel) ?_
          refine w_load (.iload_n 1) 71 (by decide +kernel) rfl rfl ?_
          refine w_mulN (22 * lv) 72 (by decide +kernel) rfl ?_
          refine w_pushN 16 74 (by decide +kernel) ?_
          refine w_addN (22 * lv + 16) 75 (by decide +kernel) (by omega) ?_
          refine w_pure .dup2 76 (by decide +kernel) rfl rfl ?_
          refine w_ialdN 77 (by decide +kernel) sh_78 (by omega) (by omega) ?_
          refine w_pushN 1 78 (by decide +kernel) ?_
          refine w_pure .iadd 79 (by decide +kernel) rfl rfl ?_
          refine w_iastE 80 (by decide +kernel) sh_78 (by omega) (by omega) hS (rg_78 (fun h1 h2 => by first | omega | exact Or.inl rfl | exact Or.inr ⟨_, by omega, rfl⟩ | exact inv_78 hS.1 _ (by omega) (by omega) | exact inv_82 hS.1 _ (by omega) (by omega) | exact inv_89 hS.1 _ (by omega) (by omega))) (by first | exact rfl | omega | (dsimp only; omega) | (simp only [Hs, Tl, Sc, isHs, isScr, isTs] at *; omega)) (fun Nq6 hS hq6 oq6 mq6 => ?_)
          have kn7 := (oq6 (76) 0 (by first | omega | (simp only [Hs, Tl, Sc, isHs, isScr, isTs] at *; omega))).trans hi4_18
          have kn8 := (oq6 (81) t (by first | omega | (simp only [Hs, Tl, Sc, isHs, isScr, isTs] at *; omega))).trans hi5_18
          have cRn := lvC_up' (lv := lv) (j := 16) mq6 (by omega)
          have lLn := lvL_ne' (lv := lv) mq6 (by omega)
          refine w_load (.iload 4) 82 (by decide +kernel) rfl rfl ?_
          exact w_ret (by decide +kernel) (hq _ Nq6 hS ⟨kr4, by rw [hr80] at hsr4; exact hsr4, ⟨by have hgn : g6 = kr4 / 3 := (by omega); rw [cRn, ← hgn]; exact hi1_18.1.up _ (by rw [← hi1_18.1.2.2] <;> rfl), by have hgn : g6 = kr4 / 3 := (by omega); rw [lLn, ← hgn]; exact hi1_18.2.1, by have hgn : g6 = kr4 / 3 := (by omega); rw [mq6, up2_ne (by omega), ← hgn]; exact hi1_18.2.2⟩, by have hgn : g6 = kr4 / 3 := (by omega); rw [← hgn]; exact hi2_18⟩)
        · skip
          refine w_load (.iload_n 3) 26 (by decide +kernel) rfl rfl ?_
          refine w_load (.iload 6) 28 (by decide +kernel) rfl rfl ?_
          refine w_callS2 135 2 31 (by decide +kernel) (Nat.le_of_ble_eq_true rfl) rfl rfl (by decide) (by omega) ?_
          refine k_135 hS.1  (by omega) (fun r9 hr9 => ?_)
          dsimp only [Option.toList, List.cons_append, List.nil_append]
          rcases hr9 with ⟨rfl, hbr9⟩ | ⟨rfl, hbr9⟩
          · skip
            have htr9 := tb_hb (by omega) hbr9
            refine w_ine 58 34 (by decide +kernel) (fun _ => ?_) (fun hz => absurd hz (by decide))
            refine w_iincN (z := 6) (g6 + 1) 61 (by decide +kernel) rfl (Nat.le_of_ble_eq_true rfl) rfl rfl ?_
            show Wp _ _ _ [.ref 76, .int (nI lv), .int (nI t), .int a, .int x4_18, .int (nI ((kr4 / 3))), .int (nI (g6 + 1))] _ _ _ _
            refine w_goto 18 (by decide +kernel) ?_
            exact ih_18 N_18 _ (g6 + 1) hS (by first | omega | assumption | exact ru_k (by assumption) (by assumption) | exact ru_k2 (by assumption) (by assumption) | exact ru_s (by assumption) hi3_18 (by assumption) | (rw [ebit]; exact ru_d (by assumption) hi3_18 (by assumption) hi2_18) | exact ru_d2 (by assumption) hi3_18 (by assumption) hi2_18) (by first | omega | assumption | exact ru_k (by assumption) (by assumption) | exact ru_k2 (by assumption) (by assumption) | exact ru_s (by assumption) hi3_18 (by assumption) | (rw [ebit]; exact ru_d (by assumption) hi3_18 (by assumption) hi2_18) | exact ru_d2 (by assumption) hi3_18 (by assumption) hi2_18) (by first | omega | assumption | exact ru_k (by assumption) (by assumption) | exact ru_k2 (by assumption) (by assumption) | exact ru_s (by assumption) hi3_18 (by assumption) | (rw [ebit]; exact ru_d (by assumption) hi3_18 (by assumption) hi2_18) | exact ru_d2 (by assumption) hi3_18 (by assumption) hi2_18) (by first | omega | assumption | exact ru_k (by assumption) (by assumption) | exact ru_k2 (by assumption) (by assumption) | exact ru_s (by assumption) hi3_18 (by assumption) | (rw [ebit]; exact ru_d (by assumption) hi3_18 (by assumption) hi2_18) | exact ru_d2 (by assumption) hi3_18 (by assumption) hi2_18) (by first | omega | assumption | exact ru_k (by assumption) (by assumption) | exact ru_k2 (by assumption) (by assumption) | exact ru_s (by assumption) hi3_18 (by assumption) | (rw [ebit]; exact ru_d (by assumption) hi3_18 (by assumption) hi2_18) | exact ru_d2 (by assumption) hi3_18 (by assumption) hi2_18) (by first | omega | assumption | exact ru_k (by assumption) (by assumption) | exact ru_k2 (by assumption) (by assumption) | exact ru_s (by assumption) hi3_18 (by assumption) | (rw [ebit]; exact ru_d (by assumption) hi3_18 (by assumption) hi2_18) | exact ru_d2 (by assumption) hi3_18 (by assumption) hi2_18) (by first | omega | assumption | exact ru_k (by assumption) (by assumption) | exact ru_k2 (by assumption) (by assumption) | exact ru_s (by assumption) hi3_18 (by assumption) | (rw [ebit]; exact ru_d (by assumption) hi3_18 (by assumption) hi2_18) | exact ru_d2 (by assumption) hi3_18 (by assumption) hi2_18) (by omega)
          · skip
            have htr9 := tb_nhb (by omega) hbr9
            refine w_ine 58 34 (by decide +kernel) (fun hz => absurd hz (by decide)) (fun _ => ?_)
            refine w_load (.aload_n 0) 35 (by decide +kernel) rfl rfl ?_
            refine w_load (.iload_n 1) 36 (by decide +kernel) rfl rfl ?_
            refine w_load (.aload_n 0) 37 (by decide +kernel) rfl rfl ?_
            refine w_load (.iload_n 2) 38 (by decide +kernel) rfl rfl ?_
            refine w_load (.iload 6) 40 (by decide +kernel) rfl rfl ?_
            refine w_callV2 149 8 4 43 (by decide +kernel) sh_76 (Nat.le_of_ble_eq_true rfl) rfl rfl (by decide) (by omega) ?_
            refine s_deedOf hS.1 (by omega) (by omega) (by omega) (fun r12 hr12 => ?_)
            dsimp only [Option.toList, List.cons_append, List.nil_append]
            rcases hr12 with rfl
            · skip
              refine w_callV2 157 8 7 46 (by decide +kernel) sh_76 (Nat.le_of_ble_eq_true rfl) rfl rfl (by decide) (by omega) ?_
              refine s_deed (p := g6) hS.1 (by omega) (by omega) hi4_18 hi1_18 (wedOk.run hw hn g6) (by omega) (fun r13 Nr13 hTr13 hr13 => ?_)
              have kn14 := (hTr13.2 (76) 0 (by (try dsimp only); first | omega | (simp only [Hs, Tl, Sc, isHs, isScr, isTs] at *; omega))).trans hi4_18
              have kn15 := (hTr13.2 (81) t (by (try dsimp only); first | omega | (simp only [Hs, Tl, Sc, isHs, isScr, isTs] at *; omega))).trans hi5_18
              have hS := hS.tr hTr13 (by intro i k; first | exact rfl | exact fun h => h.elim | omega | (dsimp only; omega) | (simp only [Hs, Tl, Sc, isHs, isScr, isTs] at *; omega))
              have h80 : Nr13 80 = M 80 := by rw [hTr13.row (fun k => by (try dsimp only); omega)]; exact hi3_18
              dsimp only [Option.toList, List.cons_append, List.nil_append]
              rcases hr13 with ⟨rfl, hSr13, hDr13⟩ | ⟨rfl, hSr13, hDr13⟩
              · skip
                refine w_ieq 58 49 (by decide +kernel) (fun hz => absurd hz (by decide)) (fun _ => ?_)
                refine w_load (.iload 4) 51 (by decide +kernel) rfl rfl ?_
                refine w_pushN 1 52 (by decide +kernel) ?_
                refine w_load (.iload 6) 54 (by decide +kernel) rfl rfl ?_
                refine w_pure .ishl 55 (by decide +kernel) rfl rfl ?_
                refine w_pure .ior 56 (by decide +kernel) rfl rfl ?_
                refine w_topi (fun v17 ev17 => ?_)
                refine w_store (ls' := [.ref 76, .int (nI lv), .int (nI t), .int a, .int v17, .int (nI ((kr4 / 3))), .int (nI g6)]) (.istore 4) 58 (by decide +kernel) rfl rfl ?_
                have ebit := ev17
                refine w_iincN (z := 6) (g6 + 1) 61 (by decide +kernel) rfl (Nat.le_of_ble_eq_true rfl) rfl rfl ?_
                show Wp _ _ _ [.ref 76, .int (nI lv), .int (nI t), .int a, .int v17, .int (nI ((kr4 / 3))), .int (nI (g6 + 1))] _ _ _ _
                refine w_goto 18 (by decide +kernel) ?_
                exact ih_18 Nr13 _ (g6 + 1) hS (by first | omega | assumption | exact ru_k (by assumption) (by assumption) | exact ru_k2 (by assumption) (by assumption) | exact ru_s (by assumption) hi3_18 (by assumption) | (rw [ebit]; exact ru_d (by assumption) hi3_18 (by assumption) hi2_18) | exact ru_d2 (by assumption) hi3_18 (by assumption) hi2_18) (by first | omega | assumption | exact ru_k (by assumption) (by assumption) | exact ru_k2 (by assumption) (by assumption) | exact ru_s (by assumption) hi3_18 (by assumption) | (rw [ebit]; exact ru_d (by assumption) hi3_18 (by assumption) hi2_18) | exact ru_d2 (by assumption) hi3_18 (by assumption) hi2_18) (by first | omega | assumption | exact ru_k (by assumption) (by assumption) | exact ru_k2 (by assumption) (by assumption) | exact ru_s (by assumption) hi3_18 (by assumption) | (rw [ebit]; exact ru_d (by assumption) hi3_18 (by assumption) hi2_18) | exact ru_d2 (by assumption) hi3_18 (by assumption) hi2_18) (by first | omega | assumption | exact ru_k (by assumption) (by assumption) | exact ru_k2 (by assumption) (by assumption) | exact ru_s (by assumption) hi3_18 (by assumption) | (rw [ebit]; exact ru_d (by assumption) hi3_18 (by assumption) hi2_18) | exact ru_d2 (by assumption) hi3_18 (by assumption) hi2_18) (by first | omega | assumption | exact ru_k (by assumption) (by assumption) | exact ru_k2 (by assumption) (by assumption) | exact ru_s (by assumption) hi3_18 (by assumption) | (rw [ebit]; exact ru_d (by assumption) hi3_18 (by assumption) hi2_18) | exact ru_d2 (by assumption) hi3_18 (by assumption) hi2_18) (by first | omega | assumption | exact ru_k (by assumption) (by assumption) | exact ru_k2 (by assumption) (by assumption) | exact ru_s (by assumption) hi3_18 (by assumption) | (rw [ebit]; exact ru_d (by assumption) hi3_18 (by assumption) hi2_18) | exact ru_d2 (by assumption) hi3_18 (by assumption) hi2_18) (by first | omega | assumption | exact ru_k (by assumption) (by assumption) | exact ru_k2 (by assumption) (by assumption) | exact ru_s (by assumption) hi3_18 (by assumption) | (rw [ebit]; exact ru_d (by assumption) hi3_18 (by assumption) hi2_18) | exact ru_d2 (by assumption) hi3_18 (by assumption) hi2_18) (by omega)
              · skip
                refine w_ieq 58 49 (by decide +kernel) (fun _ => ?_) (fun hz => absurd hz (by decide))
                refine w_iincN (z := 6) (g6 + 1) 61 (by decide +kernel) rfl (Nat.le_of_ble_eq_true rfl) rfl rfl ?_
                show Wp _ _ _ [.ref 76, .int (nI lv), .int (nI t), .int a, .int x4_18, .int (nI ((kr4 / 3))), .int (nI (g6 + 1))] _ _ _ _
                refine w_goto 18 (by decide +kernel) ?_
                exact ih_18 Nr13 _ (g6 + 1) hS (by first | omega | assumption | exact ru_k (by assumption) (by assumption) | exact ru_k2 (by assumption) (by assumption) | exact ru_s (by assumption) hi3_18 (by assumption) | (rw [ebit]; exact ru_d (by assumption) hi3_18 (by assumption) hi2_18) | exact ru_d2 (by assumption) hi3_18 (by assumption) hi2_18) (by first | omega | assumption | exact ru_k (by assumption) (by assumption) | exact ru_k2 (by assumption) (by assumption) | exact ru_s (by assumption) hi3_18 (by assumption) | (rw [ebit]; exact ru_d (by assumption) hi3_18 (by assumption) hi2_18) | exact ru_d2 (by assumption) hi3_18 (by assumption) hi2_18) (by first | omega | assumption | exact ru_k (by assumption) (by assumption) | exact ru_k2 (by assumption) (by assumption) | exact ru_s (by assumption) hi3_18 (by assumption) | (rw [ebit]; exact ru_d (by assumption) hi3_18 (by assumption) hi2_18) | exact ru_d2 (by assumption) hi3_18 (by assumption) hi2_18) (by first | omega | assumption | exact ru_k (by assumption) (by assumption) | exact ru_k2 (by assumption) (by assumption) | exact ru_s (by assumption) hi3_18 (by assumption) | (rw [ebit]; exact ru_d (by assumption) hi3_18 (by assumption) hi2_18) | exact ru_d2 (by assumption) hi3_18 (by assumption) hi2_18) (by first | omega | assumption | exact ru_k (by assumption) (by assumption) | exact ru_k2 (by assumption) (by assumption) | exact ru_s (by assumption) hi3_18 (by assumption) | (rw [ebit]; exact ru_d (by assumption) hi3_18 (by assumption) hi2_18) | exact ru_d2 (by assumption) hi3_18 (by assumption) hi2_18) (by first | omega | assumption | exact ru_k (by assumption) (by assumption) | exact ru_k2 (by assumption) (by assumption) | exact ru_s (by assumption) hi3_18 (by assumption) | (rw [ebit]; exact ru_d (by assumption) hi3_18 (by assumption) hi2_18) | exact ru_d2 (by assumption) hi3_18 (by assumption) hi2_18) (by first | omega | assumption | exact ru_k (by assumption) (by assumption) | exact ru_k2 (by assumption) (by assumption) | exact ru_s (by assumption) hi3_18 (by assumption) | (rw [ebit]; exact ru_d (by assumption) hi3_18 (by assumption) hi2_18) | exact ru_d2 (by assumption) hi3_18 (by assumption) hi2_18) (by omega)
    exact LP_18 _ Nr1 _ 0 hS (by first | omega | assumption | rfl | (rw [hTr1.row (x := 80) (fun k => by (try dsimp only); omega), hNM])) (by first | omega | assumption | rfl | (rw [hTr1.row (x := 80) (fun k => by (try dsimp only); omega), hNM])) (by first | omega | assumption | rfl | (rw [hTr1.row (x := 80) (fun k => by (try dsimp only); omega), hNM])) (by first | omega | assumption | rfl | (rw [hTr1.row (x := 80) (fun k => by (try dsimp only); omega), hNM])) (by first | omega | assumption | rfl | (rw [hTr1.row (x := 80) (fun k => by (try dsimp only); omega), hNM])) (by first | omega | assumption | rfl | (rw [hTr1.row (x := 80) (fun k => by (try dsimp only); omega), hNM])) (by first | omega | assumption | rfl | (rw [hTr1.row (x := 80) (fun k => by (try dsimp only); omega), hNM])) (Nat.lt_succ_self _)
