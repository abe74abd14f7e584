-- X0_isSettled
set_option maxRecDepth 10000 in
theorem k_3 {d : Nat} {M : Mt} {L : Lt} {Q : Option Value → Mt → Lt → Prop}  (hI : Inv M)  (hd : 1 ≤ d) (hq : ∀ (r : Int32), (r = 0 ∨ r = 1) → Q (some (.int r)) M L) : Wp d 3 0 [.ref 31] [] M L Q := by
  refine w_load (.aload_n 0) 1 (by decide +kernel) rfl rfl ?_
  refine w_getI (k := 1) 4 (by decide +kernel) sh_31 rfl ?_
  refine w_ieq 26 7 (by decide +kernel) (fun h1 => ?_) (fun h1 => ?_)
  · skip
    refine w_load (.aload_n 0) 27 (by decide +kernel) rfl rfl ?_
    refine w_getI (k := 2) 30 (by decide +kernel) sh_31 rfl ?_
    refine w_load (.aload_n 0) 31 (by decide +kernel) rfl rfl ?_
    refine w_getR (k := 0) (r := 32) 34 (by decide +kernel) sh_31 rfl ?_
    refine w_pushN 0 35 (by decide +kernel) ?_
    refine w_step5 36 (by decide +kernel) (by omega) ?_
    show Wp _ _ _ _ (.ref 33 :: _) _ _ _
    refine w_getR (k := 0) (r := 34) 39 (by decide +kernel) sh_33 rfl ?_
    refine w_callV0 18 1 1 42 (by decide +kernel) sh_34 (Nat.le_of_ble_eq_true rfl)  (by decide) (by omega) ?_
    refine k_18 hI hs_34 (by omega) (fun r2 hr2 => ?_)
    dsimp only [Option.toList, List.cons_append, List.nil_append]
    refine w_cne 49 45 (by decide +kernel) (fun h3 => ?_) (fun h3 => ?_)
    · skip
      refine w_pushN 0 50 (by decide +kernel) ?_
      exact w_retZ (by decide +kernel) (Or.inl rfl) (hq _ (Or.inl rfl))
    · skip
      refine w_pushN 1 46 (by decide +kernel) ?_
      refine w_goto 50 (by decide +kernel) ?_
      exact w_retZ (by decide +kernel) (Or.inr rfl) (hq _ (Or.inr rfl))
  · skip
    refine w_load (.aload_n 0) 8 (by decide +kernel) rfl rfl ?_
    refine w_getI (k := 3) 11 (by decide +kernel) sh_31 rfl ?_
    refine w_load (.aload_n 0) 12 (by decide +kernel) rfl rfl ?_
    refine w_getI (k := 4) 15 (by decide +kernel) sh_31 rfl ?_
    refine w_cne 22 18 (by decide +kernel) (fun h4 => ?_) (fun h4 => ?_)
    · skip
      refine w_pushN 0 23 (by decide +kernel) ?_
      refine w_goto 50 (by decide +kernel) ?_
      exact w_retZ (by decide +kernel) (Or.inl rfl) (hq _ (Or.inl rfl))
    · skip
      refine w_pushN 1 19 (by decide +kernel) ?_
      refine w_goto 50 (by decide +kernel) ?_
      exact w_retZ (by decide +kernel) (Or.inr rfl) (hq _ (Or.inr rfl))
-- X0_deedsToLastKilling
set_option maxRecDepth 10000 in
theorem k_2 {d : Nat} {M : Mt} {L : Lt} {Q : Option Value → Mt → Lt → Prop} {s : Nat} (hI : Inv M) (hc : Sc s) (hd : 4 ≤ d) (hq : ∀ (r : Int32), True → Q (some (.int r)) M L) : Wp d 2 0 [.ref s, .null, .null, .null] [] M L Q := by
  refine w_load (.aload_n 0) 1 (by decide +kernel) rfl rfl ?_
  refine w_callV0 43 2 1 4 (by decide +kernel) hc.1.1 (Nat.le_of_ble_eq_true rfl)  (by decide) (by omega) ?_
  obtain ⟨n1, hn1, en1⟩ := inv_s hI hc
  refine k_43 hI hc (by omega) en1 (by omega) (fun r2 hr2 => ?_)
  dsimp only [Option.toList, List.cons_append, List.nil_append]
  rcases hr2 with ⟨kr2, hsr2, rfl⟩
  · skip
    have hlr2 := hsr2.1
    refine w_pushN 4 5 (by decide +kernel) ?_
    refine w_minN (min 4 ((kr2 / 3))) 8 (by decide +kernel) (Nat.le_of_ble_eq_true rfl) (Nat.le_of_ble_eq_true rfl) (by omega) (by omega) rfl ?_
    refine w_store (ls' := [.ref s, .int (nI ((min 4 ((kr2 / 3))))), .null, .null]) (.istore_n 1) 9 (by decide +kernel) rfl rfl ?_
    refine w_pushN 0 10 (by decide +kernel) ?_
    refine w_store (ls' := [.ref s, .int (nI ((min 4 ((kr2 / 3))))), .int (nI 0), .null]) (.istore_n 2) 11 (by decide +kernel) rfl rfl ?_
    refine w_pushN 0 12 (by decide +kernel) ?_
    refine w_store (ls' := [.ref s, .int (nI ((min 4 ((kr2 / 3))))), .int (nI 0), .int (nI 0)]) (.istore_n 3) 13 (by decide +kernel) rfl rfl ?_
    have LP_13 : ∀ (kk : Nat) (x2_13 : Int32) (g3 : Nat), g3 ≤ 4 → 4 - g3 < kk → Wp d 2 13 [.ref s, .int (nI ((min 4 ((kr2 / 3))))), .int x2_13, .int (nI g3)] [] M L Q := by
      intro kk
      induction kk with
      | zero => intro x2_13 g3 hi0_13 hm_13; exact absurd hm_13 (Nat.not_lt_zero _)
      | succ kk ih_13 =>
        intro x2_13 g3 hi0_13 hm_13
        refine w_load (.iload_n 3) 14 (by decide +kernel) rfl rfl ?_
        refine w_load (.iload_n 1) 15 (by decide +kernel) rfl rfl ?_
        refine w_cgeN 39 18 (by decide +kernel) (by omega) (by omega) (fun h3 => ?_) (fun h3 => ?_)
        · skip
          refine w_load (.iload_n 2) 40 (by decide +kernel) rfl rfl ?_
          exact w_ret (by decide +kernel) (hq _ trivial)
        · skip
          refine w_load (.aload_n 0) 19 (by decide +kernel) rfl rfl ?_
          refine w_load (.iload_n 3) 20 (by decide +kernel) rfl rfl ?_
          refine w_callV1 44 2 4 23 (by decide +kernel) hc.1.1 (Nat.le_of_ble_eq_true rfl) rfl (by decide) (by omega) ?_
          refine k_44 hI hc (by omega) (fun r4 hr4 => ?_)
          dsimp only [Option.toList, List.cons_append, List.nil_append]
          refine w_callS1 117 1 26 (by decide +kernel) (Nat.le_of_ble_eq_true rfl) rfl (by decide) (by omega) ?_
          refine k_117 hI  (by omega) (fun r5 hr5 => ?_)
          dsimp only [Option.toList, List.cons_append, List.nil_append]
          refine w_ine 33 29 (by decide +kernel) (fun h6 => ?_) (fun h6 => ?_)
          · skip
            refine w_iincN (z := 3) (g3 + 1) 36 (by decide +kernel) rfl (Nat.le_of_ble_eq_true rfl) rfl rfl ?_
            show Wp _ _ _ [.ref s, .int (nI ((min 4 ((kr2 / 3))))), .int x2_13, .int (nI (g3 + 1))] _ _ _ _
            refine w_goto 13 (by decide +kernel) ?_
            exact ih_13 _ (g3 + 1) (by omega) (by omega)
          · skip
            refine w_load (.iload_n 3) 30 (by decide +kernel) rfl rfl ?_
            refine w_pushN 1 31 (by decide +kernel) ?_
            refine w_addN (g3 + 1) 32 (by decide +kernel) (by omega) ?_
            refine w_store (ls' := [.ref s, .int (nI ((min 4 ((kr2 / 3))))), .int (nI (g3 + 1)), .int (nI g3)]) (.istore_n 2) 33 (by decide +kernel) rfl rfl ?_
            refine w_iincN (z := 3) (g3 + 1) 36 (by decide +kernel) rfl (Nat.le_of_ble_eq_true rfl) rfl rfl ?_
            show Wp _ _ _ [.ref s, .int (nI ((min 4 ((kr2 / 3))))), .int (nI (g3 + 1)), .int (nI (g3 + 1))] _ _ _ _
            refine w_goto 13 (by decide +kernel) ?_
            exact ih_13 _ (g3 + 1) (by omega) (by omega)
    exact LP_13 _ _ 0 (by omega) (Nat.lt_succ_self _)
-- X0_followDoer
set_option maxRecDepth 10000 in
theorem k_5 {d : Nat} {M : Mt} {L : Lt} {Q : Option Value → Mt → Lt → Prop} {s k : Nat} {m g : Int32} (hI : Inv M) (hc : Sc s) (hk : k ≤ 3) (hrec : (∀ (d : Nat) (N0 : Mt) (L : Lt) (Q : Option Value → Mt → Lt → Prop), Inv N0 → 2 * (4 - (k + 1)) + 8 ≤ d → (∀ N : Mt, St (fun i _ => 31 ≤ i ∧ i ≤ 57) N0 N → True → Q none N L) → Wp d 4 0 [.ref 31, .ref s, .int m, .int (nI (k + 1)), .null, .null, .null] [] N0 L Q)) (hd : 2 * (4 - k) + 7 ≤ d) (hq : ∀ (N : Mt), St (fun i _ => 31 ≤ i ∧ i ≤ 57) M N → True → Q none N L) : Wp d 5 0 [.ref 31, .ref s, .int m, .int (nI k), .int g, .null, .null, .null, .null] [] M L Q := by
  refine (show ∀ N : Mt, N = M → St (fun i _ => 31 ≤ i ∧ i ≤ 57) M N → Wp d 5 0 [.ref 31, .ref s, .int m, .int (nI k), .int g, .null, .null, .null, .null] [] N L Q from ?_) M rfl (St.rf hI)
  intro N hNM hS
  refine w_load (.aload_n 1) 1 (by decide +kernel) rfl rfl ?_
  refine w_load (.iload_n 3) 2 (by decide +kernel) rfl rfl ?_
  refine w_callV1 44 2 4 5 (by decide +kernel) hc.1.1 (Nat.le_of_ble_eq_true rfl) rfl (by decide) (by omega) ?_
  refine k_44 hS.1 hc (by omega) (fun r1 hr1 => ?_)
  dsimp only [Option.toList, List.cons_append, List.nil_append]
  refine w_store (ls' := [.ref 31, .ref s, .int m, .int (nI k), .int g, .int r1, .null, .null, .null]) (.istore 5) 7 (by decide +kernel) rfl rfl ?_
  refine w_load (.aload_n 0) 8 (by decide +kernel) rfl rfl ?_
  refine w_getR (k := 0) (r := 32) 11 (by decide +kernel) sh_31 rfl ?_
  refine w_load (.iload_n 3) 12 (by decide +kernel) rfl rfl ?_
  refine w_pushN 1 13 (by decide +kernel) ?_
  refine w_addN (k + 1) 14 (by decide +kernel) (by omega) ?_
  refine w_step5 15 (by decide +kernel) (by omega) ?_
  refine w_store (ls' := [.ref 31, .ref s, .int m, .int (nI k), .int g, .int r1, .ref (33 + 5 * (k + 1)), .null, .null]) (.astore 6) 17 (by decide +kernel) rfl rfl ?_
  refine w_load (.aload_n 0) 18 (by decide +kernel) rfl rfl ?_
  refine w_getR (k := 0) (r := 32) 21 (by decide +kernel) sh_31 rfl ?_
  refine w_load (.iload_n 3) 22 (by decide +kernel) rfl rfl ?_
  refine w_step5 23 (by decide +kernel) (by omega) ?_
  refine w_load (.iload 5) 25 (by decide +kernel) rfl rfl ?_
  refine w_load (.iload 4) 27 (by decide +kernel) rfl rfl ?_
  refine w_callV2 71 6 3 30 (by decide +kernel) (tl_step k (by omega)).1.1 (Nat.le_of_ble_eq_true rfl) rfl rfl (by decide) (by omega) ?_
  refine k_71 hS.1 (tl_step k (by omega)) (by omega) (fun r2 hr2 => ?_)
  dsimp only [Option.toList, List.cons_append, List.nil_append]
  refine w_store (ls' := [.ref 31, .ref s, .int m, .int (nI k), .int g, .int r1, .ref (33 + 5 * (k + 1)), .int r2, .null]) (.istore 7) 32 (by decide +kernel) rfl rfl ?_
  refine w_load (.iload 7) 34 (by decide +kernel) rfl rfl ?_
  refine w_ine 64 37 (by decide +kernel) (fun h3 => ?_) (fun h3 => ?_)
  · skip
    refine w_pushN 0 65 (by decide +kernel) ?_
    refine w_store (ls' := [.ref 31, .ref s, .int m, .int (nI k), .int g, .int r1, .ref (33 + 5 * (k + 1)), .int r2, .int (nI 0)]) (.istore 8) 67 (by decide +kernel) rfl rfl ?_
    have LP_67 : ∀ (kk : Nat) (N_67 : Mt) (g8 : Nat), St (fun i _ => 31 ≤ i ∧ i ≤ 57) M N_67 → g8 ≤ 5 → 5 - g8 < kk → Wp d 5 67 [.ref 31, .ref s, .int m, .int (nI k), .int g, .int r1, .ref (33 + 5 * (k + 1)), .int r2, .int (nI g8)] [] N_67 L Q := by
      intro kk
      induction kk with
      | zero => intro N_67 g8 hS hi0_67 hm_67; exact absurd hm_67 (Nat.not_lt_zero _)
      | succ kk ih_67 =>
        intro N_67 g8 hS hi0_67 hm_67
        refine w_load (.iload 8) 69 (by decide +kernel) rfl rfl ?_
        refine w_pushN 5 70 (by decide +kernel) ?_
        refine w_cgeN 128 73 (by decide +kernel) (by omega) (by omega) (fun h4 => ?_) (fun h4 => ?_)
        · skip
          exact w_retV (by decide +kernel) (hq N_67 hS trivial)
        · skip
          refine w_load (.aload_n 0) 74 (by decide +kernel) rfl rfl ?_
          refine w_callV0 3 0 1 77 (by decide +kernel) sh_31 (Nat.le_of_ble_eq_true rfl)  (by decide) (by omega) ?_
          refine k_3 hS.1  (by omega) (fun r5 hr5 => ?_)
          dsimp only [Option.toList, List.cons_append, List.nil_append]
          refine w_ine 128 80 (by decide +kernel) (fun h6 => ?_) (fun h6 => ?_)
          · skip
            exact w_retV (by decide +kernel) (hq N_67 hS trivial)
          · skip
            refine w_load (.iload 7) 82 (by decide +kernel) rfl rfl ?_
            refine w_load (.iload 8) 84 (by decide +kernel) rfl rfl ?_
            refine w_callS2 115 2 87 (by decide +kernel) (Nat.le_of_ble_eq_true rfl) rfl rfl (by decide) (by omega) ?_
            refine k_115 hS.1  (by omega) (fun r7 hr7 => ?_)
            dsimp only [Option.toList, List.cons_append, List.nil_append]
            refine w_ieq 122 90 (by decide +kernel) (fun h8 => ?_) (fun h8 => ?_)
            · skip
              refine w_iincN (z := 8) (g8 + 1) 125 (by decide +kernel) rfl (Nat.le_of_ble_eq_true rfl) rfl rfl ?_
              show Wp _ _ _ [.ref 31, .ref s, .int m, .int (nI k), .int g, .int r1, .ref (33 + 5 * (k + 1)), .int r2, .int (nI (g8 + 1))] _ _ _ _
              refine w_goto 67 (by decide +kernel) ?_
              exact ih_67 N_67 (g8 + 1) hS (by omega) (by omega)
            · skip
              refine w_load (.aload 6) 92 (by decide +kernel) rfl rfl ?_
              refine w_load (.aload_n 0) 93 (by decide +kernel) rfl rfl ?_
              refine w_getR (k := 0) (r := 32) 96 (by decide +kernel) sh_31 rfl ?_
              refine w_load (.iload_n 3) 97 (by decide +kernel) rfl rfl ?_
              refine w_step5 98 (by decide +kernel) (by omega) ?_
              refine w_callV1 67 6 2 101 (by decide +kernel) (tl_step (k + 1) (by omega)).1.1 (Nat.le_of_ble_eq_true rfl) rfl (by decide) (by omega) ?_
              refine k_67 hS.1 (tl_step (k + 1) (by omega)) (tl_step k (by omega)) (by omega) (fun Nr9 hTr9 hr9 => ?_)
              have hS := hS.tr hTr9 (by intro i k; first | exact rfl | omega | (dsimp only; omega) | (simp only [Hs, Tl, Sc, isHs, isScr, isTs] at *; omega))
              dsimp only [Option.toList, List.nil_append]
              refine w_load (.aload 6) 103 (by decide +kernel) rfl rfl ?_
              refine w_load (.iload 5) 105 (by decide +kernel) rfl rfl ?_
              refine w_load (.iload_n 3) 106 (by decide +kernel) rfl rfl ?_
              refine w_load (.iload 4) 108 (by decide +kernel) rfl rfl ?_
              refine w_load (.iload 8) 110 (by decide +kernel) rfl rfl ?_
              refine w_callV4 73 6 6 113 (by decide +kernel) (tl_step (k + 1) (by omega)).1.1 (Nat.le_of_ble_eq_true rfl) rfl rfl rfl rfl (by decide) (by omega) ?_
              refine k_73 hS.1 (tl_step (k + 1) (by omega)) (by omega) (fun Nr10 hTr10 hr10 => ?_)
              have hS := hS.tr hTr10 (by intro i k; first | exact rfl | omega | (dsimp only; omega) | (simp only [Hs, Tl, Sc, isHs, isScr, isTs] at *; omega))
              dsimp only [Option.toList, List.nil_append]
              refine w_load (.aload_n 0) 114 (by decide +kernel) rfl rfl ?_
              refine w_load (.aload_n 1) 115 (by decide +kernel) rfl rfl ?_
              refine w_load (.iload_n 2) 116 (by decide +kernel) rfl rfl ?_
              refine w_load (.iload_n 3) 117 (by decide +kernel) rfl rfl ?_
              refine w_pushN 1 118 (by decide +kernel) ?_
              refine w_addN (k + 1) 119 (by decide +kernel) (by omega) ?_
              refine w_callV3 4 0 7 122 (by decide +kernel) sh_31 (Nat.le_of_ble_eq_true rfl) rfl rfl rfl (by decide) (by omega) ?_
              refine hrec _ _ _ _ hS.1 (by omega) (fun Nr11 hTr11 hr11 => ?_)
              have hS := hS.tr hTr11 (by intro i k; first | exact rfl | omega | (dsimp only; omega) | (simp only [Hs, Tl, Sc, isHs, isScr, isTs] at *; omega))
              dsimp only [Option.toList, List.nil_append]
              refine w_iincN (z := 8) (g8 + 1) 125 (by decide +kernel) rfl (Nat.le_of_ble_eq_true rfl) rfl rfl ?_
              show Wp _ _ _ [.ref 31, .ref s, .int m, .int (nI k), .int g, .int r1, .ref (33 + 5 * (k + 1)), .int r2, .int (nI (g8 + 1))] _ _ _ _
              refine w_goto 67 (by decide +kernel) ?_
              exact ih_67 Nr11 (g8 + 1) hS (by omega) (by omega)
    exact LP_67 _ N 0 hS (by omega) (Nat.lt_succ_self _)
  · skip
    refine w_load (.aload 6) 39 (by decide +kernel) rfl rfl ?_
    refine w_load (.aload_n 0) 40 (by decide +kernel) rfl rfl ?_
    refine w_getR (k := 0) (r := 32) 43 (by decide +kernel) sh_31 rfl ?_
    refine w_load (.iload_n 3) 44 (by decide +kernel) rfl rfl ?_
    refine w_step5 45 (by decide +kernel) (by omega) ?_
    refine w_callV1 67 6 2 48 (by decide +kernel) (tl_step (k + 1) (by omega)).1.1 (Nat.le_of_ble_eq_true rfl) rfl (by decide) (by omega) ?_
    refine k_67 hS.1 (tl_step (k + 1) (by omega)) (tl_step k (by omega)) (by omega) (fun Nr12 hTr12 hr12 => ?_)
    have hS := hS.tr hTr12 (by intro i k; first | exact rfl | omega | (dsimp only; omega) | (simp only [Hs, Tl, Sc, isHs, isScr, isTs] at *; omega))
    dsimp only [Option.toList, List.nil_append]
    refine w_load (.aload 6) 50 (by decide +kernel) rfl rfl ?_
    refine w_load (.iload 4) 52 (by decide +kernel) rfl rfl ?_
    refine w_callV1 74 6 2 55 (by decide +kernel) (tl_step (k + 1) (by omega)).1.1 (Nat.le_of_ble_eq_true rfl) rfl (by decide) (by omega) ?_
    refine k_74 hS.1 (tl_step (k + 1) (by omega)) (by omega) (fun Nr13 hTr13 hr13 => ?_)
    have hS := hS.tr hTr13 (by intro i k; first | exact rfl | omega | (dsimp only; omega) | (simp only [Hs, Tl, Sc, isHs, isScr, isTs] at *; omega))
    dsimp only [Option.toList, List.nil_append]
    refine w_load (.aload_n 0) 56 (by decide +kernel) rfl rfl ?_
    refine w_load (.aload_n 1) 57 (by decide +kernel) rfl rfl ?_
    refine w_load (.iload_n 2) 58 (by decide +kernel) rfl rfl ?_
    refine w_load (.iload_n 3) 59 (by decide +kernel) rfl rfl ?_
    refine w_pushN 1 60 (by decide +kernel) ?_
    refine w_addN (k + 1) 61 (by decide +kernel) (by omega) ?_
    refine w_callV3 4 0 7 64 (by decide +kernel) sh_31 (Nat.le_of_ble_eq_true rfl) rfl rfl rfl (by decide) (by omega) ?_
    refine hrec _ _ _ _ hS.1 (by omega) (fun Nr14 hTr14 hr14 => ?_)
    have hS := hS.tr hTr14 (by intro i k; first | exact rfl | omega | (dsimp only; omega) | (simp only [Hs, Tl, Sc, isHs, isScr, isTs] at *; omega))
    dsimp only [Option.toList, List.nil_append]
    refine w_pushN 0 65 (by decide +kernel) ?_
    refine w_store (ls' := [.ref 31, .ref s, .int m, .int (nI k), .int g, .int r1, .ref (33 + 5 * (k + 1)), .int r2, .int (nI 0)]) (.istore 8) 67 (by decide +kernel) rfl rfl ?_
    have LP_67 : ∀ (kk : Nat) (N_67 : Mt) (g8 : Nat), St (fun i _ => 31 ≤ i ∧ i ≤ 57) M N_67 → g8 ≤ 5 → 5 - g8 < kk → Wp d 5 67 [.ref 31, .ref s, .int m, .int (nI k), .int g, .int r1, .ref (33 + 5 * (k + 1)), .int r2, .int (nI g8)] [] N_67 L Q := by
      intro kk
      induction kk with
      | zero => intro N_67 g8 hS hi0_67 hm_67; exact absurd hm_67 (Nat.not_lt_zero _)
      | succ kk ih_67 =>
        intro N_67 g8 hS hi0_67 hm_67
        refine w_load (.iload 8) 69 (by decide +kernel) rfl rfl ?_
        refine w_pushN 5 70 (by decide +kernel) ?_
        refine w_cgeN 128 73 (by decide +kernel) (by omega) (by omega) (fun h15 => ?_) (fun h15 => ?_)
        · skip
          exact w_retV (by decide +kernel) (hq N_67 hS trivial)
        · skip
          refine w_load (.aload_n 0) 74 (by decide +kernel) rfl rfl ?_
          refine w_callV0 3 0 1 77 (by decide +kernel) sh_31 (Nat.le_of_ble_eq_true rfl)  (by decide) (by omega) ?_
          refine k_3 hS.1  (by omega) (fun r16 hr16 => ?_)
          dsimp only [Option.toList, List.cons_append, List.nil_append]
          refine w_ine 128 80 (by decide +kernel) (fun h17 => ?_) (fun h17 => ?_)
          · skip
            exact w_retV (by decide +kernel) (hq N_67 hS trivial)
          · skip
            refine w_load (.iload 7) 82 (by decide +kernel) rfl rfl ?_
            refine w_load (.iload 8) 84 (by decide +kernel) rfl rfl ?_
            refine w_callS2 115 2 87 (by decide +kernel) (Nat.le_of_ble_eq_true rfl) rfl rfl (by decide) (by omega) ?_
            refine k_115 hS.1  (by omega) (fun r18 hr18 => ?_)
            dsimp only [Option.toList, List.cons_append, List.nil_append]
            refine w_ieq 122 90 (by decide +kernel) (fun h19 => ?_) (fun h19 => ?_)
            · skip
              refine w_iincN (z := 8) (g8 + 1) 125 (by decide +kernel) rfl (Nat.le_of_ble_eq_true rfl) rfl rfl ?_
              show Wp _ _ _ [.ref 31, .ref s, .int m, .int (nI k), .int g, .int r1, .ref (33 + 5 * (k + 1)), .int r2, .int (nI (g8 + 1))] _ _ _ _
              refine w_goto 67 (by decide +kernel) ?_
              exact ih_67 N_67 (g8 + 1) hS (by omega) (by omega)
            · skip
              refine w_load (.aload 6) 92 (by decide +kernel) rfl rfl ?_
              refine w_load (.aload_n 0) 93 (by decide +kernel) rfl rfl ?_
              refine w_getR (k := 0) (r := 32) 96 (by decide +kernel) sh_31 rfl ?_
              refine w_load (.iload_n 3) 97 (by decide +kernel) rfl rfl ?_
              refine w_step5 98 (by decide +kernel) (by omega) ?_
              refine w_callV1 67 6 2 101 (by decide +kernel) (tl_step (k + 1) (by omega)).1.1 (Nat.le_of_ble_eq_true rfl) rfl (by decide) (by omega) ?_
              refine k_67 hS.1 (tl_step (k + 1) (by omega)) (tl_step k (by omega)) (by omega) (fun Nr20 hTr20 hr20 => ?_)
              have hS := hS.tr hTr20 (by intro i k; first | exact rfl | omega | (dsimp only; omega) | (simp only [Hs, Tl, Sc, isHs, isScr, isTs] at *; omega))
              dsimp only [Option.toList, List.nil_append]
              refine w_load (.aload 6) 103 (by decide +kernel) rfl rfl ?_
              refine w_load (.iload 5) 105 (by decide +kernel) rfl rfl ?_
              refine w_load (.iload_n 3) 106 (by decide +kernel) rfl rfl ?_
              refine w_load (.iload 4) 108 (by decide +kernel) rfl rfl ?_
              refine w_load (.iload 8) 110 (by decide +kernel) rfl rfl ?_
              refine w_callV4 73 6 6 113 (by decide +kernel) (tl_step (k + 1) (by omega)).1.1 (Nat.le_of_ble_eq_true rfl) rfl rfl rfl rfl (by decide) (by omega) ?_
              refine k_73 hS.1 (tl_step (k + 1) (by omega)) (by omega) (fun Nr21 hTr21 hr21 => ?_)
              have hS := hS.tr hTr21 (by intro i k; first | exact rfl | omega | (dsimp only; omega) | (simp only [Hs, Tl, Sc, isHs, isScr, isTs] at *; omega))
              dsimp only [Option.toList, List.nil_append]
              refine w_load (.aload_n 0) 114 (by decide +kernel) rfl rfl ?_
              refine w_load (.aload_n 1) 115 (by decide +kernel) rfl rfl ?_
              refine w_load (.iload_n 2) 116 (by decide +kernel) rfl rfl ?_
              refine w_load (.iload_n 3) 117 (by decide +kernel) rfl rfl ?_
              refine w_pushN 1 118 (by decide +kernel) ?_
              refine w_addN (k + 1) 119 (by decide +kernel) (by omega) ?_
              refine w_callV3 4 0 7 122 (by decide +kernel) sh_31 (Nat.le_of_ble_eq_true rfl) rfl rfl rfl (by decide) (by omega) ?_
              refine hrec _ _ _ _ hS.1 (by omega) (fun Nr22 hTr22 hr22 => ?_)
              have hS := hS.tr hTr22 (by intro i k; first | exact rfl | omega | (dsimp only; omega) | (simp only [Hs, Tl, Sc, isHs, isScr, isTs] at *; omega))
              dsimp only [Option.toList, List.nil_append]
              refine w_iincN (z := 8) (g8 + 1) 125 (by decide +kernel) rfl (Nat.le_of_ble_eq_true rfl) rfl rfl ?_
              show Wp _ _ _ [.ref 31, .ref s, .int m, .int (nI k), .int g, .int r1, .ref (33 + 5 * (k + 1)), .int r2, .int (nI (g8 + 1))] _ _ _ _
              refine w_goto 67 (by decide +kernel) ?_
              exact ih_67 Nr22 (g8 + 1) hS (by omega) (by omega)
    exact LP_67 _ Nr14 0 hS (by omega) (Nat.lt_succ_self _)
-- X0_follow
set_option maxRecDepth 10000 in
theorem k_4 {d : Nat} {M : Mt} {L : Lt} {Q : Option Value → Mt → Lt → Prop} {s k : Nat} {m : Int32} (hI : Inv M) (hc : Sc s) (hk : k ≤ 4) (hrec : k ≤ 3 → (∀ (d : Nat) (N0 : Mt) (L : Lt) (Q : Option Value → Mt → Lt → Prop), Inv N0 → 2 * (4 - (k + 1)) + 8 ≤ d → (∀ N : Mt, St (fun i _ => 31 ≤ i ∧ i ≤ 57) N0 N → True → Q none N L) → Wp d 4 0 [.ref 31, .ref s, .int m, .int (nI (k + 1)), .null, .null, .null] [] N0 L Q)) (hd : 2 * (4 - k) + 8 ≤ d) (hq : ∀ (N : Mt), St (fun i _ => 31 ≤ i ∧ i ≤ 57) M N → True → Q none N L) : Wp d 4 0 [.ref 31, .ref s, .int m, .int (nI k), .null, .null, .null] [] M L Q := by
  refine (show ∀ N : Mt, N = M → St (fun i _ => 31 ≤ i ∧ i ≤ 57) M N → Wp d 4 0 [.ref 31, .ref s, .int m, .int (nI k), .null, .null, .null] [] N L Q from ?_) M rfl (St.rf hI)
  intro N hNM hS
  refine w_load (.iload_n 3) 1 (by decide +kernel) rfl rfl ?_
  refine w_load (.iload_n 2) 2 (by decide +kernel) rfl rfl ?_
  refine w_cge 16 5 (by decide +kernel) (fun h1 => ?_) (fun h1 => ?_)
  · skip
    refine w_load (.aload_n 0) 17 (by decide +kernel) rfl rfl ?_
    refine w_pure .dup 18 (by decide +kernel) rfl rfl ?_
    refine w_getI (k := 2) 21 (by decide +kernel) sh_31 rfl ?_
    refine w_load (.aload_n 0) 22 (by decide +kernel) rfl rfl ?_
    refine w_getR (k := 0) (r := 32) 25 (by decide +kernel) sh_31 rfl ?_
    refine w_load (.iload_n 3) 26 (by decide +kernel) rfl rfl ?_
    refine w_step5 27 (by decide +kernel) (by omega) ?_
    refine w_getR (k := 0) (r := 33 + 5 * k + 1) 30 (by decide +kernel) (tl_step k (by omega)).1.1 rfl ?_
    refine w_callV0 20 1 1 33 (by decide +kernel) (tl_step k (by omega)).1.2.1.1 (Nat.le_of_ble_eq_true rfl)  (by decide) (by omega) ?_
    refine k_20 hS.1 (tl_h (tl_step k (by omega))) (by omega) (fun r2 hr2 => ?_)
    dsimp only [Option.toList, List.cons_append, List.nil_append]
    refine w_pure .ior 34 (by decide +kernel) rfl rfl ?_
    refine w_putE (k := 2) 37 (by decide +kernel) sh_31 rfl hS (Rg.free (by simp only [Hs, Tl, Sc, isScr, isHs, isTs] at *; omega)) (by first | exact rfl | omega | (dsimp only; omega) | (simp only [Hs, Tl, Sc, isHs, isScr, isTs] at *; omega)) (fun Nq3 hS hq3 oq3 mq3 => ?_)
    refine w_load (.aload_n 0) 38 (by decide +kernel) rfl rfl ?_
    refine w_pure .dup 39 (by decide +kernel) rfl rfl ?_
    refine w_getI (k := 3) 42 (by decide +kernel) sh_31 rfl ?_
    refine w_load (.aload_n 0) 43 (by decide +kernel) rfl rfl ?_
    refine w_getR (k := 0) (r := 32) 46 (by decide +kernel) sh_31 rfl ?_
    refine w_load (.iload_n 3) 47 (by decide +kernel) rfl rfl ?_
    refine w_step5 48 (by decide +kernel) (by omega) ?_
    refine w_getR (k := 0) (r := 33 + 5 * k + 1) 51 (by decide +kernel) (tl_step k (by omega)).1.1 rfl ?_
    refine w_callV0 20 1 1 54 (by decide +kernel) (tl_step k (by omega)).1.2.1.1 (Nat.le_of_ble_eq_true rfl)  (by decide) (by omega) ?_
    refine k_20 hS.1 (tl_h (tl_step k (by omega))) (by omega) (fun r4 hr4 => ?_)
    dsimp only [Option.toList, List.cons_append, List.nil_append]
    refine w_pure .iand 55 (by decide +kernel) rfl rfl ?_
    refine w_putE (k := 3) 58 (by decide +kernel) sh_31 rfl hS (Rg.free (by simp only [Hs, Tl, Sc, isScr, isHs, isTs] at *; omega)) (by first | exact rfl | omega | (dsimp only; omega) | (simp only [Hs, Tl, Sc, isHs, isScr, isTs] at *; omega)) (fun Nq5 hS hq5 oq5 mq5 => ?_)
    exact w_retV (by decide +kernel) (hq Nq5 hS trivial)
  · skip
    refine w_load (.iload_n 3) 6 (by decide +kernel) rfl rfl ?_
    refine w_pushN 1 7 (by decide +kernel) ?_
    refine w_addN (k + 1) 8 (by decide +kernel) (by omega) ?_
    refine w_load (.aload_n 0) 9 (by decide +kernel) rfl rfl ?_
    refine w_getR (k := 0) (r := 32) 12 (by decide +kernel) sh_31 rfl ?_
    refine w_alen (nI 5) 13 (by decide +kernel) sh_32 (by decide) (by first | rfl | simp [nI]) ?_
    refine w_cltN 59 16 (by decide +kernel) (by omega) (by omega) (fun h6 => ?_) (fun h6 => ?_)
    · skip
      refine w_load (.aload_n 1) 60 (by decide +kernel) rfl rfl ?_
      refine w_load (.iload_n 3) 61 (by decide +kernel) rfl rfl ?_
      refine w_callV1 44 2 4 64 (by decide +kernel) hc.1.1 (Nat.le_of_ble_eq_true rfl) rfl (by decide) (by omega) ?_
      refine k_44 hS.1 hc (by omega) (fun r7 hr7 => ?_)
      dsimp only [Option.toList, List.cons_append, List.nil_append]
      refine w_store (ls' := [.ref 31, .ref s, .int m, .int (nI k), .int r7, .null, .null]) (.istore 4) 66 (by decide +kernel) rfl rfl ?_
      refine w_load (.aload_n 0) 67 (by decide +kernel) rfl rfl ?_
      refine w_getR (k := 0) (r := 32) 70 (by decide +kernel) sh_31 rfl ?_
      refine w_load (.iload_n 3) 71 (by decide +kernel) rfl rfl ?_
      refine w_step5 72 (by decide +kernel) (by omega) ?_
      refine w_load (.iload 4) 74 (by decide +kernel) rfl rfl ?_
      refine w_callV1 70 6 4 77 (by decide +kernel) (tl_step k (by omega)).1.1 (Nat.le_of_ble_eq_true rfl) rfl (by decide) (by omega) ?_
      refine k_70 hS.1 (tl_step k (by omega)) (by omega) (fun r8 hr8 => ?_)
      dsimp only [Option.toList, List.cons_append, List.nil_append]
      refine w_store (ls' := [.ref 31, .ref s, .int m, .int (nI k), .int r7, .int r8, .null]) (.istore 5) 79 (by decide +kernel) rfl rfl ?_
      refine w_load (.iload 5) 81 (by decide +kernel) rfl rfl ?_
      refine w_ine 123 84 (by decide +kernel) (fun h9 => ?_) (fun h9 => ?_)
      · skip
        refine w_pushN 0 124 (by decide +kernel) ?_
        refine w_store (ls' := [.ref 31, .ref s, .int m, .int (nI k), .int r7, .int r8, .int (nI 0)]) (.istore 6) 126 (by decide +kernel) rfl rfl ?_
        have LP_126 : ∀ (kk : Nat) (N_126 : Mt) (g6 : Nat), St (fun i _ => 31 ≤ i ∧ i ≤ 57) M N_126 → g6 ≤ 5 → 5 - g6 < kk → Wp d 4 126 [.ref 31, .ref s, .int m, .int (nI k), .int r7, .int r8, .int (nI g6)] [] N_126 L Q := by
          intro kk
          induction kk with
          | zero => intro N_126 g6 hS hi0_126 hm_126; exact absurd hm_126 (Nat.not_lt_zero _)
          | succ kk ih_126 =>
            intro N_126 g6 hS hi0_126 hm_126
            refine w_load (.iload 6) 128 (by decide +kernel) rfl rfl ?_
            refine w_pushN 5 129 (by decide +kernel) ?_
            refine w_cgeN 164 132 (by decide +kernel) (by omega) (by omega) (fun h10 => ?_) (fun h10 => ?_)
            · skip
              exact w_retV (by decide +kernel) (hq N_126 hS trivial)
            · skip
              refine w_load (.aload_n 0) 133 (by decide +kernel) rfl rfl ?_
              refine w_callV0 3 0 1 136 (by decide +kernel) sh_31 (Nat.le_of_ble_eq_true rfl)  (by decide) (by omega) ?_
              refine k_3 hS.1  (by omega) (fun r11 hr11 => ?_)
              dsimp only [Option.toList, List.cons_append, List.nil_append]
              refine w_ine 164 139 (by decide +kernel) (fun h12 => ?_) (fun h12 => ?_)
              · skip
                exact w_retV (by decide +kernel) (hq N_126 hS trivial)
              · skip
                refine w_load (.iload 5) 141 (by decide +kernel) rfl rfl ?_
                refine w_load (.iload 6) 143 (by decide +kernel) rfl rfl ?_
                refine w_callS2 115 2 146 (by decide +kernel) (Nat.le_of_ble_eq_true rfl) rfl rfl (by decide) (by omega) ?_
                refine k_115 hS.1  (by omega) (fun r13 hr13 => ?_)
                dsimp only [Option.toList, List.cons_append, List.nil_append]
                refine w_ieq 158 149 (by decide +kernel) (fun h14 => ?_) (fun h14 => ?_)
                · skip
                  refine w_iincN (z := 6) (g6 + 1) 161 (by decide +kernel) rfl (Nat.le_of_ble_eq_true rfl) rfl rfl ?_
                  show Wp _ _ _ [.ref 31, .ref s, .int m, .int (nI k), .int r7, .int r8, .int (nI (g6 + 1))] _ _ _ _
                  refine w_goto 126 (by decide +kernel) ?_
                  exact ih_126 N_126 (g6 + 1) hS (by omega) (by omega)
                · skip
                  refine w_load (.aload_n 0) 150 (by decide +kernel) rfl rfl ?_
                  refine w_load (.aload_n 1) 151 (by decide +kernel) rfl rfl ?_
                  refine w_load (.iload_n 2) 152 (by decide +kernel) rfl rfl ?_
                  refine w_load (.iload_n 3) 153 (by decide +kernel) rfl rfl ?_
                  refine w_load (.iload 6) 155 (by decide +kernel) rfl rfl ?_
                  refine w_callV4 5 0 9 158 (by decide +kernel) sh_31 (Nat.le_of_ble_eq_true rfl) rfl rfl rfl rfl (by decide) (by omega) ?_
                  refine k_5 hS.1 hc (by omega) (hrec (by omega)) (by omega) (fun Nr15 hTr15 hr15 => ?_)
                  have hS := hS.tr hTr15 (by intro i k; first | exact rfl | omega | (dsimp only; omega) | (simp only [Hs, Tl, Sc, isHs, isScr, isTs] at *; omega))
                  dsimp only [Option.toList, List.nil_append]
                  refine w_iincN (z := 6) (g6 + 1) 161 (by decide +kernel) rfl (Nat.le_of_ble_eq_true rfl) rfl rfl ?_
                  show Wp _ _ _ [.ref 31, .ref s, .int m, .int (nI k), .int r7, .int r8, .int (nI (g6 + 1))] _ _ _ _
                  refine w_goto 126 (by decide +kernel) ?_
                  exact ih_126 Nr15 (g6 + 1) hS (by omega) (by omega)
        exact LP_126 _ N 0 hS (by omega) (Nat.lt_succ_self _)
      · skip
        refine w_load (.aload_n 0) 85 (by decide +kernel) rfl rfl ?_
        refine w_getR (k := 0) (r := 32) 88 (by decide +kernel) sh_31 rfl ?_
        refine w_load (.iload_n 3) 89 (by decide +kernel) rfl rfl ?_
        refine w_pushN 1 90 (by decide +kernel) ?_
        refine w_addN (k + 1) 91 (by decide +kernel) (by omega) ?_
        refine w_step5 92 (by decide +kernel) (by omega) ?_
        refine w_load (.aload_n 0) 93 (by decide +kernel) rfl rfl ?_
        refine w_getR (k := 0) (r := 32) 96 (by decide +kernel) sh_31 rfl ?_
        refine w_load (.iload_n 3) 97 (by decide +kernel) rfl rfl ?_
        refine w_step5 98 (by decide +kernel) (by omega) ?_
        refine w_callV1 67 6 2 101 (by decide +kernel) (tl_step (k + 1) (by omega)).1.1 (Nat.le_of_ble_eq_true rfl) rfl (by decide) (by omega) ?_
        refine k_67 hS.1 (tl_step (k + 1) (by omega)) (tl_step k (by omega)) (by omega) (fun Nr16 hTr16 hr16 => ?_)
        have hS := hS.tr hTr16 (by intro i k; first | exact rfl | omega | (dsimp only; omega) | (simp only [Hs, Tl, Sc, isHs, isScr, isTs] at *; omega))
        dsimp only [Option.toList, List.nil_append]
        refine w_load (.aload_n 0) 102 (by decide +kernel) rfl rfl ?_
        refine w_getR (k := 0) (r := 32) 105 (by decide +kernel) sh_31 rfl ?_
        refine w_load (.iload_n 3) 106 (by decide +kernel) rfl rfl ?_
        refine w_pushN 1 107 (by decide +kernel) ?_
        refine w_addN (k + 1) 108 (by decide +kernel) (by omega) ?_
        refine w_step5 109 (by decide +kernel) (by omega) ?_
        refine w_load (.iload 4) 111 (by decide +kernel) rfl rfl ?_
        refine w_callV1 72 6 3 114 (by decide +kernel) (tl_step (k + 1) (by omega)).1.1 (Nat.le_of_ble_eq_true rfl) rfl (by decide) (by omega) ?_
        refine k_72 hS.1 (tl_step (k + 1) (by omega)) (by omega) (fun Nr17 hTr17 hr17 => ?_)
        have hS := hS.tr hTr17 (by intro i k; first | exact rfl | omega | (dsimp only; omega) | (simp only [Hs, Tl, Sc, isHs, isScr, isTs] at *; omega))
        dsimp only [Option.toList, List.nil_append]
        refine w_load (.aload_n 0) 115 (by decide +kernel) rfl rfl ?_
        refine w_load (.aload_n 1) 116 (by decide +kernel) rfl rfl ?_
        refine w_load (.iload_n 2) 117 (by decide +kernel) rfl rfl ?_
        refine w_load (.iload_n 3) 118 (by decide +kernel) rfl rfl ?_
        refine w_pushN 1 119 (by decide +kernel) ?_
        refine w_addN (k + 1) 120 (by decide +kernel) (by omega) ?_
        refine w_callV3 4 0 7 123 (by decide +kernel) sh_31 (Nat.le_of_ble_eq_true rfl) rfl rfl rfl (by decide) (by omega) ?_
        refine hrec (by omega) _ _ _ _ hS.1 (by omega) (fun Nr18 hTr18 hr18 => ?_)
        have hS := hS.tr hTr18 (by intro i k; first | exact rfl | omega | (dsimp only; omega) | (simp only [Hs, Tl, Sc, isHs, isScr, isTs] at *; omega))
        dsimp only [Option.toList, List.nil_append]
        refine w_pushN 0 124 (by decide +kernel) ?_
        refine w_store (ls' := [.ref 31, .ref s, .int m, .int (nI k), .int r7, .int r8, .int (nI 0)]) (.istore 6) 126 (by decide +kernel) rfl rfl ?_
        have LP_126 : ∀ (kk : Nat) (N_126 : Mt) (g6 : Nat), St (fun i _ => 31 ≤ i ∧ i ≤ 57) M N_126 → g6 ≤ 5 → 5 - g6 < kk → Wp d 4 126 [.ref 31, .ref s, .int m, .int (nI k), .int r7, .int r8, .int (nI g6)] [] N_126 L Q := by
          intro kk
          induction kk with
          | zero => intro N_126 g6 hS hi0_126 hm_126; exact absurd hm_126 (Nat.not_lt_zero _)
          | succ kk ih_126 =>
            intro N_126 g6 hS hi0_126 hm_126
            refine w_load (.iload 6) 128 (by decide +kernel) rfl rfl ?_
            refine w_pushN 5 129 (by decide +kernel) ?_
            refine w_cgeN 164 132 (by decide +kernel) (by omega) (by omega) (fun h19 => ?_) (fun h19 => ?_)
            · skip
              exact w_retV (by decide +kernel) (hq N_126 hS trivial)
            · skip
              refine w_load (.aload_n 0) 133 (by decide +kernel) rfl rfl ?_
              refine w_callV0 3 0 1 136 (by decide +kernel) sh_31 (Nat.le_of_ble_eq_true rfl)  (by decide) (by omega) ?_
              refine k_3 hS.1  (by omega) (fun r20 hr20 => ?_)
              dsimp only [Option.toList, List.cons_append, List.nil_append]
              refine w_ine 164 139 (by decide +kernel) (fun h21 => ?_) (fun h21 => ?_)
              · skip
                exact w_retV (by decide +kernel) (hq N_126 hS trivial)
              · skip
                refine w_load (.iload 5) 141 (by decide +kernel) rfl rfl ?_
                refine w_load (.iload 6) 143 (by decide +kernel) rfl rfl ?_
                refine w_callS2 115 2 146 (by decide +kernel) (Nat.le_of_ble_eq_true rfl) rfl rfl (by decide) (by omega) ?_
                refine k_115 hS.1  (by omega) (fun r22 hr22 => ?_)
                dsimp only [Option.toList, List.cons_append, List.nil_append]
                refine w_ieq 158 149 (by decide +kernel) (fun h23 => ?_) (fun h23 => ?_)
                · skip
                  refine w_iincN (z := 6) (g6 + 1) 161 (by decide +kernel) rfl (Nat.le_of_ble_eq_true rfl) rfl rfl ?_
                  show Wp _ _ _ [.ref 31, .ref s, .int m, .int (nI k), .int r7, .int r8, .int (nI (g6 + 1))] _ _ _ _
                  refine w_goto 126 (by decide +kernel) ?_
                  exact ih_126 N_126 (g6 + 1) hS (by omega) (by omega)
                · skip
                  refine w_load (.aload_n 0) 150 (by decide +kernel) rfl rfl ?_
                  refine w_load (.aload_n 1) 151 (by decide +kernel) rfl rfl ?_
                  refine w_load (.iload_n 2) 152 (by decide +kernel) rfl rfl ?_
                  refine w_load (.iload_n 3) 153 (by decide +kernel) rfl rfl ?_
                  refine w_load (.iload 6) 155 (by decide +kernel) rfl rfl ?_
                  refine w_callV4 5 0 9 158 (by decide +kernel) sh_31 (Nat.le_of_ble_eq_true rfl) rfl rfl rfl rfl (by decide) (by omega) ?_
                  refine k_5 hS.1 hc (by omega) (hrec (by omega)) (by omega) (fun Nr24 hTr24 hr24 => ?_)
                  have hS := hS.tr hTr24 (by intro i k; first | exact rfl | omega | (dsimp only; omega) | (simp only [Hs, Tl, Sc, isHs, isScr, isTs] at *; omega))
                  dsimp only [Option.toList, List.nil_append]
                  refine w_iincN (z := 6) (g6 + 1) 161 (by decide +kernel) rfl (Nat.le_of_ble_eq_true rfl) rfl rfl ?_
                  show Wp _ _ _ [.ref 31, .ref s, .int m, .int (nI k), .int r7, .int r8, .int (nI (g6 + 1))] _ _ _ _
                  refine w_goto 126 (by decide +kernel) ?_
                  exact ih_126 Nr24 (g6 + 1) hS (by omega) (by omega)
        exact LP_126 _ Nr18 0 hS (by omega) (Nat.lt_succ_self _)
    · skip
      refine w_load (.aload_n 0) 17 (by decide +kernel) rfl rfl ?_
      refine w_pure .dup 18 (by decide +kernel) rfl rfl ?_
      refine w_getI (k := 2) 21 (by decide +kernel) sh_31 rfl ?_
      refine w_load (.aload_n 0) 22 (by decide +kernel) rfl rfl ?_
      refine w_getR (k := 0) (r := 32) 25 (by decide +kernel) sh_31 rfl ?_
      refine w_load (.iload_n 3) 26 (by decide +kernel) rfl rfl ?_
      refine w_step5 27 (by decide +kernel) (by omega) ?_
      refine w_getR (k := 0) (r := 33 + 5 * k + 1) 30 (by decide +kernel) (tl_step k (by omega)).1.1 rfl ?_
      refine w_callV0 20 1 1 33 (by decide +kernel) (tl_step k (by omega)).1.2.1.1 (Nat.le_of_ble_eq_true rfl)  (by decide) (by omega) ?_
      refine k_20 hS.1 (tl_h (tl_step k (by omega))) (by omega) (fun r25 hr25 => ?_)
      dsimp only [Option.toList, List.cons_append, List.nil_append]
      refine w_pure .ior 34 (by decide +kernel) rfl rfl ?_
      refine w_putE (k := 2) 37 (by decide +kernel) sh_31 rfl hS (Rg.free (by simp only [Hs, Tl, Sc, isScr, isHs, isTs] at *; omega)) (by first | exact rfl | omega | (dsimp only; omega) | (simp only [Hs, Tl, Sc, isHs, isScr, isTs] at *; omega)) (fun Nq26 hS hq26 oq26 mq26 => ?_)
      refine w_load (.aload_n 0) 38 (by decide +kernel) rfl rfl ?_
      refine w_pure .dup 39 (by decide +kernel) rfl rfl ?_
      refine w_getI (k := 3) 42 (by decide +kernel) sh_31 rfl ?_
      refine w_load (.aload_n 0) 43 (by decide +kernel) rfl rfl ?_
      refine w_getR (k := 0) (r := 32) 46 (by decide +kernel) sh_31 rfl ?_
      refine w_load (.iload_n 3) 47 (by decide +kernel) rfl rfl ?_
      refine w_step5 48 (by decide +kernel) (by omega) ?_
      refine w_getR (k := 0) (r := 33 + 5 * k + 1) 51 (by decide +kernel) (tl_step k (by omega)).1.1 rfl ?_
      refine w_callV0 20 1 1 54 (by decide +kernel) (tl_step k (by omega)).1.2.1.1 (Nat.le_of_ble_eq_true rfl)  (by decide) (by omega) ?_
      refine k_20 hS.1 (tl_h (tl_step k (by omega))) (by omega) (fun r27 hr27 => ?_)
      dsimp only [Option.toList, List.cons_append, List.nil_append]
      refine w_pure .iand 55 (by decide +kernel) rfl rfl ?_
      refine w_putE (k := 3) 58 (by decide +kernel) sh_31 rfl hS (Rg.free (by simp only [Hs, Tl, Sc, isScr, isHs, isTs] at *; omega)) (by first | exact rfl | omega | (dsimp only; omega) | (simp only [Hs, Tl, Sc, isHs, isScr, isTs] at *; omega)) (fun Nq28 hS hq28 oq28 mq28 => ?_)
      exact w_retV (by decide +kernel) (hq Nq28 hS trivial)

/-- follow, by how many deeds are left -/
theorem k_4r {d : Nat} {M : Mt} {L : Lt} {Q : Option Value → Mt → Lt → Prop} {s k : Nat} {m : Int32} (hI : Inv M) (hc : Sc s) (hk : k ≤ 4) (hd : 2 * (4 - k) + 8 ≤ d) (hq : ∀ (N : Mt), St (fun i _ => 31 ≤ i ∧ i ≤ 57) M N → True → Q none N L) : Wp d 4 0 [.ref 31, .ref s, .int m, .int (nI k), .null, .null, .null] [] M L Q := by
  have key : ∀ f k : Nat, k ≤ 4 → 4 - k ≤ f → ∀ (d : Nat) (M : Mt) (L : Lt) (Q : Option Value → Mt → Lt → Prop), Inv M → 2 * (4 - k) + 8 ≤ d → (∀ (N : Mt), St (fun i _ => 31 ≤ i ∧ i ≤ 57) M N → True → Q none N L) → Wp d 4 0 [.ref 31, .ref s, .int m, .int (nI k), .null, .null, .null] [] M L Q := by
    intro f
    induction f with
    | zero => intro k hk hf d M L Q hI hd hq; exact k_4 hI hc hk (fun h => absurd h (by omega)) hd hq
    | succ f ih => intro k hk hf d M L Q hI hd hq; exact k_4 hI hc hk (fun h d N0 L Q hI hd hq => ih (k + 1) (by omega) (by omega) d N0 L Q hI hd hq) hd hq
  exact key (4 - k) k hk (Nat.le_refl _) d M L Q hI hd hq
-- X0_deadBy
set_option maxRecDepth 10000 in
theorem k_1 {d : Nat} {M : Mt} {L : Lt} {Q : Option Value → Mt → Lt → Prop} {h s : Nat} {b : Int32} (hI : Inv M) (hh : Hs h) (hc : Sc s) (hb : b = 0 ∨ b = 1) (hd : 17 ≤ d) (hq : ∀ (r : Int32) (N : Mt), St (fun i _ => 31 ≤ i ∧ i ≤ 57) M N → True → Q (some (.int r)) N L) : Wp d 1 0 [.ref 31, .ref h, .ref s, .int b] [] M L Q := by
  refine (show ∀ N : Mt, N = M → St (fun i _ => 31 ≤ i ∧ i ≤ 57) M N → Wp d 1 0 [.ref 31, .ref h, .ref s, .int b] [] N L Q from ?_) M rfl (St.rf hI)
  intro N hNM hS
  refine w_load (.aload_n 0) 1 (by decide +kernel) rfl rfl ?_
  refine w_load (.iload_n 3) 2 (by decide +kernel) rfl rfl ?_
  refine w_putZE (k := 1) 5 (by decide +kernel) sh_31 rfl hb hS (Rg.free (by simp only [Hs, Tl, Sc, isScr, isHs, isTs] at *; omega)) (by first | exact rfl | omega | (dsimp only; omega) | (simp only [Hs, Tl, Sc, isHs, isScr, isTs] at *; omega)) (fun Nq1 hS hq1 oq1 mq1 => ?_)
  refine w_load (.aload_n 0) 6 (by decide +kernel) rfl rfl ?_
  refine w_load (.aload_n 1) 7 (by decide +kernel) rfl rfl ?_
  refine w_callV0 20 1 1 10 (by decide +kernel) hh.1.1 (Nat.le_of_ble_eq_true rfl)  (by decide) (by omega) ?_
  refine k_20 hS.1 hh (by omega) (fun r2 hr2 => ?_)
  dsimp only [Option.toList, List.cons_append, List.nil_append]
  refine w_putE (k := 4) 13 (by decide +kernel) sh_31 rfl hS (Rg.free (by simp only [Hs, Tl, Sc, isScr, isHs, isTs] at *; omega)) (by first | exact rfl | omega | (dsimp only; omega) | (simp only [Hs, Tl, Sc, isHs, isScr, isTs] at *; omega)) (fun Nq3 hS hq3 oq3 mq3 => ?_)
  refine w_load (.aload_n 0) 14 (by decide +kernel) rfl rfl ?_
  refine w_load (.aload_n 0) 15 (by decide +kernel) rfl rfl ?_
  refine w_getI (k := 4) 18 (by decide +kernel) sh_31 rfl ?_
  refine w_putE (k := 2) 21 (by decide +kernel) sh_31 rfl hS (Rg.free (by simp only [Hs, Tl, Sc, isScr, isHs, isTs] at *; omega)) (by first | exact rfl | omega | (dsimp only; omega) | (simp only [Hs, Tl, Sc, isHs, isScr, isTs] at *; omega)) (fun Nq4 hS hq4 oq4 mq4 => ?_)
  refine w_load (.aload_n 0) 22 (by decide +kernel) rfl rfl ?_
  refine w_load (.aload_n 1) 23 (by decide +kernel) rfl rfl ?_
  refine w_callV0 18 1 1 26 (by decide +kernel) hh.1.1 (Nat.le_of_ble_eq_true rfl)  (by decide) (by omega) ?_
  refine k_18 hS.1 hh (by omega) (fun r5 hr5 => ?_)
  dsimp only [Option.toList, List.cons_append, List.nil_append]
  refine w_putE (k := 3) 29 (by decide +kernel) sh_31 rfl hS (Rg.free (by simp only [Hs, Tl, Sc, isScr, isHs, isTs] at *; omega)) (by first | exact rfl | omega | (dsimp only; omega) | (simp only [Hs, Tl, Sc, isHs, isScr, isTs] at *; omega)) (fun Nq6 hS hq6 oq6 mq6 => ?_)
  refine w_load (.aload_n 0) 30 (by decide +kernel) rfl rfl ?_
  refine w_getR (k := 0) (r := 32) 33 (by decide +kernel) sh_31 rfl ?_
  refine w_pushN 0 34 (by decide +kernel) ?_
  refine w_step5 35 (by decide +kernel) (by omega) ?_
  show Wp _ _ _ _ (.ref 33 :: _) _ _ _
  refine w_load (.aload_n 1) 36 (by decide +kernel) rfl rfl ?_
  refine w_callV1 66 6 3 39 (by decide +kernel) sh_33 (Nat.le_of_ble_eq_true rfl) rfl (by decide) (by omega) ?_
  refine k_66 hS.1 tl_33 hh (by omega) (fun Nr7 hTr7 hr7 => ?_)
  have hS := hS.tr hTr7 (by intro i k; first | exact rfl | omega | (dsimp only; omega) | (simp only [Hs, Tl, Sc, isHs, isScr, isTs] at *; omega))
  dsimp only [Option.toList, List.nil_append]
  refine w_load (.aload_n 0) 40 (by decide +kernel) rfl rfl ?_
  refine w_load (.aload_n 2) 41 (by decide +kernel) rfl rfl ?_
  refine w_load (.aload_n 2) 42 (by decide +kernel) rfl rfl ?_
  refine w_callS1 2 4 45 (by decide +kernel) (Nat.le_of_ble_eq_true rfl) rfl (by decide) (by omega) ?_
  refine k_2 hS.1 hc (by omega) (fun r8 hr8 => ?_)
  dsimp only [Option.toList, List.cons_append, List.nil_append]
  refine w_pushN 0 46 (by decide +kernel) ?_
  refine w_callV3 4 0 7 49 (by decide +kernel) sh_31 (Nat.le_of_ble_eq_true rfl) rfl rfl rfl (by decide) (by omega) ?_
  refine k_4r hS.1 hc (by omega) (by omega) (fun Nr9 hTr9 hr9 => ?_)
  have hS := hS.tr hTr9 (by intro i k; first | exact rfl | omega | (dsimp only; omega) | (simp only [Hs, Tl, Sc, isHs, isScr, isTs] at *; omega))
  dsimp only [Option.toList, List.nil_append]
  refine w_load (.aload_n 0) 50 (by decide +kernel) rfl rfl ?_
  refine w_getI (k := 1) 53 (by decide +kernel) sh_31 rfl ?_
  refine w_ieq 63 56 (by decide +kernel) (fun h10 => ?_) (fun h10 => ?_)
  · skip
    refine w_load (.aload_n 0) 64 (by decide +kernel) rfl rfl ?_
    refine w_getI (k := 2) 67 (by decide +kernel) sh_31 rfl ?_
    exact w_ret (by decide +kernel) (hq _ Nr9 hS trivial)
  · skip
    refine w_load (.aload_n 0) 57 (by decide +kernel) rfl rfl ?_
    refine w_getI (k := 3) 60 (by decide +kernel) sh_31 rfl ?_
    refine w_goto 67 (by decide +kernel) ?_
    exact w_ret (by decide +kernel) (hq _ Nr9 hS trivial)
