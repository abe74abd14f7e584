-- X3_isEnd
set_option maxRecDepth 10000 in
theorem k_53 {d : Nat} {M : Mt} {L : Lt} {Q : Option Value → Mt → Lt → Prop} {h : Nat} {g e v : Int32} (hI : Inv M) (hh : Hs h) (hd : 2 ≤ d) (hq : ∀ (r : Int32), (r = 0 ∨ r = 1) → Q (some (.int r)) M L) : Wp d 53 0 [.ref h, .int g, .int e, .int v] [] M L Q := by
  refine w_load (.iload_n 2) 1 (by decide +kernel) rfl rfl ?_
  refine w_tab (show insAt 53 1 = some (.tableswitch 71 0 2 #[27, 41, 56]) by decide +kernel) (fun h1 => ⟨72, rfl, ?_⟩) (fun z2 h1 h1b => ?_)
  · skip
    refine w_load (.aload_n 0) 73 (by decide +kernel) rfl rfl ?_
    refine w_load (.iload_n 1) 74 (by decide +kernel) rfl rfl ?_
    refine w_callV1 12 1 2 77 (by decide +kernel) hh.1.1 (Nat.le_of_ble_eq_true rfl) rfl (by decide) (by omega) ?_
    refine k_12 hI hh (by omega) (fun r3 hr3 => ?_)
    dsimp only [Option.toList, List.cons_append, List.nil_append]
    refine w_load (.iload_n 3) 78 (by decide +kernel) rfl rfl ?_
    refine w_cne 85 81 (by decide +kernel) (fun h4 => ?_) (fun h4 => ?_)
    · skip
      refine w_pushN 0 86 (by decide +kernel) ?_
      exact w_retZ (by decide +kernel) (Or.inl rfl) (hq _ (Or.inl rfl))
    · skip
      refine w_pushN 1 82 (by decide +kernel) ?_
      refine w_goto 86 (by decide +kernel) ?_
      exact w_retZ (by decide +kernel) (Or.inr rfl) (hq _ (Or.inr rfl))
  · rcases (by omega : z2 = 0 ∨ z2 = 1 ∨ z2 = 2) with rfl | rfl | rfl
    · refine ⟨_, 28, rfl, rfl, ?_⟩
      refine w_load (.aload_n 0) 29 (by decide +kernel) rfl rfl ?_
      refine w_load (.iload_n 1) 30 (by decide +kernel) rfl rfl ?_
      refine w_callV1 16 1 2 33 (by decide +kernel) hh.1.1 (Nat.le_of_ble_eq_true rfl) rfl (by decide) (by omega) ?_
      refine k_16 hI hh (by omega) (fun r5 hr5 => ?_)
      dsimp only [Option.toList, List.cons_append, List.nil_append]
      refine w_ine 40 36 (by decide +kernel) (fun h6 => ?_) (fun h6 => ?_)
      · skip
        refine w_pushN 0 41 (by decide +kernel) ?_
        exact w_retZ (by decide +kernel) (Or.inl rfl) (hq _ (Or.inl rfl))
      · skip
        refine w_pushN 1 37 (by decide +kernel) ?_
        refine w_goto 41 (by decide +kernel) ?_
        exact w_retZ (by decide +kernel) (Or.inr rfl) (hq _ (Or.inr rfl))
    · refine ⟨_, 42, rfl, rfl, ?_⟩
      refine w_load (.aload_n 0) 43 (by decide +kernel) rfl rfl ?_
      refine w_load (.iload_n 1) 44 (by decide +kernel) rfl rfl ?_
      refine w_callV1 14 1 2 47 (by decide +kernel) hh.1.1 (Nat.le_of_ble_eq_true rfl) rfl (by decide) (by omega) ?_
      refine k_14 hI hh (by omega) (fun r7 hr7 => ?_)
      dsimp only [Option.toList, List.cons_append, List.nil_append]
      refine w_load (.iload_n 3) 48 (by decide +kernel) rfl rfl ?_
      refine w_cne 55 51 (by decide +kernel) (fun h8 => ?_) (fun h8 => ?_)
      · skip
        refine w_pushN 0 56 (by decide +kernel) ?_
        exact w_retZ (by decide +kernel) (Or.inl rfl) (hq _ (Or.inl rfl))
      · skip
        refine w_pushN 1 52 (by decide +kernel) ?_
        refine w_goto 56 (by decide +kernel) ?_
        exact w_retZ (by decide +kernel) (Or.inr rfl) (hq _ (Or.inr rfl))
    · refine ⟨_, 57, rfl, rfl, ?_⟩
      refine w_load (.aload_n 0) 58 (by decide +kernel) rfl rfl ?_
      refine w_load (.iload_n 1) 59 (by decide +kernel) rfl rfl ?_
      refine w_callV1 13 1 2 62 (by decide +kernel) hh.1.1 (Nat.le_of_ble_eq_true rfl) rfl (by decide) (by omega) ?_
      refine k_13 hI hh (by omega) (fun r9 hr9 => ?_)
      dsimp only [Option.toList, List.cons_append, List.nil_append]
      refine w_load (.iload_n 3) 63 (by decide +kernel) rfl rfl ?_
      refine w_clt 70 66 (by decide +kernel) (fun h10 => ?_) (fun h10 => ?_)
      · skip
        refine w_pushN 0 71 (by decide +kernel) ?_
        exact w_retZ (by decide +kernel) (Or.inl rfl) (hq _ (Or.inl rfl))
      · skip
        refine w_pushN 1 67 (by decide +kernel) ?_
        refine w_goto 71 (by decide +kernel) ?_
        exact w_retZ (by decide +kernel) (Or.inr rfl) (hq _ (Or.inr rfl))
-- X3_lastDeedBehind
set_option maxRecDepth 10000 in
theorem k_52 {d : Nat} {M : Mt} {L : Lt} {Q : Option Value → Mt → Lt → Prop} {t e : Nat} {g v : Int32} (hI : Inv M) (ht : Tl t) (he : e ≤ 3) (hd : 5 ≤ d) (hq : ∀ (r : Int32) (N : Mt), St (fun i _ => 15 ≤ i ∧ i ≤ 30) M N → True → Q (some (.int r)) N L) : Wp d 52 0 [.ref 15, .ref t, .int g, .int (nI e), .int v, .null, .null] [] M L Q := by
  refine (show ∀ N : Mt, N = M → St (fun i _ => 15 ≤ i ∧ i ≤ 30) M N → Wp d 52 0 [.ref 15, .ref t, .int g, .int (nI e), .int v, .null, .null] [] N L Q from ?_) M rfl (St.rf hI)
  intro N hNM hS
  refine w_load (.iload_n 3) 1 (by decide +kernel) rfl rfl ?_
  refine w_pushN 16 3 (by decide +kernel) ?_
  refine w_mulN (e * 16) 4 (by decide +kernel) rfl ?_
  refine w_store (ls' := [.ref 15, .ref t, .int g, .int (nI e), .int v, .int (nI (e * 16)), .null]) (.istore 5) 6 (by decide +kernel) rfl rfl ?_
  refine w_load (.iload 5) 8 (by decide +kernel) rfl rfl ?_
  refine w_store (ls' := [.ref 15, .ref t, .int g, .int (nI e), .int v, .int (nI (e * 16)), .int (nI (e * 16))]) (.istore 6) 10 (by decide +kernel) rfl rfl ?_
  have LP_10 : ∀ (kk : Nat) (N_10 : Mt) (g6 : Nat), St (fun i _ => 15 ≤ i ∧ i ≤ 30) M N_10 → g6 ≤ e * 16 + 16 → e * 16 + 16 - g6 < kk → Wp d 52 10 [.ref 15, .ref t, .int g, .int (nI e), .int v, .int (nI (e * 16)), .int (nI g6)] [] N_10 L Q := by
    intro kk
    induction kk with
    | zero => intro N_10 g6 hS hi0_10 hm_10; exact absurd hm_10 (Nat.not_lt_zero _)
    | succ kk ih_10 =>
      intro N_10 g6 hS hi0_10 hm_10
      refine w_load (.iload 6) 12 (by decide +kernel) rfl rfl ?_
      refine w_load (.iload 5) 14 (by decide +kernel) rfl rfl ?_
      refine w_pushN 16 16 (by decide +kernel) ?_
      refine w_addN (e * 16 + 16) 17 (by decide +kernel) (by omega) ?_
      refine w_cgeN 64 20 (by decide +kernel) (by omega) (by omega) (fun h1 => ?_) (fun h1 => ?_)
      · skip
        refine w_push (-9) 66 (by decide +kernel) ?_
        exact w_ret (by decide +kernel) (hq _ N_10 hS trivial)
      · skip
        refine w_load (.aload_n 0) 21 (by decide +kernel) rfl rfl ?_
        refine w_getR (k := 2) (r := 26) 24 (by decide +kernel) sh_15 rfl ?_
        refine w_load (.aload_n 1) 25 (by decide +kernel) rfl rfl ?_
        refine w_callV1 67 6 2 28 (by decide +kernel) sh_26 (Nat.le_of_ble_eq_true rfl) rfl (by decide) (by omega) ?_
        refine k_67 hS.1 tl_26 ht (by omega) (fun Nr2 hTr2 hr2 => ?_)
        have hS := hS.tr hTr2 (by intro i k; first | exact rfl | omega | (dsimp only; omega) | (simp only [Hs, Tl, Sc, isHs, isScr, isTs] at *; omega))
        dsimp only [Option.toList, List.nil_append]
        refine w_load (.aload_n 0) 29 (by decide +kernel) rfl rfl ?_
        refine w_getR (k := 2) (r := 26) 32 (by decide +kernel) sh_15 rfl ?_
        refine w_load (.iload 6) 34 (by decide +kernel) rfl rfl ?_
        refine w_pushN 1 35 (by decide +kernel) ?_
        refine w_callV2 69 6 6 38 (by decide +kernel) sh_26 (Nat.le_of_ble_eq_true rfl) rfl rfl (by decide) (by omega) ?_
        refine k_69 hS.1 tl_26 (by omega) (fun Nr3 hTr3 hr3 => ?_)
        have hS := hS.tr hTr3 (by intro i k; first | exact rfl | omega | (dsimp only; omega) | (simp only [Hs, Tl, Sc, isHs, isScr, isTs] at *; omega))
        dsimp only [Option.toList, List.nil_append]
        refine w_load (.aload_n 0) 39 (by decide +kernel) rfl rfl ?_
        refine w_getR (k := 2) (r := 26) 42 (by decide +kernel) sh_15 rfl ?_
        refine w_getR (k := 0) (r := 27) 45 (by decide +kernel) sh_26 rfl ?_
        refine w_load (.iload_n 2) 46 (by decide +kernel) rfl rfl ?_
        refine w_load (.iload_n 3) 47 (by decide +kernel) rfl rfl ?_
        refine w_load (.iload 4) 49 (by decide +kernel) rfl rfl ?_
        refine w_callS4 53 4 52 (by decide +kernel) (Nat.le_of_ble_eq_true rfl) rfl rfl rfl rfl (by decide) (by omega) ?_
        refine k_53 hS.1 hs_27 (by omega) (fun r4 hr4 => ?_)
        dsimp only [Option.toList, List.cons_append, List.nil_append]
        refine w_ieq 58 55 (by decide +kernel) (fun h5 => ?_) (fun h5 => ?_)
        · skip
          refine w_iincN (z := 6) (g6 + 1) 61 (by decide +kernel) rfl (Nat.le_of_ble_eq_true rfl) rfl rfl ?_
          show Wp _ _ _ [.ref 15, .ref t, .int g, .int (nI e), .int v, .int (nI (e * 16)), .int (nI (g6 + 1))] _ _ _ _
          refine w_goto 10 (by decide +kernel) ?_
          exact ih_10 Nr3 (g6 + 1) hS (by omega) (by omega)
        · skip
          refine w_load (.iload 6) 57 (by decide +kernel) rfl rfl ?_
          exact w_ret (by decide +kernel) (hq _ Nr3 hS trivial)
  exact LP_10 _ N (e * 16) hS (by omega) (Nat.lt_succ_self _)
-- X3_seek
set_option maxRecDepth 10000 in
theorem k_51 {d : Nat} {M : Mt} {L : Lt} {Q : Option Value → Mt → Lt → Prop} {h e : Nat} {g v : Int32} (hI : Inv M) (hh : Hs h) (he : e ≤ 3) (hd : 6 ≤ d) (hq : ∀ (N : Mt), St (fun i _ => 15 ≤ i ∧ i ≤ 30) M N → True → Q none N L) : Wp d 51 0 [.ref 15, .ref h, .int g, .int (nI e), .int v, .null] [] M L Q := by
  refine (show ∀ N : Mt, N = M → St (fun i _ => 15 ≤ i ∧ i ≤ 30) M N → Wp d 51 0 [.ref 15, .ref h, .int g, .int (nI e), .int v, .null] [] N L Q from ?_) M rfl (St.rf hI)
  intro N hNM hS
  refine w_load (.aload_n 0) 1 (by decide +kernel) rfl rfl ?_
  refine w_getR (k := 0) (r := 16) 4 (by decide +kernel) sh_15 rfl ?_
  refine w_load (.aload_n 1) 5 (by decide +kernel) rfl rfl ?_
  refine w_callV1 66 6 3 8 (by decide +kernel) sh_16 (Nat.le_of_ble_eq_true rfl) rfl (by decide) (by omega) ?_
  refine k_66 hS.1 tl_16 hh (by omega) (fun Nr1 hTr1 hr1 => ?_)
  have hS := hS.tr hTr1 (by intro i k; first | exact rfl | omega | (dsimp only; omega) | (simp only [Hs, Tl, Sc, isHs, isScr, isTs] at *; omega))
  dsimp only [Option.toList, List.nil_append]
  refine w_load (.aload_n 1) 9 (by decide +kernel) rfl rfl ?_
  refine w_load (.iload_n 2) 10 (by decide +kernel) rfl rfl ?_
  refine w_load (.iload_n 3) 11 (by decide +kernel) rfl rfl ?_
  refine w_load (.iload 4) 13 (by decide +kernel) rfl rfl ?_
  refine w_callS4 53 4 16 (by decide +kernel) (Nat.le_of_ble_eq_true rfl) rfl rfl rfl rfl (by decide) (by omega) ?_
  refine k_53 hS.1 hh (by omega) (fun r2 hr2 => ?_)
  dsimp only [Option.toList, List.cons_append, List.nil_append]
  refine w_ieq 25 19 (by decide +kernel) (fun h3 => ?_) (fun h3 => ?_)
  · skip
    refine w_load (.aload_n 0) 26 (by decide +kernel) rfl rfl ?_
    refine w_load (.aload_n 0) 27 (by decide +kernel) rfl rfl ?_
    refine w_load (.aload_n 0) 28 (by decide +kernel) rfl rfl ?_
    refine w_getR (k := 0) (r := 16) 31 (by decide +kernel) sh_15 rfl ?_
    refine w_load (.iload_n 2) 32 (by decide +kernel) rfl rfl ?_
    refine w_load (.iload_n 3) 33 (by decide +kernel) rfl rfl ?_
    refine w_load (.iload 4) 35 (by decide +kernel) rfl rfl ?_
    refine w_callV4 52 3 7 38 (by decide +kernel) sh_15 (Nat.le_of_ble_eq_true rfl) rfl rfl rfl rfl (by decide) (by omega) ?_
    refine k_52 hS.1 tl_16 (by omega) (by omega) (fun r4 Nr4 hTr4 hr4 => ?_)
    have hS := hS.tr hTr4 (by intro i k; first | exact rfl | omega | (dsimp only; omega) | (simp only [Hs, Tl, Sc, isHs, isScr, isTs] at *; omega))
    dsimp only [Option.toList, List.cons_append, List.nil_append]
    refine w_putE (k := 4) 41 (by decide +kernel) sh_15 rfl hS (Rg.free (by simp only [Hs, Tl, Sc, isScr, isHs, isTs] at *; omega)) (by first | exact rfl | omega | (dsimp only; omega) | (simp only [Hs, Tl, Sc, isHs, isScr, isTs] at *; omega)) (fun Nq5 hS hq5 oq5 mq5 => ?_)
    refine w_load (.aload_n 0) 42 (by decide +kernel) rfl rfl ?_
    refine w_getI (k := 4) 45 (by decide +kernel) sh_15 rfl ?_
    refine w_push (-9) 47 (by decide +kernel) ?_
    refine w_ceq 56 50 (by decide +kernel) (fun h6 => ?_) (fun h6 => ?_)
    · skip
      refine w_pushN 0 57 (by decide +kernel) ?_
      refine w_store (ls' := [.ref 15, .ref h, .int g, .int (nI e), .int v, .int (nI 0)]) (.istore 5) 59 (by decide +kernel) rfl rfl ?_
      have LP_59 : ∀ (kk : Nat) (N_59 : Mt) (g5 : Nat), St (fun i _ => 15 ≤ i ∧ i ≤ 30) M N_59 → g5 ≤ 64 → 64 - g5 < kk → Wp d 51 59 [.ref 15, .ref h, .int g, .int (nI e), .int v, .int (nI g5)] [] N_59 L Q := by
        intro kk
        induction kk with
        | zero => intro N_59 g5 hS hi0_59 hm_59; exact absurd hm_59 (Nat.not_lt_zero _)
        | succ kk ih_59 =>
          intro N_59 g5 hS hi0_59 hm_59
          refine w_load (.iload 5) 61 (by decide +kernel) rfl rfl ?_
          refine w_pushN 64 63 (by decide +kernel) ?_
          refine w_cgeN 130 66 (by decide +kernel) (by omega) (by omega) (fun h7 => ?_) (fun h7 => ?_)
          · skip
            refine w_load (.aload_n 0) 131 (by decide +kernel) rfl rfl ?_
            refine w_push (-9) 133 (by decide +kernel) ?_
            refine w_putE (k := 3) 136 (by decide +kernel) sh_15 rfl hS (Rg.free (by simp only [Hs, Tl, Sc, isScr, isHs, isTs] at *; omega)) (by first | exact rfl | omega | (dsimp only; omega) | (simp only [Hs, Tl, Sc, isHs, isScr, isTs] at *; omega)) (fun Nq8 hS hq8 oq8 mq8 => ?_)
            exact w_retV (by decide +kernel) (hq Nq8 hS trivial)
          · skip
            refine w_load (.aload_n 0) 67 (by decide +kernel) rfl rfl ?_
            refine w_getR (k := 1) (r := 21) 70 (by decide +kernel) sh_15 rfl ?_
            refine w_load (.aload_n 0) 71 (by decide +kernel) rfl rfl ?_
            refine w_getR (k := 0) (r := 16) 74 (by decide +kernel) sh_15 rfl ?_
            refine w_callV1 67 6 2 77 (by decide +kernel) sh_21 (Nat.le_of_ble_eq_true rfl) rfl (by decide) (by omega) ?_
            refine k_67 hS.1 tl_21 tl_16 (by omega) (fun Nr9 hTr9 hr9 => ?_)
            have hS := hS.tr hTr9 (by intro i k; first | exact rfl | omega | (dsimp only; omega) | (simp only [Hs, Tl, Sc, isHs, isScr, isTs] at *; omega))
            dsimp only [Option.toList, List.nil_append]
            refine w_load (.aload_n 0) 78 (by decide +kernel) rfl rfl ?_
            refine w_getR (k := 1) (r := 21) 81 (by decide +kernel) sh_15 rfl ?_
            refine w_load (.iload 5) 83 (by decide +kernel) rfl rfl ?_
            refine w_pushN 0 84 (by decide +kernel) ?_
            refine w_callV2 69 6 6 87 (by decide +kernel) sh_21 (Nat.le_of_ble_eq_true rfl) rfl rfl (by decide) (by omega) ?_
            refine k_69 hS.1 tl_21 (by omega) (fun Nr10 hTr10 hr10 => ?_)
            have hS := hS.tr hTr10 (by intro i k; first | exact rfl | omega | (dsimp only; omega) | (simp only [Hs, Tl, Sc, isHs, isScr, isTs] at *; omega))
            dsimp only [Option.toList, List.nil_append]
            refine w_load (.aload_n 0) 88 (by decide +kernel) rfl rfl ?_
            refine w_load (.aload_n 0) 89 (by decide +kernel) rfl rfl ?_
            refine w_load (.aload_n 0) 90 (by decide +kernel) rfl rfl ?_
            refine w_getR (k := 1) (r := 21) 93 (by decide +kernel) sh_15 rfl ?_
            refine w_load (.iload_n 2) 94 (by decide +kernel) rfl rfl ?_
            refine w_load (.iload_n 3) 95 (by decide +kernel) rfl rfl ?_
            refine w_load (.iload 4) 97 (by decide +kernel) rfl rfl ?_
            refine w_callV4 52 3 7 100 (by decide +kernel) sh_15 (Nat.le_of_ble_eq_true rfl) rfl rfl rfl rfl (by decide) (by omega) ?_
            refine k_52 hS.1 tl_21 (by omega) (by omega) (fun r11 Nr11 hTr11 hr11 => ?_)
            have hS := hS.tr hTr11 (by intro i k; first | exact rfl | omega | (dsimp only; omega) | (simp only [Hs, Tl, Sc, isHs, isScr, isTs] at *; omega))
            dsimp only [Option.toList, List.cons_append, List.nil_append]
            refine w_putE (k := 5) 103 (by decide +kernel) sh_15 rfl hS (Rg.free (by simp only [Hs, Tl, Sc, isScr, isHs, isTs] at *; omega)) (by first | exact rfl | omega | (dsimp only; omega) | (simp only [Hs, Tl, Sc, isHs, isScr, isTs] at *; omega)) (fun Nq12 hS hq12 oq12 mq12 => ?_)
            refine w_load (.aload_n 0) 104 (by decide +kernel) rfl rfl ?_
            refine w_getI (k := 5) 107 (by decide +kernel) sh_15 rfl ?_
            refine w_push (-9) 109 (by decide +kernel) ?_
            refine w_ceq 124 112 (by decide +kernel) (fun h13 => ?_) (fun h13 => ?_)
            · skip
              refine w_iincN (z := 5) (g5 + 1) 127 (by decide +kernel) rfl (Nat.le_of_ble_eq_true rfl) rfl rfl ?_
              show Wp _ _ _ [.ref 15, .ref h, .int g, .int (nI e), .int v, .int (nI (g5 + 1))] _ _ _ _
              refine w_goto 59 (by decide +kernel) ?_
              exact ih_59 Nq12 (g5 + 1) hS (by omega) (by omega)
            · skip
              refine w_load (.aload_n 0) 113 (by decide +kernel) rfl rfl ?_
              refine w_load (.iload 5) 115 (by decide +kernel) rfl rfl ?_
              refine w_putE (k := 4) 118 (by decide +kernel) sh_15 rfl hS (Rg.free (by simp only [Hs, Tl, Sc, isScr, isHs, isTs] at *; omega)) (by first | exact rfl | omega | (dsimp only; omega) | (simp only [Hs, Tl, Sc, isHs, isScr, isTs] at *; omega)) (fun Nq14 hS hq14 oq14 mq14 => ?_)
              refine w_load (.aload_n 0) 119 (by decide +kernel) rfl rfl ?_
              refine w_pushN 2 120 (by decide +kernel) ?_
              refine w_putE (k := 3) 123 (by decide +kernel) sh_15 rfl hS (Rg.free (by simp only [Hs, Tl, Sc, isScr, isHs, isTs] at *; omega)) (by first | exact rfl | omega | (dsimp only; omega) | (simp only [Hs, Tl, Sc, isHs, isScr, isTs] at *; omega)) (fun Nq15 hS hq15 oq15 mq15 => ?_)
              exact w_retV (by decide +kernel) (hq Nq15 hS trivial)
      exact LP_59 _ Nq5 0 hS (by omega) (Nat.lt_succ_self _)
    · skip
      refine w_load (.aload_n 0) 51 (by decide +kernel) rfl rfl ?_
      refine w_pushN 1 52 (by decide +kernel) ?_
      refine w_putE (k := 3) 55 (by decide +kernel) sh_15 rfl hS (Rg.free (by simp only [Hs, Tl, Sc, isScr, isHs, isTs] at *; omega)) (by first | exact rfl | omega | (dsimp only; omega) | (simp only [Hs, Tl, Sc, isHs, isScr, isTs] at *; omega)) (fun Nq16 hS hq16 oq16 mq16 => ?_)
      exact w_retV (by decide +kernel) (hq Nq16 hS trivial)
  · skip
    refine w_load (.aload_n 0) 20 (by decide +kernel) rfl rfl ?_
    refine w_pushN 0 21 (by decide +kernel) ?_
    refine w_putE (k := 3) 24 (by decide +kernel) sh_15 rfl hS (Rg.free (by simp only [Hs, Tl, Sc, isScr, isHs, isTs] at *; omega)) (by first | exact rfl | omega | (dsimp only; omega) | (simp only [Hs, Tl, Sc, isHs, isScr, isTs] at *; omega)) (fun Nq17 hS hq17 oq17 mq17 => ?_)
    exact w_retV (by decide +kernel) (hq Nq17 hS trivial)
