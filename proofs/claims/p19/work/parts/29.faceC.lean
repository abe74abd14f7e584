theorem only0 : ∀ z, ([3, 5, 6, 9, 12, 17, 33, 60, 62, 64, 66, 69, 70, 71, 0, 0, 1] : List Nat)[z]? = some 1 → z = 16 := fun z hz => (by decide : ∀ z, z < 17 → ([3, 5, 6, 9, 12, 17, 33, 60, 62, 64, 66, 69, 70, 71, 0, 0, 1] : List Nat)[z]? = some 1 → z = 16) z (List.getElem?_eq_some_iff.mp hz).1 hz
theorem only76 : ∀ z, ([0, 79, 80, 81, 0, 82, 83, 0, 0, 0, 84, 0, 85, 86, 87, 0, 88, 89, 1, 90, 91] : List Nat)[z]? = some 1 → z = 18 := fun z hz => (by decide : ∀ z, z < 21 → ([0, 79, 80, 81, 0, 82, 83, 0, 0, 0, 84, 0, 85, 86, 87, 0, 88, 89, 1, 90, 91] : List Nat)[z]? = some 1 → z = 18) z (List.getElem?_eq_some_iff.mp hz).1 hz
-- X7_meanAsSupposed
set_option maxRecDepth 10000 in
theorem k_126 {d : Nat} {M : Mt} {L : Lt} {Q : Option Value → Mt → Lt → Prop} {g : Int32} (hI : Inv M)  (hd : 6 ≤ d) (hq : ∀ (r : Int32) (N : Mt), St (fun i _ => (7 ≤ i ∧ i ≤ 57) ∨ i = 63 ∨ i = 68 ∨ i = 69) M N → True → Q (some (.int r)) N L) : Wp d 126 0 [.ref 0, .int g, .null, .null] [] M L Q := by
  refine (show ∀ N : Mt, N = M → St (fun i _ => (7 ≤ i ∧ i ≤ 57) ∨ i = 63 ∨ i = 68 ∨ i = 69) M N → Wp d 126 0 [.ref 0, .int g, .null, .null] [] N L Q from ?_) M rfl (St.rf hI)
  intro N hNM hS
  refine w_pushN 0 1 (by decide +kernel) ?_
  refine w_store (ls' := [.ref 0, .int g, .int (nI 0), .null]) (.istore_n 2) 2 (by decide +kernel) rfl rfl ?_
  refine w_pushN 0 3 (by decide +kernel) ?_
  refine w_store (ls' := [.ref 0, .int g, .int (nI 0), .int (nI 0)]) (.istore_n 3) 4 (by decide +kernel) rfl rfl ?_
  have LP_4 : ∀ (kk : Nat) (N_4 : Mt) (x2_4 : Int32) (g3 : Nat), St (fun i _ => (7 ≤ i ∧ i ≤ 57) ∨ i = 63 ∨ i = 68 ∨ i = 69) M N_4 → g3 ≤ 3 → 3 - g3 < kk → Wp d 126 4 [.ref 0, .int g, .int x2_4, .int (nI g3)] [] N_4 L Q := by
    intro kk
    induction kk with
    | zero => intro N_4 x2_4 g3 hS hi0_4 hm_4; exact absurd hm_4 (Nat.not_lt_zero _)
    | succ kk ih_4 =>
      intro N_4 x2_4 g3 hS hi0_4 hm_4
      refine w_load (.iload_n 3) 5 (by decide +kernel) rfl rfl ?_
      refine w_pushN 3 6 (by decide +kernel) ?_
      refine w_cgeN 53 9 (by decide +kernel) (by omega) (by omega) (fun h1 => ?_) (fun h1 => ?_)
      · skip
        refine w_load (.iload_n 2) 54 (by decide +kernel) rfl rfl ?_
        exact w_ret (by decide +kernel) (hq _ N_4 hS trivial)
      · skip
        refine w_load (.aload_n 0) 10 (by decide +kernel) rfl rfl ?_
        refine w_getR (k := 4) (r := 10) 13 (by decide +kernel) sh_0 rfl ?_
        refine w_load (.aload_n 0) 14 (by decide +kernel) rfl rfl ?_
        refine w_getR (k := 3) (r := 7) 17 (by decide +kernel) sh_0 rfl ?_
        refine w_load (.aload_n 0) 18 (by decide +kernel) rfl rfl ?_
        refine w_getR (k := 1) (r := 3) 21 (by decide +kernel) sh_0 rfl ?_
        refine w_load (.iload_n 3) 22 (by decide +kernel) rfl rfl ?_
        refine w_tale 23 (by decide +kernel) (by omega) ?_
        refine w_callV2 68 6 5 26 (by decide +kernel) sh_10 (Nat.le_of_ble_eq_true rfl) rfl rfl (by decide) (by omega) ?_
        refine k_68 hS.1 tl_10 hs_7 (sc_tale g3 (by omega)) (by omega) (fun Nr2 hTr2 hr2 => ?_)
        have hS := hS.tr hTr2 (by intro i k; first | exact rfl | exact fun h => h.elim | omega | (dsimp only; omega) | (simp only [Hs, Tl, Sc, isHs, isScr, isTs] at *; omega))
        dsimp only [Option.toList, List.nil_append]
        refine w_load (.iload_n 2) 27 (by decide +kernel) rfl rfl ?_
        refine w_load (.aload_n 0) 28 (by decide +kernel) rfl rfl ?_
        refine w_getR (k := 11) (r := 67) 31 (by decide +kernel) sh_0 rfl ?_
        refine w_load (.iload_n 3) 32 (by decide +kernel) rfl rfl ?_
        refine w_ialdN 33 (by decide +kernel) sh_67 (by omega) (by omega) ?_
        refine w_load (.aload_n 0) 34 (by decide +kernel) rfl rfl ?_
        refine w_getR (k := 4) (r := 10) 37 (by decide +kernel) sh_0 rfl ?_
        refine w_getR (k := 0) (r := 11) 40 (by decide +kernel) sh_10 rfl ?_
        refine w_load (.iload_n 1) 41 (by decide +kernel) rfl rfl ?_
        refine w_callV1 17 1 2 44 (by decide +kernel) sh_11 (Nat.le_of_ble_eq_true rfl) rfl (by decide) (by omega) ?_
        refine k_17 hS.1 hs_11 (by omega) (fun r3 hr3 => ?_)
        dsimp only [Option.toList, List.cons_append, List.nil_append]
        refine w_pure .imul 45 (by decide +kernel) rfl rfl ?_
        refine w_pure .iadd 46 (by decide +kernel) rfl rfl ?_
        refine w_topi (fun v4 ev4 => ?_)
        refine w_store (ls' := [.ref 0, .int g, .int v4, .int (nI g3)]) (.istore_n 2) 47 (by decide +kernel) rfl rfl ?_
        refine w_iincN (z := 3) (g3 + 1) 50 (by decide +kernel) rfl (Nat.le_of_ble_eq_true rfl) rfl rfl ?_
        show Wp _ _ _ [.ref 0, .int g, .int v4, .int (nI (g3 + 1))] _ _ _ _
        refine w_goto 4 (by decide +kernel) ?_
        exact ih_4 Nr2 _ (g3 + 1) hS (by omega) (by omega)
  exact LP_4 _ N _ 0 hS (by omega) (Nat.lt_succ_self _)
-- X7_mean
set_option maxRecDepth 10000 in
theorem k_97 {d : Nat} {M : Mt} {L : Lt} {Q : Option Value → Mt → Lt → Prop} {g : Int32} {a : Int32} (hI : Inv M)  (hd : 7 ≤ d) (hq : ∀ (r : Int32) (N : Mt), St (fun i _ => (7 ≤ i ∧ i ≤ 57) ∨ i = 63 ∨ i = 68 ∨ i = 69) M N → True → Q (some (.int r)) N L) : Wp d 97 0 [.ref 0, .int g, .int a] [] M L Q := by
  refine (show ∀ N : Mt, N = M → St (fun i _ => (7 ≤ i ∧ i ≤ 57) ∨ i = 63 ∨ i = 68 ∨ i = 69) M N → Wp d 97 0 [.ref 0, .int g, .int a] [] N L Q from ?_) M rfl (St.rf hI)
  intro N hNM hS
  refine w_load (.aload_n 0) 1 (by decide +kernel) rfl rfl ?_
  refine w_getR (k := 2) (r := 4) 4 (by decide +kernel) sh_0 rfl ?_
  refine w_load (.iload_n 1) 5 (by decide +kernel) rfl rfl ?_
  refine w_callV1 11 1 2 8 (by decide +kernel) sh_4 (Nat.le_of_ble_eq_true rfl) rfl (by decide) (by omega) ?_
  obtain ⟨n1, hn1, en1⟩ := inv_h hS.1 hs_4
  refine k_11 hS.1 hs_4 (by omega) en1 (by omega) (fun r2 hr2 => ?_)
  dsimp only [Option.toList, List.cons_append, List.nil_append]
  rcases hr2 with ⟨rfl, k3, hk3, rfl⟩ | ⟨rfl, hnok3⟩
  · skip
    refine w_ine 13 11 (by decide +kernel) (fun _ => ?_) (fun hz => absurd hz (by decide))
    refine w_load (.iload_n 2) 14 (by decide +kernel) rfl rfl ?_
    refine w_callS1 113 1 17 (by decide +kernel) (Nat.le_of_ble_eq_true rfl) rfl (by decide) (by omega) ?_
    refine k_113 hS.1  (by omega) (fun r5 hr5 => ?_)
    dsimp only [Option.toList, List.cons_append, List.nil_append]
    rcases hr5 with ⟨rfl, k6, hk6, rfl⟩ | ⟨rfl, hnok6⟩
    · skip
      refine w_ine 23 20 (by decide +kernel) (fun _ => ?_) (fun hz => absurd hz (by decide))
      refine w_load (.aload_n 0) 24 (by decide +kernel) rfl rfl ?_
      refine w_getR (k := 2) (r := 4) 27 (by decide +kernel) sh_0 rfl ?_
      refine w_load (.iload_n 1) 28 (by decide +kernel) rfl rfl ?_
      refine w_callV1 16 1 2 31 (by decide +kernel) sh_4 (Nat.le_of_ble_eq_true rfl) rfl (by decide) (by omega) ?_
      refine k_16 hS.1 hs_4 (by omega) (fun r8 hr8 => ?_)
      dsimp only [Option.toList, List.cons_append, List.nil_append]
      refine w_ine 37 34 (by decide +kernel) (fun h9 => ?_) (fun h9 => ?_)
      · skip
        refine w_load (.aload_n 0) 38 (by decide +kernel) rfl rfl ?_
        refine w_getR (k := 3) (r := 7) 41 (by decide +kernel) sh_0 rfl ?_
        refine w_load (.aload_n 0) 42 (by decide +kernel) rfl rfl ?_
        refine w_getR (k := 2) (r := 4) 45 (by decide +kernel) sh_0 rfl ?_
        refine w_callV1 8 1 2 48 (by decide +kernel) sh_7 (Nat.le_of_ble_eq_true rfl) rfl (by decide) (by omega) ?_
        refine k_8 hS.1 hs_7 hs_4 (by omega) (fun Nr10 hTr10 hr10 => ?_)
        have hS := hS.tr hTr10 (by intro i k; first | exact rfl | exact fun h => h.elim | omega | (dsimp only; omega) | (simp only [Hs, Tl, Sc, isHs, isScr, isTs] at *; omega))
        dsimp only [Option.toList, List.nil_append]
        refine w_load (.aload_n 0) 49 (by decide +kernel) rfl rfl ?_
        refine w_getR (k := 3) (r := 7) 52 (by decide +kernel) sh_0 rfl ?_
        refine w_load (.iload_n 1) 53 (by decide +kernel) rfl rfl ?_
        refine w_load (.iload_n 2) 54 (by decide +kernel) rfl rfl ?_
        refine w_callV2 26 1 3 57 (by decide +kernel) sh_7 (Nat.le_of_ble_eq_true rfl) rfl rfl (by decide) (by omega) ?_
        refine k_26 hS.1 hs_7 (by omega) (fun Nr11 hTr11 hr11 => ?_)
        have hS := hS.tr hTr11 (by intro i k; first | exact rfl | exact fun h => h.elim | omega | (dsimp only; omega) | (simp only [Hs, Tl, Sc, isHs, isScr, isTs] at *; omega))
        dsimp only [Option.toList, List.nil_append]
        refine w_load (.aload_n 0) 58 (by decide +kernel) rfl rfl ?_
        refine w_load (.iload_n 1) 59 (by decide +kernel) rfl rfl ?_
        refine w_callV1 126 7 4 62 (by decide +kernel) sh_0 (Nat.le_of_ble_eq_true rfl) rfl (by decide) (by omega) ?_
        refine k_126 hS.1  (by omega) (fun r12 Nr12 hTr12 hr12 => ?_)
        have hS := hS.tr hTr12 (by intro i k; first | exact rfl | exact fun h => h.elim | omega | (dsimp only; omega) | (simp only [Hs, Tl, Sc, isHs, isScr, isTs] at *; omega))
        dsimp only [Option.toList, List.cons_append, List.nil_append]
        refine w_pushN 1000 65 (by decide +kernel) ?_
        refine w_pure .iadd 66 (by decide +kernel) rfl rfl ?_
        exact w_ret (by decide +kernel) (hq _ Nr12 hS trivial)
      · skip
        refine w_push (-3) 36 (by decide +kernel) ?_
        exact w_ret (by decide +kernel) (hq _ N hS trivial)
    · skip
      refine w_ine 23 20 (by decide +kernel) (fun hz => absurd hz (by decide)) (fun _ => ?_)
      refine w_push (-2) 22 (by decide +kernel) ?_
      exact w_ret (by decide +kernel) (hq _ N hS trivial)
  · skip
    refine w_ine 13 11 (by decide +kernel) (fun hz => absurd hz (by decide)) (fun _ => ?_)
    refine w_push (-1) 12 (by decide +kernel) ?_
    exact w_ret (by decide +kernel) (hq _ N hS trivial)
-- X7_toGive
set_option maxRecDepth 10000 in
theorem k_98 {d : Nat} {M : Mt} {L : Lt} {Q : Option Value → Mt → Lt → Prop} {g : Int32} (hI : Inv M)  (hd : 7 ≤ d) (hq : ∀ (r : Int32) (N : Mt), St (fun i _ => (7 ≤ i ∧ i ≤ 57) ∨ i = 63 ∨ i = 68 ∨ i = 69) M N → True → Q (some (.int r)) N L) : Wp d 98 0 [.ref 0, .int g, .null, .null, .null, .null] [] M L Q := by
  refine (show ∀ N : Mt, N = M → St (fun i _ => (7 ≤ i ∧ i ≤ 57) ∨ i = 63 ∨ i = 68 ∨ i = 69) M N → Wp d 98 0 [.ref 0, .int g, .null, .null, .null, .null] [] N L Q from ?_) M rfl (St.rf hI)
  intro N hNM hS
  refine w_load (.aload_n 0) 1 (by decide +kernel) rfl rfl ?_
  refine w_getR (k := 2) (r := 4) 4 (by decide +kernel) sh_0 rfl ?_
  refine w_load (.iload_n 1) 5 (by decide +kernel) rfl rfl ?_
  refine w_callV1 11 1 2 8 (by decide +kernel) sh_4 (Nat.le_of_ble_eq_true rfl) rfl (by decide) (by omega) ?_
  obtain ⟨n1, hn1, en1⟩ := inv_h hS.1 hs_4
  refine k_11 hS.1 hs_4 (by omega) en1 (by omega) (fun r2 hr2 => ?_)
  dsimp only [Option.toList, List.cons_append, List.nil_append]
  rcases hr2 with ⟨rfl, k3, hk3, rfl⟩ | ⟨rfl, hnok3⟩
  · skip
    refine w_ine 13 11 (by decide +kernel) (fun _ => ?_) (fun hz => absurd hz (by decide))
    refine w_load (.aload_n 0) 14 (by decide +kernel) rfl rfl ?_
    refine w_getR (k := 2) (r := 4) 17 (by decide +kernel) sh_0 rfl ?_
    refine w_load (.iload_n 1) 18 (by decide +kernel) rfl rfl ?_
    refine w_callV1 16 1 2 21 (by decide +kernel) sh_4 (Nat.le_of_ble_eq_true rfl) rfl (by decide) (by omega) ?_
    refine k_16 hS.1 hs_4 (by omega) (fun r5 hr5 => ?_)
    dsimp only [Option.toList, List.cons_append, List.nil_append]
    refine w_ine 27 24 (by decide +kernel) (fun h6 => ?_) (fun h6 => ?_)
    · skip
      refine w_load (.aload_n 0) 28 (by decide +kernel) rfl rfl ?_
      refine w_getR (k := 3) (r := 7) 31 (by decide +kernel) sh_0 rfl ?_
      refine w_load (.aload_n 0) 32 (by decide +kernel) rfl rfl ?_
      refine w_getR (k := 2) (r := 4) 35 (by decide +kernel) sh_0 rfl ?_
      refine w_callV1 8 1 2 38 (by decide +kernel) sh_7 (Nat.le_of_ble_eq_true rfl) rfl (by decide) (by omega) ?_
      refine k_8 hS.1 hs_7 hs_4 (by omega) (fun Nr7 hTr7 hr7 => ?_)
      have hS := hS.tr hTr7 (by intro i k; first | exact rfl | exact fun h => h.elim | omega | (dsimp only; omega) | (simp only [Hs, Tl, Sc, isHs, isScr, isTs] at *; omega))
      dsimp only [Option.toList, List.nil_append]
      refine w_push (-9) 40 (by decide +kernel) ?_
      refine w_store (ls' := [.ref 0, .int (nI k3), .int (-9), .null, .null, .null]) (.istore_n 2) 41 (by decide +kernel) rfl rfl ?_
      refine w_pushN 0 42 (by decide +kernel) ?_
      refine w_store (ls' := [.ref 0, .int (nI k3), .int (-9), .int (nI 0), .null, .null]) (.istore_n 3) 43 (by decide +kernel) rfl rfl ?_
      refine w_pushN 0 44 (by decide +kernel) ?_
      refine w_store (ls' := [.ref 0, .int (nI k3), .int (-9), .int (nI 0), .int (nI 0), .null]) (.istore 4) 46 (by decide +kernel) rfl rfl ?_
      have LP_46 : ∀ (kk : Nat) (N_46 : Mt) (x2_46 : Int32) (x3_46 : Int32) (g4 : Nat), St (fun i _ => (7 ≤ i ∧ i ≤ 57) ∨ i = 63 ∨ i = 68 ∨ i = 69) M N_46 → g4 ≤ 4 → 4 - g4 < kk → Wp d 98 46 [.ref 0, .int (nI k3), .int x2_46, .int x3_46, .int (nI g4), .null] [] N_46 L Q := by
        intro kk
        induction kk with
        | zero => intro N_46 x2_46 x3_46 g4 hS hi0_46 hm_46; exact absurd hm_46 (Nat.not_lt_zero _)
        | succ kk ih_46 =>
          intro N_46 x2_46 x3_46 g4 hS hi0_46 hm_46
          refine w_load (.iload 4) 48 (by decide +kernel) rfl rfl ?_
          refine w_pushN 4 49 (by decide +kernel) ?_
          refine w_cgeN 93 52 (by decide +kernel) (by omega) (by omega) (fun h8 => ?_) (fun h8 => ?_)
          · skip
            refine w_load (.iload_n 2) 94 (by decide +kernel) rfl rfl ?_
            exact w_ret (by decide +kernel) (hq _ N_46 hS trivial)
          · skip
            refine w_load (.aload_n 0) 53 (by decide +kernel) rfl rfl ?_
            refine w_getR (k := 3) (r := 7) 56 (by decide +kernel) sh_0 rfl ?_
            refine w_load (.iload_n 1) 57 (by decide +kernel) rfl rfl ?_
            refine w_load (.iload 4) 59 (by decide +kernel) rfl rfl ?_
            refine w_callV2 26 1 3 62 (by decide +kernel) sh_7 (Nat.le_of_ble_eq_true rfl) rfl rfl (by decide) (by omega) ?_
            refine k_26 hS.1 hs_7 (by omega) (fun Nr9 hTr9 hr9 => ?_)
            have hS := hS.tr hTr9 (by intro i k; first | exact rfl | exact fun h => h.elim | omega | (dsimp only; omega) | (simp only [Hs, Tl, Sc, isHs, isScr, isTs] at *; omega))
            dsimp only [Option.toList, List.nil_append]
            refine w_load (.aload_n 0) 63 (by decide +kernel) rfl rfl ?_
            refine w_load (.iload_n 1) 64 (by decide +kernel) rfl rfl ?_
            refine w_callV1 126 7 4 67 (by decide +kernel) sh_0 (Nat.le_of_ble_eq_true rfl) rfl (by decide) (by omega) ?_
            refine k_126 hS.1  (by omega) (fun r10 Nr10 hTr10 hr10 => ?_)
            have hS := hS.tr hTr10 (by intro i k; first | exact rfl | exact fun h => h.elim | omega | (dsimp only; omega) | (simp only [Hs, Tl, Sc, isHs, isScr, isTs] at *; omega))
            dsimp only [Option.toList, List.cons_append, List.nil_append]
            refine w_store (ls' := [.ref 0, .int (nI k3), .int x2_46, .int x3_46, .int (nI g4), .int r10]) (.istore 5) 69 (by decide +kernel) rfl rfl ?_
            refine w_load (.iload_n 2) 70 (by decide +kernel) rfl rfl ?_
            refine w_push (-9) 72 (by decide +kernel) ?_
            refine w_ceq 81 75 (by decide +kernel) (fun h11 => ?_) (fun h11 => ?_)
            · skip
              refine w_load (.iload 4) 83 (by decide +kernel) rfl rfl ?_
              refine w_store (ls' := [.ref 0, .int (nI k3), .int (nI g4), .int x3_46, .int (nI g4), .int r10]) (.istore_n 2) 84 (by decide +kernel) rfl rfl ?_
              refine w_load (.iload 5) 86 (by decide +kernel) rfl rfl ?_
              refine w_store (ls' := [.ref 0, .int (nI k3), .int (nI g4), .int r10, .int (nI g4), .int r10]) (.istore_n 3) 87 (by decide +kernel) rfl rfl ?_
              refine w_iincN (z := 4) (g4 + 1) 90 (by decide +kernel) rfl (Nat.le_of_ble_eq_true rfl) rfl rfl ?_
              show Wp _ _ _ [.ref 0, .int (nI k3), .int (nI g4), .int r10, .int (nI (g4 + 1)), .int r10] _ _ _ _
              refine w_goto 46 (by decide +kernel) ?_
              refine Wp.forget (ls := [.ref 0, .int (nI k3), .int (nI g4), .int r10, .int (nI (g4 + 1)), .null]) ⟨Or.inl rfl, Or.inl rfl, Or.inl rfl, Or.inl rfl, Or.inl rfl, Or.inr ⟨rfl, rfl⟩, trivial⟩ ?_
              exact ih_46 Nr10 _ _ (g4 + 1) hS (by omega) (by omega)
            · skip
              refine w_load (.iload 5) 77 (by decide +kernel) rfl rfl ?_
              refine w_load (.iload_n 3) 78 (by decide +kernel) rfl rfl ?_
              refine w_cle 87 81 (by decide +kernel) (fun h12 => ?_) (fun h12 => ?_)
              · skip
                refine w_iincN (z := 4) (g4 + 1) 90 (by decide +kernel) rfl (Nat.le_of_ble_eq_true rfl) rfl rfl ?_
                show Wp _ _ _ [.ref 0, .int (nI k3), .int x2_46, .int x3_46, .int (nI (g4 + 1)), .int r10] _ _ _ _
                refine w_goto 46 (by decide +kernel) ?_
                refine Wp.forget (ls := [.ref 0, .int (nI k3), .int x2_46, .int x3_46, .int (nI (g4 + 1)), .null]) ⟨Or.inl rfl, Or.inl rfl, Or.inl rfl, Or.inl rfl, Or.inl rfl, Or.inr ⟨rfl, rfl⟩, trivial⟩ ?_
                exact ih_46 Nr10 _ _ (g4 + 1) hS (by omega) (by omega)
              · skip
                refine w_load (.iload 4) 83 (by decide +kernel) rfl rfl ?_
                refine w_store (ls' := [.ref 0, .int (nI k3), .int (nI g4), .int x3_46, .int (nI g4), .int r10]) (.istore_n 2) 84 (by decide +kernel) rfl rfl ?_
                refine w_load (.iload 5) 86 (by decide +kernel) rfl rfl ?_
                refine w_store (ls' := [.ref 0, .int (nI k3), .int (nI g4), .int r10, .int (nI g4), .int r10]) (.istore_n 3) 87 (by decide +kernel) rfl rfl ?_
                refine w_iincN (z := 4) (g4 + 1) 90 (by decide +kernel) rfl (Nat.le_of_ble_eq_true rfl) rfl rfl ?_
                show Wp _ _ _ [.ref 0, .int (nI k3), .int (nI g4), .int r10, .int (nI (g4 + 1)), .int r10] _ _ _ _
                refine w_goto 46 (by decide +kernel) ?_
                refine Wp.forget (ls := [.ref 0, .int (nI k3), .int (nI g4), .int r10, .int (nI (g4 + 1)), .null]) ⟨Or.inl rfl, Or.inl rfl, Or.inl rfl, Or.inl rfl, Or.inl rfl, Or.inr ⟨rfl, rfl⟩, trivial⟩ ?_
                exact ih_46 Nr10 _ _ (g4 + 1) hS (by omega) (by omega)
      exact LP_46 _ Nr7 _ _ 0 hS (by omega) (Nat.lt_succ_self _)
    · skip
      refine w_push (-3) 26 (by decide +kernel) ?_
      exact w_ret (by decide +kernel) (hq _ N hS trivial)
  · skip
    refine w_ine 13 11 (by decide +kernel) (fun hz => absurd hz (by decide)) (fun _ => ?_)
    refine w_push (-1) 12 (by decide +kernel) ?_
    exact w_ret (by decide +kernel) (hq _ N hS trivial)
-- X7_isRest
set_option maxRecDepth 10000 in
theorem k_127 {d : Nat} {M : Mt} {L : Lt} {Q : Option Value → Mt → Lt → Prop} {a b : Nat}  (hI : Inv M) (ha : a < 4) (hb : b < 4) (hd : 0 ≤ d) (hq : ∀ (r : Int32), (r = 0 ∨ r = 1) → Q (some (.int r)) M L) : Wp d 127 0 [.ref 0, .int (nI a), .int (nI b), .null, .null, .null, .null] [] M L Q := by
  refine w_load (.iload_n 1) 1 (by decide +kernel) rfl rfl ?_
  refine w_pushN 4 2 (by decide +kernel) ?_
  refine w_mulN (a * 4) 3 (by decide +kernel) rfl ?_
  refine w_load (.iload_n 2) 4 (by decide +kernel) rfl rfl ?_
  refine w_addN (a * 4 + b) 5 (by decide +kernel) (by omega) ?_
  refine w_store (ls' := [.ref 0, .int (nI a), .int (nI b), .int (nI (a * 4 + b)), .null, .null, .null]) (.istore_n 3) 6 (by decide +kernel) rfl rfl ?_
  refine w_pushN 0 7 (by decide +kernel) ?_
  refine w_store (ls' := [.ref 0, .int (nI a), .int (nI b), .int (nI (a * 4 + b)), .int (nI 0), .null, .null]) (.istore 4) 9 (by decide +kernel) rfl rfl ?_
  have LP_9 : ∀ (kk : Nat) (g4 : Nat), g4 ≤ 4 → 4 - g4 < kk → Wp d 127 9 [.ref 0, .int (nI a), .int (nI b), .int (nI (a * 4 + b)), .int (nI g4), .null, .null] [] M L Q := by
    intro kk
    induction kk with
    | zero => intro g4 hi0_9 hm_9; exact absurd hm_9 (Nat.not_lt_zero _)
    | succ kk ih_9 =>
      intro g4 hi0_9 hm_9
      refine w_load (.iload 4) 11 (by decide +kernel) rfl rfl ?_
      refine w_pushN 4 12 (by decide +kernel) ?_
      refine w_cgeN 87 15 (by decide +kernel) (by omega) (by omega) (fun h1 => ?_) (fun h1 => ?_)
      · skip
        refine w_pushN 1 88 (by decide +kernel) ?_
        exact w_retZ (by decide +kernel) (Or.inr rfl) (hq _ (Or.inr rfl))
      · skip
        refine w_load (.aload_n 0) 16 (by decide +kernel) rfl rfl ?_
        refine w_getR (k := 12) (r := 68) 19 (by decide +kernel) sh_0 rfl ?_
        refine w_load (.iload 4) 21 (by decide +kernel) rfl rfl ?_
        refine w_pushN 4 22 (by decide +kernel) ?_
        refine w_mulN (g4 * 4) 23 (by decide +kernel) rfl ?_
        refine w_load (.iload_n 2) 24 (by decide +kernel) rfl rfl ?_
        refine w_addN (g4 * 4 + b) 25 (by decide +kernel) (by omega) ?_
        refine w_ialdN 26 (by decide +kernel) sh_68 (by omega) (by omega) ?_
        refine w_load (.aload_n 0) 27 (by decide +kernel) rfl rfl ?_
        refine w_getR (k := 12) (r := 68) 30 (by decide +kernel) sh_0 rfl ?_
        refine w_load (.iload_n 3) 31 (by decide +kernel) rfl rfl ?_
        refine w_ialdN 32 (by decide +kernel) sh_68 (by omega) (by omega) ?_
        refine w_cgt 39 35 (by decide +kernel) (fun h2 => ?_) (fun h2 => ?_)
        · skip
          refine w_pushN 0 40 (by decide +kernel) ?_
          refine w_store (ls' := [.ref 0, .int (nI a), .int (nI b), .int (nI (a * 4 + b)), .int (nI g4), .int (nI 0), .null]) (.istore 5) 42 (by decide +kernel) rfl rfl ?_
          refine w_load (.aload_n 0) 43 (by decide +kernel) rfl rfl ?_
          refine w_getR (k := 13) (r := 69) 46 (by decide +kernel) sh_0 rfl ?_
          refine w_load (.iload_n 1) 47 (by decide +kernel) rfl rfl ?_
          refine w_pushN 4 48 (by decide +kernel) ?_
          refine w_mulN (a * 4) 49 (by decide +kernel) rfl ?_
          refine w_load (.iload 4) 51 (by decide +kernel) rfl rfl ?_
          refine w_addN (a * 4 + g4) 52 (by decide +kernel) (by omega) ?_
          refine w_ialdN 53 (by decide +kernel) sh_69 (by omega) (by omega) ?_
          refine w_load (.aload_n 0) 54 (by decide +kernel) rfl rfl ?_
          refine w_getR (k := 13) (r := 69) 57 (by decide +kernel) sh_0 rfl ?_
          refine w_load (.iload_n 3) 58 (by decide +kernel) rfl rfl ?_
          refine w_ialdN 59 (by decide +kernel) sh_69 (by omega) (by omega) ?_
          refine w_cgt 66 62 (by decide +kernel) (fun h3 => ?_) (fun h3 => ?_)
          · skip
            refine w_pushN 0 67 (by decide +kernel) ?_
            refine w_store (ls' := [.ref 0, .int (nI a), .int (nI b), .int (nI (a * 4 + b)), .int (nI g4), .int (nI 0), .int (nI 0)]) (.istore 6) 69 (by decide +kernel) rfl rfl ?_
            refine w_load (.iload 5) 71 (by decide +kernel) rfl rfl ?_
            refine w_ieq 79 74 (by decide +kernel) (fun _ => ?_) (fun hz => absurd hz (by decide))
            refine w_pushN 0 80 (by decide +kernel) ?_
            exact w_retZ (by decide +kernel) (Or.inl rfl) (hq _ (Or.inl rfl))
          · skip
            refine w_pushN 1 63 (by decide +kernel) ?_
            refine w_goto 67 (by decide +kernel) ?_
            refine w_store (ls' := [.ref 0, .int (nI a), .int (nI b), .int (nI (a * 4 + b)), .int (nI g4), .int (nI 0), .int (nI 1)]) (.istore 6) 69 (by decide +kernel) rfl rfl ?_
            refine w_load (.iload 5) 71 (by decide +kernel) rfl rfl ?_
            refine w_ieq 79 74 (by decide +kernel) (fun _ => ?_) (fun hz => absurd hz (by decide))
            refine w_pushN 0 80 (by decide +kernel) ?_
            exact w_retZ (by decide +kernel) (Or.inl rfl) (hq _ (Or.inl rfl))
        · skip
          refine w_pushN 1 36 (by decide +kernel) ?_
          refine w_goto 40 (by decide +kernel) ?_
          refine w_store (ls' := [.ref 0, .int (nI a), .int (nI b), .int (nI (a * 4 + b)), .int (nI g4), .int (nI 1), .null]) (.istore 5) 42 (by decide +kernel) rfl rfl ?_
          refine w_load (.aload_n 0) 43 (by decide +kernel) rfl rfl ?_
          refine w_getR (k := 13) (r := 69) 46 (by decide +kernel) sh_0 rfl ?_
          refine w_load (.iload_n 1) 47 (by decide +kernel) rfl rfl ?_
          refine w_pushN 4 48 (by decide +kernel) ?_
          refine w_mulN (a * 4) 49 (by decide +kernel) rfl ?_
          refine w_load (.iload 4) 51 (by decide +kernel) rfl rfl ?_
          refine w_addN (a * 4 + g4) 52 (by decide +kernel) (by omega) ?_
          refine w_ialdN 53 (by decide +kernel) sh_69 (by omega) (by omega) ?_
          refine w_load (.aload_n 0) 54 (by decide +kernel) rfl rfl ?_
          refine w_getR (k := 13) (r := 69) 57 (by decide +kernel) sh_0 rfl ?_
          refine w_load (.iload_n 3) 58 (by decide +kernel) rfl rfl ?_
          refine w_ialdN 59 (by decide +kernel) sh_69 (by omega) (by omega) ?_
          refine w_cgt 66 62 (by decide +kernel) (fun h6 => ?_) (fun h6 => ?_)
          · skip
            refine w_pushN 0 67 (by decide +kernel) ?_
            refine w_store (ls' := [.ref 0, .int (nI a), .int (nI b), .int (nI (a * 4 + b)), .int (nI g4), .int (nI 1), .int (nI 0)]) (.istore 6) 69 (by decide +kernel) rfl rfl ?_
            refine w_load (.iload 5) 71 (by decide +kernel) rfl rfl ?_
            refine w_ieq 79 74 (by decide +kernel) (fun hz => absurd hz (by decide)) (fun _ => ?_)
            refine w_load (.iload 6) 76 (by decide +kernel) rfl rfl ?_
            refine w_ine 81 79 (by decide +kernel) (fun hz => absurd hz (by decide)) (fun _ => ?_)
            refine w_pushN 0 80 (by decide +kernel) ?_
            exact w_retZ (by decide +kernel) (Or.inl rfl) (hq _ (Or.inl rfl))
          · skip
            refine w_pushN 1 63 (by decide +kernel) ?_
            refine w_goto 67 (by decide +kernel) ?_
            refine w_store (ls' := [.ref 0, .int (nI a), .int (nI b), .int (nI (a * 4 + b)), .int (nI g4), .int (nI 1), .int (nI 1)]) (.istore 6) 69 (by decide +kernel) rfl rfl ?_
            refine w_load (.iload 5) 71 (by decide +kernel) rfl rfl ?_
            refine w_ieq 79 74 (by decide +kernel) (fun hz => absurd hz (by decide)) (fun _ => ?_)
            refine w_load (.iload 6) 76 (by decide +kernel) rfl rfl ?_
            refine w_ine 81 79 (by decide +kernel) (fun _ => ?_) (fun hz => absurd hz (by decide))
            refine w_iincN (z := 4) (g4 + 1) 84 (by decide +kernel) rfl (Nat.le_of_ble_eq_true rfl) rfl rfl ?_
            show Wp _ _ _ [.ref 0, .int (nI a), .int (nI b), .int (nI (a * 4 + b)), .int (nI (g4 + 1)), .int (nI 1), .int (nI 1)] _ _ _ _
            refine w_goto 9 (by decide +kernel) ?_
            refine Wp.forget (ls := [.ref 0, .int (nI a), .int (nI b), .int (nI (a * 4 + b)), .int (nI (g4 + 1)), .null, .null]) ⟨Or.inl rfl, Or.inl rfl, Or.inl rfl, Or.inl rfl, Or.inl rfl, Or.inr ⟨rfl, rfl⟩, Or.inr ⟨rfl, rfl⟩, trivial⟩ ?_
            exact ih_9 (g4 + 1) (by omega) (by omega)
  exact LP_9 _ 0 (by omega) (Nat.lt_succ_self _)
-- X7_restsInAll
set_option maxRecDepth 10000 in
theorem k_128 {d : Nat} {M : Mt} {L : Lt} {Q : Option Value → Mt → Lt → Prop}  (hI : Inv M)  (hd : 1 ≤ d) (hq : ∀ (r : Int32), True → Q (some (.int r)) M L) : Wp d 128 0 [.ref 0, .null, .null] [] M L Q := by
  refine w_pushN 0 1 (by decide +kernel) ?_
  refine w_store (ls' := [.ref 0, .int (nI 0), .null]) (.istore_n 1) 2 (by decide +kernel) rfl rfl ?_
  refine w_pushN 0 3 (by decide +kernel) ?_
  refine w_store (ls' := [.ref 0, .int (nI 0), .int (nI 0)]) (.istore_n 2) 4 (by decide +kernel) rfl rfl ?_
  have LP_4 : ∀ (kk : Nat) (x1_4 : Int32) (g2 : Nat), g2 ≤ 16 → 16 - g2 < kk → Wp d 128 4 [.ref 0, .int x1_4, .int (nI g2)] [] M L Q := by
    intro kk
    induction kk with
    | zero => intro x1_4 g2 hi0_4 hm_4; exact absurd hm_4 (Nat.not_lt_zero _)
    | succ kk ih_4 =>
      intro x1_4 g2 hi0_4 hm_4
      refine w_load (.iload_n 2) 5 (by decide +kernel) rfl rfl ?_
      refine w_pushN 16 7 (by decide +kernel) ?_
      refine w_cgeN 37 10 (by decide +kernel) (by omega) (by omega) (fun h1 => ?_) (fun h1 => ?_)
      · skip
        refine w_load (.iload_n 1) 38 (by decide +kernel) rfl rfl ?_
        exact w_ret (by decide +kernel) (hq _ trivial)
      · skip
        refine w_load (.iload_n 1) 11 (by decide +kernel) rfl rfl ?_
        refine w_load (.aload_n 0) 12 (by decide +kernel) rfl rfl ?_
        refine w_load (.iload_n 2) 13 (by decide +kernel) rfl rfl ?_
        refine w_pushN 4 14 (by decide +kernel) ?_
        refine w_divN (g2 / 4) 15 (by decide +kernel) (by decide) (by decide) (by omega) rfl ?_
        refine w_load (.iload_n 2) 16 (by decide +kernel) rfl rfl ?_
        refine w_pushN 4 17 (by decide +kernel) ?_
        refine w_remN (g2 % 4) 18 (by decide +kernel) (by decide) (by decide) (by omega) rfl ?_
        refine w_callV2 127 7 7 21 (by decide +kernel) sh_0 (Nat.le_of_ble_eq_true rfl) rfl rfl (by decide) (by omega) ?_
        refine k_127 hI (by omega) (by omega) (by omega) (fun r2 hr2 => ?_)
        dsimp only [Option.toList, List.cons_append, List.nil_append]
        refine w_ieq 28 24 (by decide +kernel) (fun h3 => ?_) (fun h3 => ?_)
        · skip
          refine w_pushN 0 29 (by decide +kernel) ?_
          refine w_pure .iadd 30 (by decide +kernel) rfl rfl ?_
          refine w_topi (fun v4 ev4 => ?_)
          refine w_store (ls' := [.ref 0, .int v4, .int (nI g2)]) (.istore_n 1) 31 (by decide +kernel) rfl rfl ?_
          refine w_iincN (z := 2) (g2 + 1) 34 (by decide +kernel) rfl (Nat.le_of_ble_eq_true rfl) rfl rfl ?_
          show Wp _ _ _ [.ref 0, .int v4, .int (nI (g2 + 1))] _ _ _ _
          refine w_goto 4 (by decide +kernel) ?_
          exact ih_4 _ (g2 + 1) (by omega) (by omega)
        · skip
          refine w_pushN 1 25 (by decide +kernel) ?_
          refine w_goto 29 (by decide +kernel) ?_
          refine w_pure .iadd 30 (by decide +kernel) rfl rfl ?_
          refine w_topi (fun v5 ev5 => ?_)
          refine w_store (ls' := [.ref 0, .int v5, .int (nI g2)]) (.istore_n 1) 31 (by decide +kernel) rfl rfl ?_
          refine w_iincN (z := 2) (g2 + 1) 34 (by decide +kernel) rfl (Nat.le_of_ble_eq_true rfl) rfl rfl ?_
          show Wp _ _ _ [.ref 0, .int v5, .int (nI (g2 + 1))] _ _ _ _
          refine w_goto 4 (by decide +kernel) ?_
          exact ih_4 _ (g2 + 1) (by omega) (by omega)
  exact LP_4 _ _ 0 (by omega) (Nat.lt_succ_self _)
-- X7_firstRest
set_option maxRecDepth 10000 in
theorem k_129 {d : Nat} {M : Mt} {L : Lt} {Q : Option Value → Mt → Lt → Prop}  (hI : Inv M)  (hd : 1 ≤ d) (hq : ∀ (r : Int32), True → Q (some (.int r)) M L) : Wp d 129 0 [.ref 0, .null] [] M L Q := by
  refine w_pushN 0 1 (by decide +kernel) ?_
  refine w_store (ls' := [.ref 0, .int (nI 0)]) (.istore_n 1) 2 (by decide +kernel) rfl rfl ?_
  have LP_2 : ∀ (kk : Nat) (g1 : Nat), g1 ≤ 16 → 16 - g1 < kk → Wp d 129 2 [.ref 0, .int (nI g1)] [] M L Q := by
    intro kk
    induction kk with
    | zero => intro g1 hi0_2 hm_2; exact absurd hm_2 (Nat.not_lt_zero _)
    | succ kk ih_2 =>
      intro g1 hi0_2 hm_2
      refine w_load (.iload_n 1) 3 (by decide +kernel) rfl rfl ?_
      refine w_pushN 16 5 (by decide +kernel) ?_
      refine w_cgeN 38 8 (by decide +kernel) (by omega) (by omega) (fun h1 => ?_) (fun h1 => ?_)
      · skip
        refine w_push (-9) 40 (by decide +kernel) ?_
        exact w_ret (by decide +kernel) (hq _ trivial)
      · skip
        refine w_load (.aload_n 0) 9 (by decide +kernel) rfl rfl ?_
        refine w_load (.iload_n 1) 10 (by decide +kernel) rfl rfl ?_
        refine w_pushN 4 11 (by decide +kernel) ?_
        refine w_divN (g1 / 4) 12 (by decide +kernel) (by decide) (by decide) (by omega) rfl ?_
        refine w_load (.iload_n 1) 13 (by decide +kernel) rfl rfl ?_
        refine w_pushN 4 14 (by decide +kernel) ?_
        refine w_remN (g1 % 4) 15 (by decide +kernel) (by decide) (by decide) (by omega) rfl ?_
        refine w_callV2 127 7 7 18 (by decide +kernel) sh_0 (Nat.le_of_ble_eq_true rfl) rfl rfl (by decide) (by omega) ?_
        refine k_127 hI (by omega) (by omega) (by omega) (fun r2 hr2 => ?_)
        dsimp only [Option.toList, List.cons_append, List.nil_append]
        refine w_ieq 32 21 (by decide +kernel) (fun h3 => ?_) (fun h3 => ?_)
        · skip
          refine w_iincN (z := 1) (g1 + 1) 35 (by decide +kernel) rfl (Nat.le_of_ble_eq_true rfl) rfl rfl ?_
          show Wp _ _ _ [.ref 0, .int (nI (g1 + 1))] _ _ _ _
          refine w_goto 2 (by decide +kernel) ?_
          exact ih_2 (g1 + 1) (by omega) (by omega)
        · skip
          refine w_pushN 10 23 (by decide +kernel) ?_
          refine w_load (.iload_n 1) 24 (by decide +kernel) rfl rfl ?_
          refine w_pushN 4 25 (by decide +kernel) ?_
          refine w_divN (g1 / 4) 26 (by decide +kernel) (by decide) (by decide) (by omega) rfl ?_
          refine w_mulN (10 * ((g1 / 4))) 27 (by decide +kernel) rfl ?_
          refine w_load (.iload_n 1) 28 (by decide +kernel) rfl rfl ?_
          refine w_pushN 4 29 (by decide +kernel) ?_
          refine w_remN (g1 % 4) 30 (by decide +kernel) (by decide) (by decide) (by omega) rfl ?_
          refine w_addN (10 * ((g1 / 4)) + (g1 % 4)) 31 (by decide +kernel) (by omega) ?_
          exact w_ret (by decide +kernel) (hq _ trivial)
  exact LP_2 _ 0 (by omega) (Nat.lt_succ_self _)
-- X7_rests
set_option maxRecDepth 10000 in
theorem k_99 {d : Nat} {M : Mt} {L : Lt} {Q : Option Value → Mt → Lt → Prop} {g : Int32} {o : Int32} {a : Int32} (hI : Inv M)  (hd : 7 ≤ d) (hq : ∀ (r : Int32) (N : Mt), St (fun i _ => (7 ≤ i ∧ i ≤ 57) ∨ i = 63 ∨ i = 68 ∨ i = 69) M N → True → Q (some (.int r)) N L) : Wp d 99 0 [.ref 0, .int g, .int o, .int a, .null] [] M L Q := by
  refine (show ∀ N : Mt, N = M → St (fun i _ => (7 ≤ i ∧ i ≤ 57) ∨ i = 63 ∨ i = 68 ∨ i = 69) M N → Wp d 99 0 [.ref 0, .int g, .int o, .int a, .null] [] N L Q from ?_) M rfl (St.rf hI)
  intro N hNM hS
  refine w_load (.aload_n 0) 1 (by decide +kernel) rfl rfl ?_
  refine w_getR (k := 2) (r := 4) 4 (by decide +kernel) sh_0 rfl ?_
  refine w_load (.iload_n 1) 5 (by decide +kernel) rfl rfl ?_
  refine w_callV1 11 1 2 8 (by decide +kernel) sh_4 (Nat.le_of_ble_eq_true rfl) rfl (by decide) (by omega) ?_
  obtain ⟨n1, hn1, en1⟩ := inv_h hS.1 hs_4
  refine k_11 hS.1 hs_4 (by omega) en1 (by omega) (fun r2 hr2 => ?_)
  dsimp only [Option.toList, List.cons_append, List.nil_append]
  rcases hr2 with ⟨rfl, k3, hk3, rfl⟩ | ⟨rfl, hnok3⟩
  · skip
    refine w_ieq 22 11 (by decide +kernel) (fun hz => absurd hz (by decide)) (fun _ => ?_)
    refine w_load (.aload_n 0) 12 (by decide +kernel) rfl rfl ?_
    refine w_getR (k := 2) (r := 4) 15 (by decide +kernel) sh_0 rfl ?_
    refine w_load (.iload_n 2) 16 (by decide +kernel) rfl rfl ?_
    refine w_callV1 11 1 2 19 (by decide +kernel) sh_4 (Nat.le_of_ble_eq_true rfl) rfl (by decide) (by omega) ?_
    refine k_11 hS.1 hs_4 (by omega) en1 (by omega) (fun r5 hr5 => ?_)
    dsimp only [Option.toList, List.cons_append, List.nil_append]
    rcases hr5 with ⟨rfl, k6, hk6, rfl⟩ | ⟨rfl, hnok6⟩
    · skip
      refine w_ine 24 22 (by decide +kernel) (fun _ => ?_) (fun hz => absurd hz (by decide))
      refine w_load (.iload_n 1) 25 (by decide +kernel) rfl rfl ?_
      refine w_load (.iload_n 2) 26 (by decide +kernel) rfl rfl ?_
      refine w_ceqN 38 29 (by decide +kernel) (by omega) (by omega) (fun h8 => ?_) (fun h8 => ?_)
      · skip
        refine w_push (-2) 40 (by decide +kernel) ?_
        exact w_ret (by decide +kernel) (hq _ N hS trivial)
      · skip
        refine w_load (.iload_n 3) 30 (by decide +kernel) rfl rfl ?_
        refine w_ilt 38 33 (by decide +kernel) (fun h9 => ?_) (fun h9 => ?_)
        · skip
          refine w_push (-2) 40 (by decide +kernel) ?_
          exact w_ret (by decide +kernel) (hq _ N hS trivial)
        · skip
          refine w_load (.iload_n 3) 34 (by decide +kernel) rfl rfl ?_
          refine w_pushN 1 35 (by decide +kernel) ?_
          refine w_cle 41 38 (by decide +kernel) (fun h10 => ?_) (fun h10 => ?_)
          · skip
            refine w_load (.aload_n 0) 42 (by decide +kernel) rfl rfl ?_
            refine w_getR (k := 2) (r := 4) 45 (by decide +kernel) sh_0 rfl ?_
            refine w_load (.iload_n 1) 46 (by decide +kernel) rfl rfl ?_
            refine w_callV1 16 1 2 49 (by decide +kernel) sh_4 (Nat.le_of_ble_eq_true rfl) rfl (by decide) (by omega) ?_
            refine k_16 hS.1 hs_4 (by omega) (fun r11 hr11 => ?_)
            dsimp only [Option.toList, List.cons_append, List.nil_append]
            refine w_ieq 63 52 (by decide +kernel) (fun h12 => ?_) (fun h12 => ?_)
            · skip
              refine w_push (-3) 65 (by decide +kernel) ?_
              exact w_ret (by decide +kernel) (hq _ N hS trivial)
            · skip
              refine w_load (.aload_n 0) 53 (by decide +kernel) rfl rfl ?_
              refine w_getR (k := 2) (r := 4) 56 (by decide +kernel) sh_0 rfl ?_
              refine w_load (.iload_n 2) 57 (by decide +kernel) rfl rfl ?_
              refine w_callV1 16 1 2 60 (by decide +kernel) sh_4 (Nat.le_of_ble_eq_true rfl) rfl (by decide) (by omega) ?_
              refine k_16 hS.1 hs_4 (by omega) (fun r13 hr13 => ?_)
              dsimp only [Option.toList, List.cons_append, List.nil_append]
              refine w_ine 66 63 (by decide +kernel) (fun h14 => ?_) (fun h14 => ?_)
              · skip
                refine w_load (.aload_n 0) 67 (by decide +kernel) rfl rfl ?_
                refine w_getR (k := 3) (r := 7) 70 (by decide +kernel) sh_0 rfl ?_
                refine w_load (.aload_n 0) 71 (by decide +kernel) rfl rfl ?_
                refine w_getR (k := 2) (r := 4) 74 (by decide +kernel) sh_0 rfl ?_
                refine w_callV1 8 1 2 77 (by decide +kernel) sh_7 (Nat.le_of_ble_eq_true rfl) rfl (by decide) (by omega) ?_
                refine k_8 hS.1 hs_7 hs_4 (by omega) (fun Nr15 hTr15 hr15 => ?_)
                have hS := hS.tr hTr15 (by intro i k; first | exact rfl | exact fun h => h.elim | omega | (dsimp only; omega) | (simp only [Hs, Tl, Sc, isHs, isScr, isTs] at *; omega))
                dsimp only [Option.toList, List.nil_append]
                refine w_pushN 0 78 (by decide +kernel) ?_
                refine w_store (ls' := [.ref 0, .int (nI k3), .int (nI k6), .int a, .int (nI 0)]) (.istore 4) 80 (by decide +kernel) rfl rfl ?_
                have LP_80 : ∀ (kk : Nat) (N_80 : Mt) (g4 : Nat), St (fun i _ => (7 ≤ i ∧ i ≤ 57) ∨ i = 63 ∨ i = 68 ∨ i = 69) M N_80 → g4 ≤ 16 → 16 - g4 < kk → Wp d 99 80 [.ref 0, .int (nI k3), .int (nI k6), .int a, .int (nI g4)] [] N_80 L Q := by
                  intro kk
                  induction kk with
                  | zero => intro N_80 g4 hS hi0_80 hm_80; exact absurd hm_80 (Nat.not_lt_zero _)
                  | succ kk ih_80 =>
                    intro N_80 g4 hS hi0_80 hm_80
                    refine w_load (.iload 4) 82 (by decide +kernel) rfl rfl ?_
                    refine w_load (.aload_n 0) 83 (by decide +kernel) rfl rfl ?_
                    refine w_getR (k := 12) (r := 68) 86 (by decide +kernel) sh_0 rfl ?_
                    refine w_alen (nI 16) 87 (by decide +kernel) sh_68 (by decide) (by first | rfl | simp [nI]) ?_
                    refine w_cgeN 144 90 (by decide +kernel) (by omega) (by omega) (fun h16 => ?_) (fun h16 => ?_)
                    · skip
                      refine w_load (.iload_n 3) 145 (by decide +kernel) rfl rfl ?_
                      refine w_ine 155 148 (by decide +kernel) (fun h17 => ?_) (fun h17 => ?_)
                      · skip
                        refine w_load (.aload_n 0) 156 (by decide +kernel) rfl rfl ?_
                        refine w_callV0 129 7 2 159 (by decide +kernel) sh_0 (Nat.le_of_ble_eq_true rfl)  (by decide) (by omega) ?_
                        refine k_129 hS.1  (by omega) (fun r18 hr18 => ?_)
                        dsimp only [Option.toList, List.cons_append, List.nil_append]
                        exact w_ret (by decide +kernel) (hq _ N_80 hS trivial)
                      · skip
                        refine w_load (.aload_n 0) 149 (by decide +kernel) rfl rfl ?_
                        refine w_callV0 128 7 3 152 (by decide +kernel) sh_0 (Nat.le_of_ble_eq_true rfl)  (by decide) (by omega) ?_
                        refine k_128 hS.1  (by omega) (fun r19 hr19 => ?_)
                        dsimp only [Option.toList, List.cons_append, List.nil_append]
                        refine w_goto 159 (by decide +kernel) ?_
                        exact w_ret (by decide +kernel) (hq _ N_80 hS trivial)
                    · skip
                      refine w_load (.aload_n 0) 91 (by decide +kernel) rfl rfl ?_
                      refine w_getR (k := 3) (r := 7) 94 (by decide +kernel) sh_0 rfl ?_
                      refine w_load (.iload_n 1) 95 (by decide +kernel) rfl rfl ?_
                      refine w_load (.iload 4) 97 (by decide +kernel) rfl rfl ?_
                      refine w_pushN 4 98 (by decide +kernel) ?_
                      refine w_divN (g4 / 4) 99 (by decide +kernel) (by decide) (by decide) (by omega) rfl ?_
                      refine w_callV2 26 1 3 102 (by decide +kernel) sh_7 (Nat.le_of_ble_eq_true rfl) rfl rfl (by decide) (by omega) ?_
                      refine k_26 hS.1 hs_7 (by omega) (fun Nr20 hTr20 hr20 => ?_)
                      have hS := hS.tr hTr20 (by intro i k; first | exact rfl | exact fun h => h.elim | omega | (dsimp only; omega) | (simp only [Hs, Tl, Sc, isHs, isScr, isTs] at *; omega))
                      dsimp only [Option.toList, List.nil_append]
                      refine w_load (.aload_n 0) 103 (by decide +kernel) rfl rfl ?_
                      refine w_getR (k := 3) (r := 7) 106 (by decide +kernel) sh_0 rfl ?_
                      refine w_load (.iload_n 2) 107 (by decide +kernel) rfl rfl ?_
                      refine w_load (.iload 4) 109 (by decide +kernel) rfl rfl ?_
                      refine w_pushN 4 110 (by decide +kernel) ?_
                      refine w_remN (g4 % 4) 111 (by decide +kernel) (by decide) (by decide) (by omega) rfl ?_
                      refine w_callV2 26 1 3 114 (by decide +kernel) sh_7 (Nat.le_of_ble_eq_true rfl) rfl rfl (by decide) (by omega) ?_
                      refine k_26 hS.1 hs_7 (by omega) (fun Nr21 hTr21 hr21 => ?_)
                      have hS := hS.tr hTr21 (by intro i k; first | exact rfl | exact fun h => h.elim | omega | (dsimp only; omega) | (simp only [Hs, Tl, Sc, isHs, isScr, isTs] at *; omega))
                      dsimp only [Option.toList, List.nil_append]
                      refine w_load (.aload_n 0) 115 (by decide +kernel) rfl rfl ?_
                      refine w_getR (k := 12) (r := 68) 118 (by decide +kernel) sh_0 rfl ?_
                      refine w_load (.iload 4) 120 (by decide +kernel) rfl rfl ?_
                      refine w_load (.aload_n 0) 121 (by decide +kernel) rfl rfl ?_
                      refine w_load (.iload_n 1) 122 (by decide +kernel) rfl rfl ?_
                      refine w_callV1 126 7 4 125 (by decide +kernel) sh_0 (Nat.le_of_ble_eq_true rfl) rfl (by decide) (by omega) ?_
                      refine k_126 hS.1  (by omega) (fun r22 Nr22 hTr22 hr22 => ?_)
                      have hS := hS.tr hTr22 (by intro i k; first | exact rfl | exact fun h => h.elim | omega | (dsimp only; omega) | (simp only [Hs, Tl, Sc, isHs, isScr, isTs] at *; omega))
                      dsimp only [Option.toList, List.cons_append, List.nil_append]
                      refine w_iastE 126 (by decide +kernel) sh_68 (by omega) (by omega) hS (Rg.free (by simp only [Hs, Tl, Sc, isScr, isHs, isTs] at *; omega)) (by first | exact rfl | omega | (dsimp only; omega) | (simp only [Hs, Tl, Sc, isHs, isScr, isTs] at *; omega)) (fun Nq23 hS hq23 oq23 mq23 => ?_)
                      refine w_load (.aload_n 0) 127 (by decide +kernel) rfl rfl ?_
                      refine w_getR (k := 13) (r := 69) 130 (by decide +kernel) sh_0 rfl ?_
                      refine w_load (.iload 4) 132 (by decide +kernel) rfl rfl ?_
                      refine w_load (.aload_n 0) 133 (by decide +kernel) rfl rfl ?_
                      refine w_load (.iload_n 2) 134 (by decide +kernel) rfl rfl ?_
                      refine w_callV1 126 7 4 137 (by decide +kernel) sh_0 (Nat.le_of_ble_eq_true rfl) rfl (by decide) (by omega) ?_
                      refine k_126 hS.1  (by omega) (fun r24 Nr24 hTr24 hr24 => ?_)
                      have hS := hS.tr hTr24 (by intro i k; first | exact rfl | exact fun h => h.elim | omega | (dsimp only; omega) | (simp only [Hs, Tl, Sc, isHs, isScr, isTs] at *; omega))
                      dsimp only [Option.toList, List.cons_append, List.nil_append]
                      refine w_iastE 138 (by decide +kernel) sh_69 (by omega) (by omega) hS (Rg.free (by simp only [Hs, Tl, Sc, isScr, isHs, isTs] at *; omega)) (by first | exact rfl | omega | (dsimp only; omega) | (simp only [Hs, Tl, Sc, isHs, isScr, isTs] at *; omega)) (fun Nq25 hS hq25 oq25 mq25 => ?_)
                      refine w_iincN (z := 4) (g4 + 1) 141 (by decide +kernel) rfl (Nat.le_of_ble_eq_true rfl) rfl rfl ?_
                      show Wp _ _ _ [.ref 0, .int (nI k3), .int (nI k6), .int a, .int (nI (g4 + 1))] _ _ _ _
                      refine w_goto 80 (by decide +kernel) ?_
                      exact ih_80 Nq25 (g4 + 1) hS (by omega) (by omega)
                exact LP_80 _ Nr15 0 hS (by omega) (Nat.lt_succ_self _)
              · skip
                refine w_push (-3) 65 (by decide +kernel) ?_
                exact w_ret (by decide +kernel) (hq _ N hS trivial)
          · skip
            refine w_push (-2) 40 (by decide +kernel) ?_
            exact w_ret (by decide +kernel) (hq _ N hS trivial)
    · skip
      refine w_ine 24 22 (by decide +kernel) (fun hz => absurd hz (by decide)) (fun _ => ?_)
      refine w_push (-1) 23 (by decide +kernel) ?_
      exact w_ret (by decide +kernel) (hq _ N hS trivial)
  · skip
    refine w_ieq 22 11 (by decide +kernel) (fun _ => ?_) (fun hz => absurd hz (by decide))
    refine w_push (-1) 23 (by decide +kernel) ?_
    exact w_ret (by decide +kernel) (hq _ N hS trivial)
-- X7_see
set_option maxRecDepth 10000 in
theorem k_100 {d : Nat} {M : Mt} {L : Lt} {Q : Option Value → Mt → Lt → Prop} {n m : Nat} {g : Int32} {b : Int32} (hI : Inv M) (hn : n ≤ 5) (en : M 4 2 = nI n) (hm : m ≤ 6) (em : M 64 2 = nI m) (hd : 2 ≤ d) (hq : ∀ (r : Int32) (N : Mt), St (fun i _ => 64 ≤ i ∧ i ≤ 66) M N → ((r = -1 ∧ ¬ (∃ k, k < n ∧ g = nI k) ∧ N = M) ∨ ((∃ k, k < n ∧ g = nI k) ∧ ((r = -4 ∧ m = 6 ∧ N = M) ∨ (r = nI (m + 1) ∧ m < 6 ∧ N = up2 (up2 (up2 M 65 m g) 66 m (if b = 0 then nI 1001 else nI 1000)) 64 2 (nI (m + 1)))))) → Q (some (.int r)) N L) : Wp d 100 0 [.ref 0, .int g, .int b] [] M L Q := by
  refine (show ∀ N : Mt, N = M → St (fun i _ => 64 ≤ i ∧ i ≤ 66) M N → Wp d 100 0 [.ref 0, .int g, .int b] [] N L Q from ?_) M rfl (St.rf hI)
  intro N hNM hS
  have kz0 : N (4) 2 = nI n := by rw [hNM]; exact en
  have kz1 : N (64) 2 = nI m := by rw [hNM]; exact em
  refine w_load (.aload_n 0) 1 (by decide +kernel) rfl rfl ?_
  refine w_getR (k := 2) (r := 4) 4 (by decide +kernel) sh_0 rfl ?_
  refine w_load (.iload_n 1) 5 (by decide +kernel) rfl rfl ?_
  refine w_callV1 11 1 2 8 (by decide +kernel) sh_4 (Nat.le_of_ble_eq_true rfl) rfl (by decide) (by omega) ?_
  refine k_11 hS.1 hs_4 (by omega) kz0 (by omega) (fun r1 hr1 => ?_)
  dsimp only [Option.toList, List.cons_append, List.nil_append]
  rcases hr1 with ⟨rfl, k2, hk2, rfl⟩ | ⟨rfl, hnok2⟩
  · skip
    refine w_ine 13 11 (by decide +kernel) (fun _ => ?_) (fun hz => absurd hz (by decide))
    refine w_load (.aload_n 0) 14 (by decide +kernel) rfl rfl ?_
    refine w_getR (k := 10) (r := 64) 17 (by decide +kernel) sh_0 rfl ?_
    refine w_callV0 60 5 1 20 (by decide +kernel) sh_64 (Nat.le_of_ble_eq_true rfl)  (by decide) (by omega) ?_
    refine k_60 hS.1 (by omega) kz1 (by omega) (fun r4 hr4 => ?_)
    dsimp only [Option.toList, List.cons_append, List.nil_append]
    rcases hr4 with ⟨rfl, hfull⟩ | ⟨rfl, hfull⟩
    · skip
      refine w_ieq 28 23 (by decide +kernel) (fun hz => absurd hz (by decide)) (fun _ => ?_)
      refine w_push (-4) 25 (by decide +kernel) ?_
      refine w_goto 49 (by decide +kernel) ?_
      exact w_ret (by decide +kernel) (hq _ N hS (by first | exact Or.inl ⟨rfl, by assumption, hNM⟩ | exact Or.inr ⟨⟨_, by omega, rfl⟩, Or.inl ⟨rfl, by omega, hNM⟩⟩ | exact Or.inr ⟨⟨_, by omega, rfl⟩, Or.inr ⟨rfl, by omega, by first | (rw [eadd, hNM] <;> rfl) | (rw [eadd, hNM, if_pos (by assumption)] <;> rfl) | (rw [eadd, hNM, if_neg (by assumption)] <;> rfl)⟩⟩))
    · skip
      refine w_ieq 28 23 (by decide +kernel) (fun _ => ?_) (fun hz => absurd hz (by decide))
      refine w_load (.aload_n 0) 29 (by decide +kernel) rfl rfl ?_
      refine w_getR (k := 10) (r := 64) 32 (by decide +kernel) sh_0 rfl ?_
      refine w_load (.iload_n 1) 33 (by decide +kernel) rfl rfl ?_
      refine w_load (.iload_n 2) 34 (by decide +kernel) rfl rfl ?_
      refine w_ieq 43 37 (by decide +kernel) (fun h7 => ?_) (fun h7 => ?_)
      · skip
        refine w_pushN 1001 46 (by decide +kernel) ?_
        refine w_callV2 61 5 3 49 (by decide +kernel) sh_64 (Nat.le_of_ble_eq_true rfl) rfl rfl (by decide) (by omega) ?_
        refine k_61 hS.1 (by omega) kz1 (by omega) (fun r8 Nr8 hTr8 hr8 => ?_)
        have hS := hS.tr hTr8 (by intro i k; first | exact rfl | exact fun h => h.elim | omega | (dsimp only; omega) | (simp only [Hs, Tl, Sc, isHs, isScr, isTs] at *; omega))
        dsimp only [Option.toList, List.cons_append, List.nil_append]
        rcases hr8 with ⟨rfl, eadd⟩
        · skip
          exact w_ret (by decide +kernel) (hq _ Nr8 hS (by first | exact Or.inl ⟨rfl, by assumption, hNM⟩ | exact Or.inr ⟨⟨_, by omega, rfl⟩, Or.inl ⟨rfl, by omega, hNM⟩⟩ | exact Or.inr ⟨⟨_, by omega, rfl⟩, Or.inr ⟨rfl, by omega, by first | (rw [eadd, hNM] <;> rfl) | (rw [eadd, hNM, if_pos (by assumption)] <;> rfl) | (rw [eadd, hNM, if_neg (by assumption)] <;> rfl)⟩⟩))
      · skip
        refine w_pushN 1000 40 (by decide +kernel) ?_
        refine w_goto 46 (by decide +kernel) ?_
        refine w_callV2 61 5 3 49 (by decide +kernel) sh_64 (Nat.le_of_ble_eq_true rfl) rfl rfl (by decide) (by omega) ?_
        refine k_61 hS.1 (by omega) kz1 (by omega) (fun r9 Nr9 hTr9 hr9 => ?_)
        have hS := hS.tr hTr9 (by intro i k; first | exact rfl | exact fun h => h.elim | omega | (dsimp only; omega) | (simp only [Hs, Tl, Sc, isHs, isScr, isTs] at *; omega))
        dsimp only [Option.toList, List.cons_append, List.nil_append]
        rcases hr9 with ⟨rfl, eadd⟩
        · skip
          exact w_ret (by decide +kernel) (hq _ Nr9 hS (by first | exact Or.inl ⟨rfl, by assumption, hNM⟩ | exact Or.inr ⟨⟨_, by omega, rfl⟩, Or.inl ⟨rfl, by omega, hNM⟩⟩ | exact Or.inr ⟨⟨_, by omega, rfl⟩, Or.inr ⟨rfl, by omega, by first | (rw [eadd, hNM] <;> rfl) | (rw [eadd, hNM, if_pos (by assumption)] <;> rfl) | (rw [eadd, hNM, if_neg (by assumption)] <;> rfl)⟩⟩))
  · skip
    refine w_ine 13 11 (by decide +kernel) (fun hz => absurd hz (by decide)) (fun _ => ?_)
    refine w_push (-1) 12 (by decide +kernel) ?_
    exact w_ret (by decide +kernel) (hq _ N hS (by first | exact Or.inl ⟨rfl, by assumption, hNM⟩ | exact Or.inr ⟨⟨_, by omega, rfl⟩, Or.inl ⟨rfl, by omega, hNM⟩⟩ | exact Or.inr ⟨⟨_, by omega, rfl⟩, Or.inr ⟨rfl, by omega, by first | (rw [eadd, hNM] <;> rfl) | (rw [eadd, hNM, if_pos (by assumption)] <;> rfl) | (rw [eadd, hNM, if_neg (by assumption)] <;> rfl)⟩⟩))
-- X7_seeCoins
set_option maxRecDepth 10000 in
theorem k_101 {d : Nat} {M : Mt} {L : Lt} {Q : Option Value → Mt → Lt → Prop} {n m : Nat} {g : Int32} {a : Int32} (hI : Inv M) (hn : n ≤ 5) (en : M 4 2 = nI n) (hm : m ≤ 6) (em : M 64 2 = nI m) (hd : 2 ≤ d) (hq : ∀ (r : Int32) (N : Mt), St (fun i _ => 64 ≤ i ∧ i ≤ 66) M N → ((r = -1 ∧ ¬ (∃ k, k < n ∧ g = nI k) ∧ N = M) ∨ ((∃ k, k < n ∧ g = nI k) ∧ ((r = -2 ∧ ¬ inR a (-50) 50 ∧ N = M) ∨ (inR a (-50) 50 ∧ ((r = -4 ∧ m = 6 ∧ N = M) ∨ (r = nI (m + 1) ∧ m < 6 ∧ N = up2 (up2 (up2 M 65 m g) 66 m a) 64 2 (nI (m + 1)))))))) → Q (some (.int r)) N L) : Wp d 101 0 [.ref 0, .int g, .int a] [] M L Q := by
  refine (show ∀ N : Mt, N = M → St (fun i _ => 64 ≤ i ∧ i ≤ 66) M N → Wp d 101 0 [.ref 0, .int g, .int a] [] N L Q from ?_) M rfl (St.rf hI)
  intro N hNM hS
  have kz0 : N (4) 2 = nI n := by rw [hNM]; exact en
  have kz1 : N (64) 2 = nI m := by rw [hNM]; exact em
  refine w_load (.aload_n 0) 1 (by decide +kernel) rfl rfl ?_
  refine w_getR (k := 2) (r := 4) 4 (by decide +kernel) sh_0 rfl ?_
  refine w_load (.iload_n 1) 5 (by decide +kernel) rfl rfl ?_
  refine w_callV1 11 1 2 8 (by decide +kernel) sh_4 (Nat.le_of_ble_eq_true rfl) rfl (by decide) (by omega) ?_
  refine k_11 hS.1 hs_4 (by omega) kz0 (by omega) (fun r1 hr1 => ?_)
  dsimp only [Option.toList, List.cons_append, List.nil_append]
  rcases hr1 with ⟨rfl, k2, hk2, rfl⟩ | ⟨rfl, hnok2⟩
  · skip
    refine w_ine 13 11 (by decide +kernel) (fun _ => ?_) (fun hz => absurd hz (by decide))
    refine w_load (.iload_n 2) 14 (by decide +kernel) rfl rfl ?_
    refine w_push (-50) 16 (by decide +kernel) ?_
    refine w_clt 25 19 (by decide +kernel) (fun h4 => ?_) (fun h4 => ?_)
    · skip
      refine w_push (-2) 27 (by decide +kernel) ?_
      exact w_ret (by decide +kernel) (hq _ N hS (by first | exact Or.inl ⟨rfl, by assumption, hNM⟩ | exact Or.inr ⟨⟨_, by omega, rfl⟩, Or.inl ⟨rfl, by first | assumption | exact inR_lo (by assumption) (by decide) | exact inR_hi (by assumption) (by decide) | exact inR_nle (by assumption) (by decide), hNM⟩⟩ | exact Or.inr ⟨⟨_, by omega, rfl⟩, Or.inr ⟨by first | assumption | exact inR_of (by assumption) (by assumption) (by decide) (by decide) | exact inR_ofle (by assumption) (by assumption) (by decide) (by decide), Or.inl ⟨rfl, by omega, hNM⟩⟩⟩ | exact Or.inr ⟨⟨_, by omega, rfl⟩, Or.inr ⟨by first | assumption | exact inR_of (by assumption) (by assumption) (by decide) (by decide) | exact inR_ofle (by assumption) (by assumption) (by decide) (by decide), Or.inr ⟨rfl, by omega, by first | (rw [eadd, hNM] <;> rfl) | (rw [eadd, hNM, if_pos (by assumption)] <;> rfl) | (rw [eadd, hNM, if_neg (by assumption)] <;> rfl)⟩⟩⟩))
    · skip
      refine w_load (.iload_n 2) 20 (by decide +kernel) rfl rfl ?_
      refine w_pushN 50 22 (by decide +kernel) ?_
      refine w_cle 28 25 (by decide +kernel) (fun h5 => ?_) (fun h5 => ?_)
      · skip
        refine w_load (.aload_n 0) 29 (by decide +kernel) rfl rfl ?_
        refine w_getR (k := 10) (r := 64) 32 (by decide +kernel) sh_0 rfl ?_
        refine w_callV0 60 5 1 35 (by decide +kernel) sh_64 (Nat.le_of_ble_eq_true rfl)  (by decide) (by omega) ?_
        refine k_60 hS.1 (by omega) kz1 (by omega) (fun r6 hr6 => ?_)
        dsimp only [Option.toList, List.cons_append, List.nil_append]
        rcases hr6 with ⟨rfl, hfull⟩ | ⟨rfl, hfull⟩
        · skip
          refine w_ieq 43 38 (by decide +kernel) (fun hz => absurd hz (by decide)) (fun _ => ?_)
          refine w_push (-4) 40 (by decide +kernel) ?_
          refine w_goto 52 (by decide +kernel) ?_
          exact w_ret (by decide +kernel) (hq _ N hS (by first | exact Or.inl ⟨rfl, by assumption, hNM⟩ | exact Or.inr ⟨⟨_, by omega, rfl⟩, Or.inl ⟨rfl, by first | assumption | exact inR_lo (by assumption) (by decide) | exact inR_hi (by assumption) (by decide) | exact inR_nle (by assumption) (by decide), hNM⟩⟩ | exact Or.inr ⟨⟨_, by omega, rfl⟩, Or.inr ⟨by first | assumption | exact inR_of (by assumption) (by assumption) (by decide) (by decide) | exact inR_ofle (by assumption) (by assumption) (by decide) (by decide), Or.inl ⟨rfl, by omega, hNM⟩⟩⟩ | exact Or.inr ⟨⟨_, by omega, rfl⟩, Or.inr ⟨by first | assumption | exact inR_of (by assumption) (by assumption) (by decide) (by decide) | exact inR_ofle (by assumption) (by assumption) (by decide) (by decide), Or.inr ⟨rfl, by omega, by first | (rw [eadd, hNM] <;> rfl) | (rw [eadd, hNM, if_pos (by assumption)] <;> rfl) | (rw [eadd, hNM, if_neg (by assumption)] <;> rfl)⟩⟩⟩))
        · skip
          refine w_ieq 43 38 (by decide +kernel) (fun _ => ?_) (fun hz => absurd hz (by decide))
          refine w_load (.aload_n 0) 44 (by decide +kernel) rfl rfl ?_
          refine w_getR (k := 10) (r := 64) 47 (by decide +kernel) sh_0 rfl ?_
          refine w_load (.iload_n 1) 48 (by decide +kernel) rfl rfl ?_
          refine w_load (.iload_n 2) 49 (by decide +kernel) rfl rfl ?_
          refine w_callV2 61 5 3 52 (by decide +kernel) sh_64 (Nat.le_of_ble_eq_true rfl) rfl rfl (by decide) (by omega) ?_
          refine k_61 hS.1 (by omega) kz1 (by omega) (fun r9 Nr9 hTr9 hr9 => ?_)
          have hS := hS.tr hTr9 (by intro i k; first | exact rfl | exact fun h => h.elim | omega | (dsimp only; omega) | (simp only [Hs, Tl, Sc, isHs, isScr, isTs] at *; omega))
          dsimp only [Option.toList, List.cons_append, List.nil_append]
          rcases hr9 with ⟨rfl, eadd⟩
          · skip
            exact w_ret (by decide +kernel) (hq _ Nr9 hS (by first | exact Or.inl ⟨rfl, by assumption, hNM⟩ | exact Or.inr ⟨⟨_, by omega, rfl⟩, Or.inl ⟨rfl, by first | assumption | exact inR_lo (by assumption) (by decide) | exact inR_hi (by assumption) (by decide) | exact inR_nle (by assumption) (by decide), hNM⟩⟩ | exact Or.inr ⟨⟨_, by omega, rfl⟩, Or.inr ⟨by first | assumption | exact inR_of (by assumption) (by assumption) (by decide) (by decide) | exact inR_ofle (by assumption) (by assumption) (by decide) (by decide), Or.inl ⟨rfl, by omega, hNM⟩⟩⟩ | exact Or.inr ⟨⟨_, by omega, rfl⟩, Or.inr ⟨by first | assumption | exact inR_of (by assumption) (by assumption) (by decide) (by decide) | exact inR_ofle (by assumption) (by assumption) (by decide) (by decide), Or.inr ⟨rfl, by omega, by first | (rw [eadd, hNM] <;> rfl) | (rw [eadd, hNM, if_pos (by assumption)] <;> rfl) | (rw [eadd, hNM, if_neg (by assumption)] <;> rfl)⟩⟩⟩))
      · skip
        refine w_push (-2) 27 (by decide +kernel) ?_
        exact w_ret (by decide +kernel) (hq _ N hS (by first | exact Or.inl ⟨rfl, by assumption, hNM⟩ | exact Or.inr ⟨⟨_, by omega, rfl⟩, Or.inl ⟨rfl, by first | assumption | exact inR_lo (by assumption) (by decide) | exact inR_hi (by assumption) (by decide) | exact inR_nle (by assumption) (by decide), hNM⟩⟩ | exact Or.inr ⟨⟨_, by omega, rfl⟩, Or.inr ⟨by first | assumption | exact inR_of (by assumption) (by assumption) (by decide) (by decide) | exact inR_ofle (by assumption) (by assumption) (by decide) (by decide), Or.inl ⟨rfl, by omega, hNM⟩⟩⟩ | exact Or.inr ⟨⟨_, by omega, rfl⟩, Or.inr ⟨by first | assumption | exact inR_of (by assumption) (by assumption) (by decide) (by decide) | exact inR_ofle (by assumption) (by assumption) (by decide) (by decide), Or.inr ⟨rfl, by omega, by first | (rw [eadd, hNM] <;> rfl) | (rw [eadd, hNM, if_pos (by assumption)] <;> rfl) | (rw [eadd, hNM, if_neg (by assumption)] <;> rfl)⟩⟩⟩))
  · skip
    refine w_ine 13 11 (by decide +kernel) (fun hz => absurd hz (by decide)) (fun _ => ?_)
    refine w_push (-1) 12 (by decide +kernel) ?_
    exact w_ret (by decide +kernel) (hq _ N hS (by first | exact Or.inl ⟨rfl, by assumption, hNM⟩ | exact Or.inr ⟨⟨_, by omega, rfl⟩, Or.inl ⟨rfl, by first | assumption | exact inR_lo (by assumption) (by decide) | exact inR_hi (by assumption) (by decide) | exact inR_nle (by assumption) (by decide), hNM⟩⟩ | exact Or.inr ⟨⟨_, by omega, rfl⟩, Or.inr ⟨by first | assumption | exact inR_of (by assumption) (by assumption) (by decide) (by decide) | exact inR_ofle (by assumption) (by assumption) (by decide) (by decide), Or.inl ⟨rfl, by omega, hNM⟩⟩⟩ | exact Or.inr ⟨⟨_, by omega, rfl⟩, Or.inr ⟨by first | assumption | exact inR_of (by assumption) (by assumption) (by decide) (by decide) | exact inR_ofle (by assumption) (by assumption) (by decide) (by decide), Or.inr ⟨rfl, by omega, by first | (rw [eadd, hNM] <;> rfl) | (rw [eadd, hNM, if_pos (by assumption)] <;> rfl) | (rw [eadd, hNM, if_neg (by assumption)] <;> rfl)⟩⟩⟩))
-- X7_unsee
set_option maxRecDepth 10000 in
theorem k_102 {d : Nat} {M : Mt} {L : Lt} {Q : Option Value → Mt → Lt → Prop} {m : Nat}  (hI : Inv M) (hm : m ≤ 6) (em : M 64 2 = nI m) (hd : 1 ≤ d) (hq : ∀ (r : Int32) (N : Mt), St (fun i _ => 64 ≤ i ∧ i ≤ 66) M N → (r = nI m ∧ N = up2 M 64 2 (nI 0)) → Q (some (.int r)) N L) : Wp d 102 0 [.ref 0] [] M L Q := by
  refine (show ∀ N : Mt, N = M → St (fun i _ => 64 ≤ i ∧ i ≤ 66) M N → Wp d 102 0 [.ref 0] [] N L Q from ?_) M rfl (St.rf hI)
  intro N hNM hS
  have kz0 : N (64) 2 = nI m := by rw [hNM]; exact em
  refine w_load (.aload_n 0) 1 (by decide +kernel) rfl rfl ?_
  refine w_getR (k := 10) (r := 64) 4 (by decide +kernel) sh_0 rfl ?_
  refine w_callV0 62 5 2 7 (by decide +kernel) sh_64 (Nat.le_of_ble_eq_true rfl)  (by decide) (by omega) ?_
  refine k_62 hS.1 (by omega) kz0 (by omega) (fun r1 Nr1 hTr1 hr1 => ?_)
  have hS := hS.tr hTr1 (by intro i k; first | exact rfl | exact fun h => h.elim | omega | (dsimp only; omega) | (simp only [Hs, Tl, Sc, isHs, isScr, isTs] at *; omega))
  dsimp only [Option.toList, List.cons_append, List.nil_append]
  rcases hr1 with ⟨rfl, eemp⟩
  · skip
    exact w_ret (by decide +kernel) (hq _ Nr1 hS ⟨rfl, (by rw [eemp, hNM] <;> rfl)⟩)
-- X7_talesThatFit
set_option maxRecDepth 10000 in
theorem k_130 {d : Nat} {M : Mt} {L : Lt} {Q : Option Value → Mt → Lt → Prop}  (hI : Inv M)  (hd : 6 ≤ d) (hq : ∀ (r : Int32) (N : Mt), St (fun i _ => (7 ≤ i ∧ i ≤ 57) ∨ i = 63 ∨ i = 68 ∨ i = 69) M N → True → Q (some (.int r)) N L) : Wp d 130 0 [.ref 0, .null, .null] [] M L Q := by
  refine (show ∀ N : Mt, N = M → St (fun i _ => (7 ≤ i ∧ i ≤ 57) ∨ i = 63 ∨ i = 68 ∨ i = 69) M N → Wp d 130 0 [.ref 0, .null, .null] [] N L Q from ?_) M rfl (St.rf hI)
  intro N hNM hS
  refine w_pushN 0 1 (by decide +kernel) ?_
  refine w_store (ls' := [.ref 0, .int (nI 0), .null]) (.istore_n 1) 2 (by decide +kernel) rfl rfl ?_
  refine w_pushN 0 3 (by decide +kernel) ?_
  refine w_store (ls' := [.ref 0, .int (nI 0), .int (nI 0)]) (.istore_n 2) 4 (by decide +kernel) rfl rfl ?_
  have LP_4 : ∀ (kk : Nat) (N_4 : Mt) (x1_4 : Int32) (g2 : Nat), St (fun i _ => (7 ≤ i ∧ i ≤ 57) ∨ i = 63 ∨ i = 68 ∨ i = 69) M N_4 → g2 ≤ 3 → 3 - g2 < kk → Wp d 130 4 [.ref 0, .int x1_4, .int (nI g2)] [] N_4 L Q := by
    intro kk
    induction kk with
    | zero => intro N_4 x1_4 g2 hS hi0_4 hm_4; exact absurd hm_4 (Nat.not_lt_zero _)
    | succ kk ih_4 =>
      intro N_4 x1_4 g2 hS hi0_4 hm_4
      refine w_load (.iload_n 2) 5 (by decide +kernel) rfl rfl ?_
      refine w_pushN 3 6 (by decide +kernel) ?_
      refine w_cgeN 59 9 (by decide +kernel) (by omega) (by omega) (fun h1 => ?_) (fun h1 => ?_)
      · skip
        refine w_load (.iload_n 1) 60 (by decide +kernel) rfl rfl ?_
        exact w_ret (by decide +kernel) (hq _ N_4 hS trivial)
      · skip
        refine w_load (.aload_n 0) 10 (by decide +kernel) rfl rfl ?_
        refine w_getR (k := 4) (r := 10) 13 (by decide +kernel) sh_0 rfl ?_
        refine w_load (.aload_n 0) 14 (by decide +kernel) rfl rfl ?_
        refine w_getR (k := 2) (r := 4) 17 (by decide +kernel) sh_0 rfl ?_
        refine w_load (.aload_n 0) 18 (by decide +kernel) rfl rfl ?_
        refine w_getR (k := 1) (r := 3) 21 (by decide +kernel) sh_0 rfl ?_
        refine w_load (.iload_n 2) 22 (by decide +kernel) rfl rfl ?_
        refine w_tale 23 (by decide +kernel) (by omega) ?_
        refine w_callV2 68 6 5 26 (by decide +kernel) sh_10 (Nat.le_of_ble_eq_true rfl) rfl rfl (by decide) (by omega) ?_
        refine k_68 hS.1 tl_10 hs_4 (sc_tale g2 (by omega)) (by omega) (fun Nr2 hTr2 hr2 => ?_)
        have hS := hS.tr hTr2 (by intro i k; first | exact rfl | exact fun h => h.elim | omega | (dsimp only; omega) | (simp only [Hs, Tl, Sc, isHs, isScr, isTs] at *; omega))
        dsimp only [Option.toList, List.nil_append]
        refine w_load (.iload_n 1) 27 (by decide +kernel) rfl rfl ?_
        refine w_load (.aload_n 0) 28 (by decide +kernel) rfl rfl ?_
        refine w_getR (k := 10) (r := 64) 31 (by decide +kernel) sh_0 rfl ?_
        refine w_load (.aload_n 0) 32 (by decide +kernel) rfl rfl ?_
        refine w_getR (k := 4) (r := 10) 35 (by decide +kernel) sh_0 rfl ?_
        refine w_getR (k := 0) (r := 11) 38 (by decide +kernel) sh_10 rfl ?_
        refine w_callV1 63 5 3 41 (by decide +kernel) sh_64 (Nat.le_of_ble_eq_true rfl) rfl (by decide) (by omega) ?_
        refine k_63 hS.1 hs_11 (by omega) (fun r3 hr3 => ?_)
        dsimp only [Option.toList, List.cons_append, List.nil_append]
        refine w_ieq 50 44 (by decide +kernel) (fun h4 => ?_) (fun h4 => ?_)
        · skip
          refine w_pushN 0 51 (by decide +kernel) ?_
          refine w_pure .ior 52 (by decide +kernel) rfl rfl ?_
          refine w_topi (fun v5 ev5 => ?_)
          refine w_store (ls' := [.ref 0, .int v5, .int (nI g2)]) (.istore_n 1) 53 (by decide +kernel) rfl rfl ?_
          refine w_iincN (z := 2) (g2 + 1) 56 (by decide +kernel) rfl (Nat.le_of_ble_eq_true rfl) rfl rfl ?_
          show Wp _ _ _ [.ref 0, .int v5, .int (nI (g2 + 1))] _ _ _ _
          refine w_goto 4 (by decide +kernel) ?_
          exact ih_4 Nr2 _ (g2 + 1) hS (by omega) (by omega)
        · skip
          refine w_pushN 1 45 (by decide +kernel) ?_
          refine w_load (.iload_n 2) 46 (by decide +kernel) rfl rfl ?_
          refine w_pure .ishl 47 (by decide +kernel) rfl rfl ?_
          refine w_goto 51 (by decide +kernel) ?_
          refine w_pure .ior 52 (by decide +kernel) rfl rfl ?_
          refine w_topi (fun v6 ev6 => ?_)
          refine w_store (ls' := [.ref 0, .int v6, .int (nI g2)]) (.istore_n 1) 53 (by decide +kernel) rfl rfl ?_
          refine w_iincN (z := 2) (g2 + 1) 56 (by decide +kernel) rfl (Nat.le_of_ble_eq_true rfl) rfl rfl ?_
          show Wp _ _ _ [.ref 0, .int v6, .int (nI (g2 + 1))] _ _ _ _
          refine w_goto 4 (by decide +kernel) ?_
          exact ih_4 Nr2 _ (g2 + 1) hS (by omega) (by omega)
  exact LP_4 _ N _ 0 hS (by omega) (Nat.lt_succ_self _)
-- X7_which
set_option maxRecDepth 10000 in
theorem k_103 {d : Nat} {M : Mt} {L : Lt} {Q : Option Value → Mt → Lt → Prop}  (hI : Inv M)  (hd : 7 ≤ d) (hq : ∀ (r : Int32) (N : Mt), St (fun i _ => (7 ≤ i ∧ i ≤ 57) ∨ i = 63 ∨ i = 68 ∨ i = 69) M N → True → Q (some (.int r)) N L) : Wp d 103 0 [.ref 0] [] M L Q := by
  refine (show ∀ N : Mt, N = M → St (fun i _ => (7 ≤ i ∧ i ≤ 57) ∨ i = 63 ∨ i = 68 ∨ i = 69) M N → Wp d 103 0 [.ref 0] [] N L Q from ?_) M rfl (St.rf hI)
  intro N hNM hS
  refine w_load (.aload_n 0) 1 (by decide +kernel) rfl rfl ?_
  refine w_callV0 130 7 3 4 (by decide +kernel) sh_0 (Nat.le_of_ble_eq_true rfl)  (by decide) (by omega) ?_
  refine k_130 hS.1  (by omega) (fun r1 Nr1 hTr1 hr1 => ?_)
  have hS := hS.tr hTr1 (by intro i k; first | exact rfl | exact fun h => h.elim | omega | (dsimp only; omega) | (simp only [Hs, Tl, Sc, isHs, isScr, isTs] at *; omega))
  dsimp only [Option.toList, List.cons_append, List.nil_append]
  exact w_ret (by decide +kernel) (hq _ Nr1 hS trivial)
-- X7_likely
set_option maxRecDepth 10000 in
theorem k_104 {d : Nat} {M : Mt} {L : Lt} {Q : Option Value → Mt → Lt → Prop} {a : Int32} {b : Int32} (hI : Inv M)  (hd : 7 ≤ d) (hq : ∀ (r : Int32) (N : Mt), St (fun i _ => (7 ≤ i ∧ i ≤ 57) ∨ i = 63 ∨ i = 68 ∨ i = 69) M N → True → Q (some (.int r)) N L) : Wp d 104 0 [.ref 0, .int a, .int b, .null, .null, .null] [] M L Q := by
  refine (show ∀ N : Mt, N = M → St (fun i _ => (7 ≤ i ∧ i ≤ 57) ∨ i = 63 ∨ i = 68 ∨ i = 69) M N → Wp d 104 0 [.ref 0, .int a, .int b, .null, .null, .null] [] N L Q from ?_) M rfl (St.rf hI)
  intro N hNM hS
  refine w_load (.iload_n 1) 1 (by decide +kernel) rfl rfl ?_
  refine w_callS1 111 1 4 (by decide +kernel) (Nat.le_of_ble_eq_true rfl) rfl (by decide) (by omega) ?_
  refine k_111 hS.1  (by omega) (fun r1 hr1 => ?_)
  dsimp only [Option.toList, List.cons_append, List.nil_append]
  rcases hr1 with ⟨rfl, k2, hk2, rfl⟩ | ⟨rfl, hnok2⟩
  · skip
    refine w_ine 9 7 (by decide +kernel) (fun _ => ?_) (fun hz => absurd hz (by decide))
    refine w_load (.aload_n 0) 10 (by decide +kernel) rfl rfl ?_
    refine w_callV0 130 7 3 13 (by decide +kernel) sh_0 (Nat.le_of_ble_eq_true rfl)  (by decide) (by omega) ?_
    refine k_130 hS.1  (by omega) (fun r4 Nr4 hTr4 hr4 => ?_)
    have hS := hS.tr hTr4 (by intro i k; first | exact rfl | exact fun h => h.elim | omega | (dsimp only; omega) | (simp only [Hs, Tl, Sc, isHs, isScr, isTs] at *; omega))
    dsimp only [Option.toList, List.cons_append, List.nil_append]
    refine w_store (ls' := [.ref 0, .int (nI k2), .int b, .int r4, .null, .null]) (.istore_n 3) 14 (by decide +kernel) rfl rfl ?_
    refine w_pushN 0 15 (by decide +kernel) ?_
    refine w_store (ls' := [.ref 0, .int (nI k2), .int b, .int r4, .int (nI 0), .null]) (.istore 4) 17 (by decide +kernel) rfl rfl ?_
    refine w_pushN 0 18 (by decide +kernel) ?_
    refine w_store (ls' := [.ref 0, .int (nI k2), .int b, .int r4, .int (nI 0), .int (nI 0)]) (.istore 5) 20 (by decide +kernel) rfl rfl ?_
    have LP_20 : ∀ (kk : Nat) (N_20 : Mt) (x4_20 : Int32) (g5 : Nat), St (fun i _ => (7 ≤ i ∧ i ≤ 57) ∨ i = 63 ∨ i = 68 ∨ i = 69) M N_20 → g5 ≤ 3 → 3 - g5 < kk → Wp d 104 20 [.ref 0, .int (nI k2), .int b, .int r4, .int x4_20, .int (nI g5)] [] N_20 L Q := by
      intro kk
      induction kk with
      | zero => intro N_20 x4_20 g5 hS hi0_20 hm_20; exact absurd hm_20 (Nat.not_lt_zero _)
      | succ kk ih_20 =>
        intro N_20 x4_20 g5 hS hi0_20 hm_20
        refine w_load (.iload 5) 22 (by decide +kernel) rfl rfl ?_
        refine w_pushN 3 23 (by decide +kernel) ?_
        refine w_cgeN 57 26 (by decide +kernel) (by omega) (by omega) (fun h5 => ?_) (fun h5 => ?_)
        · skip
          refine w_load (.iload 4) 59 (by decide +kernel) rfl rfl ?_
          refine w_igt 65 62 (by decide +kernel) (fun h6 => ?_) (fun h6 => ?_)
          · skip
            refine w_load (.iload_n 3) 66 (by decide +kernel) rfl rfl ?_
            refine w_load (.iload_n 1) 67 (by decide +kernel) rfl rfl ?_
            refine w_callS2 115 2 70 (by decide +kernel) (Nat.le_of_ble_eq_true rfl) rfl rfl (by decide) (by omega) ?_
            refine k_115 hS.1  (by omega) (fun r7 hr7 => ?_)
            dsimp only [Option.toList, List.cons_append, List.nil_append]
            refine w_ieq 82 73 (by decide +kernel) (fun h8 => ?_) (fun h8 => ?_)
            · skip
              refine w_pushN 0 83 (by decide +kernel) ?_
              refine w_store (ls' := [.ref 0, .int (nI k2), .int b, .int r4, .int x4_20, .int (nI 0)]) (.istore 5) 85 (by decide +kernel) rfl rfl ?_
              refine w_load (.iload_n 2) 86 (by decide +kernel) rfl rfl ?_
              refine w_ieq 94 89 (by decide +kernel) (fun h9 => ?_) (fun h9 => ?_)
              · skip
                refine w_load (.iload 4) 96 (by decide +kernel) rfl rfl ?_
                refine w_load (.iload 5) 98 (by decide +kernel) rfl rfl ?_
                refine w_load (.iload 4) 100 (by decide +kernel) rfl rfl ?_
                refine w_callS3 120 4 103 (by decide +kernel) (Nat.le_of_ble_eq_true rfl) rfl rfl rfl (by decide) (by omega) ?_
                refine k_120 hS.1  (by omega) (fun r10 hr10 => ?_)
                dsimp only [Option.toList, List.cons_append, List.nil_append]
                exact w_ret (by decide +kernel) (hq _ N_20 hS trivial)
              · skip
                refine w_load (.iload 5) 91 (by decide +kernel) rfl rfl ?_
                refine w_goto 96 (by decide +kernel) ?_
                refine w_load (.iload 5) 98 (by decide +kernel) rfl rfl ?_
                refine w_load (.iload 4) 100 (by decide +kernel) rfl rfl ?_
                refine w_callS3 120 4 103 (by decide +kernel) (Nat.le_of_ble_eq_true rfl) rfl rfl rfl (by decide) (by omega) ?_
                refine k_120 hS.1  (by omega) (fun r11 hr11 => ?_)
                dsimp only [Option.toList, List.cons_append, List.nil_append]
                exact w_ret (by decide +kernel) (hq _ N_20 hS trivial)
            · skip
              refine w_load (.aload_n 0) 74 (by decide +kernel) rfl rfl ?_
              refine w_getR (k := 11) (r := 67) 77 (by decide +kernel) sh_0 rfl ?_
              refine w_load (.iload_n 1) 78 (by decide +kernel) rfl rfl ?_
              refine w_ialdN 79 (by decide +kernel) sh_67 (by omega) (by omega) ?_
              refine w_goto 83 (by decide +kernel) ?_
              refine w_topi (fun v12 ev12 => ?_)
              refine w_store (ls' := [.ref 0, .int (nI k2), .int b, .int r4, .int x4_20, .int v12]) (.istore 5) 85 (by decide +kernel) rfl rfl ?_
              refine w_load (.iload_n 2) 86 (by decide +kernel) rfl rfl ?_
              refine w_ieq 94 89 (by decide +kernel) (fun h13 => ?_) (fun h13 => ?_)
              · skip
                refine w_load (.iload 4) 96 (by decide +kernel) rfl rfl ?_
                refine w_load (.iload 5) 98 (by decide +kernel) rfl rfl ?_
                refine w_load (.iload 4) 100 (by decide +kernel) rfl rfl ?_
                refine w_callS3 120 4 103 (by decide +kernel) (Nat.le_of_ble_eq_true rfl) rfl rfl rfl (by decide) (by omega) ?_
                refine k_120 hS.1  (by omega) (fun r14 hr14 => ?_)
                dsimp only [Option.toList, List.cons_append, List.nil_append]
                exact w_ret (by decide +kernel) (hq _ N_20 hS trivial)
              · skip
                refine w_load (.iload 5) 91 (by decide +kernel) rfl rfl ?_
                refine w_goto 96 (by decide +kernel) ?_
                refine w_load (.iload 5) 98 (by decide +kernel) rfl rfl ?_
                refine w_load (.iload 4) 100 (by decide +kernel) rfl rfl ?_
                refine w_callS3 120 4 103 (by decide +kernel) (Nat.le_of_ble_eq_true rfl) rfl rfl rfl (by decide) (by omega) ?_
                refine k_120 hS.1  (by omega) (fun r15 hr15 => ?_)
                dsimp only [Option.toList, List.cons_append, List.nil_append]
                exact w_ret (by decide +kernel) (hq _ N_20 hS trivial)
          · skip
            refine w_push (-3) 64 (by decide +kernel) ?_
            exact w_ret (by decide +kernel) (hq _ N_20 hS trivial)
        · skip
          refine w_load (.iload 4) 28 (by decide +kernel) rfl rfl ?_
          refine w_load (.iload_n 3) 29 (by decide +kernel) rfl rfl ?_
          refine w_load (.iload 5) 31 (by decide +kernel) rfl rfl ?_
          refine w_callS2 115 2 34 (by decide +kernel) (Nat.le_of_ble_eq_true rfl) rfl rfl (by decide) (by omega) ?_
          refine k_115 hS.1  (by omega) (fun r16 hr16 => ?_)
          dsimp only [Option.toList, List.cons_append, List.nil_append]
          refine w_ieq 47 37 (by decide +kernel) (fun h17 => ?_) (fun h17 => ?_)
          · skip
            refine w_pushN 0 48 (by decide +kernel) ?_
            refine w_pure .iadd 49 (by decide +kernel) rfl rfl ?_
            refine w_topi (fun v18 ev18 => ?_)
            refine w_store (ls' := [.ref 0, .int (nI k2), .int b, .int r4, .int v18, .int (nI g5)]) (.istore 4) 51 (by decide +kernel) rfl rfl ?_
            refine w_iincN (z := 5) (g5 + 1) 54 (by decide +kernel) rfl (Nat.le_of_ble_eq_true rfl) rfl rfl ?_
            show Wp _ _ _ [.ref 0, .int (nI k2), .int b, .int r4, .int v18, .int (nI (g5 + 1))] _ _ _ _
            refine w_goto 20 (by decide +kernel) ?_
            exact ih_20 N_20 _ (g5 + 1) hS (by omega) (by omega)
          · skip
            refine w_load (.aload_n 0) 38 (by decide +kernel) rfl rfl ?_
            refine w_getR (k := 11) (r := 67) 41 (by decide +kernel) sh_0 rfl ?_
            refine w_load (.iload 5) 43 (by decide +kernel) rfl rfl ?_
            refine w_ialdN 44 (by decide +kernel) sh_67 (by omega) (by omega) ?_
            refine w_goto 48 (by decide +kernel) ?_
            refine w_pure .iadd 49 (by decide +kernel) rfl rfl ?_
            refine w_topi (fun v19 ev19 => ?_)
            refine w_store (ls' := [.ref 0, .int (nI k2), .int b, .int r4, .int v19, .int (nI g5)]) (.istore 4) 51 (by decide +kernel) rfl rfl ?_
            refine w_iincN (z := 5) (g5 + 1) 54 (by decide +kernel) rfl (Nat.le_of_ble_eq_true rfl) rfl rfl ?_
            show Wp _ _ _ [.ref 0, .int (nI k2), .int b, .int r4, .int v19, .int (nI (g5 + 1))] _ _ _ _
            refine w_goto 20 (by decide +kernel) ?_
            exact ih_20 N_20 _ (g5 + 1) hS (by omega) (by omega)
    exact LP_20 _ Nr4 _ 0 hS (by omega) (Nat.lt_succ_self _)
  · skip
    refine w_ine 9 7 (by decide +kernel) (fun hz => absurd hz (by decide)) (fun _ => ?_)
    refine w_push (-1) 8 (by decide +kernel) ?_
    exact w_ret (by decide +kernel) (hq _ N hS trivial)
-- X7_drawTale
set_option maxRecDepth 10000 in
theorem k_131 {d : Nat} {M : Mt} {L : Lt} {Q : Option Value → Mt → Lt → Prop}  (hI : Inv M)  (hd : 0 ≤ d) (hq : ∀ (r : Int32) (N : Mt) (L' : Lt), St (fun _ _ => False) M N → ((∃ n, n < 3 ∧ r = nI n) ∧ L' = upL L 0 (nxS (L 0))) → Q (some (.int r)) N L') : Wp d 131 0 [.ref 0, .null] [] M L Q := by
  refine (show ∀ N : Mt, N = M → St (fun _ _ => False) M N → Wp d 131 0 [.ref 0, .null] [] N L Q from ?_) M rfl (St.rf hI)
  intro N hNM hS
  refine w_load (.aload_n 0) 1 (by decide +kernel) rfl rfl ?_
  refine w_load (.aload_n 0) 2 (by decide +kernel) rfl rfl ?_
  refine w_getL (k := 16) 5 (by decide +kernel) sh_0 rfl ?_
  refine w_pushL (6364136223846793005) 8 (by decide +kernel) ?_
  refine w_pure .lmul 9 (by decide +kernel) rfl rfl ?_
  refine w_pushL (1442695040888963407) 12 (by decide +kernel) ?_
  refine w_pure .ladd 13 (by decide +kernel) rfl rfl ?_
  refine w_putLE (k := 16) 16 (by decide +kernel) sh_0 rfl only0 (fun Lq1 mq1 => ?_)
  refine w_load (.aload_n 0) 17 (by decide +kernel) rfl rfl ?_
  refine w_getL (k := 16) 20 (by decide +kernel) sh_0 rfl ?_
  refine w_pushN 33 22 (by decide +kernel) ?_
  refine w_pure .lushr 23 (by decide +kernel) rfl rfl ?_
  refine w_pushL (10) 26 (by decide +kernel) ?_
  refine w_lrem 27 (by decide +kernel) (by decide) ?_
  refine w_pure .l2i 28 (by decide +kernel) rfl rfl ?_
  refine w_topi (fun v2 ev2 => ?_)
  refine w_store (ls' := [.ref 0, .int v2]) (.istore_n 1) 29 (by decide +kernel) rfl rfl ?_
  refine w_load (.iload_n 1) 30 (by decide +kernel) rfl rfl ?_
  refine w_load (.aload_n 0) 31 (by decide +kernel) rfl rfl ?_
  refine w_getR (k := 11) (r := 67) 34 (by decide +kernel) sh_0 rfl ?_
  refine w_pushN 0 35 (by decide +kernel) ?_
  refine w_ialdN 36 (by decide +kernel) sh_67 (by omega) (by omega) ?_
  refine w_cge 41 39 (by decide +kernel) (fun h3 => ?_) (fun h3 => ?_)
  · skip
    refine w_load (.iload_n 1) 42 (by decide +kernel) rfl rfl ?_
    refine w_load (.aload_n 0) 43 (by decide +kernel) rfl rfl ?_
    refine w_getR (k := 11) (r := 67) 46 (by decide +kernel) sh_0 rfl ?_
    refine w_pushN 0 47 (by decide +kernel) ?_
    refine w_ialdN 48 (by decide +kernel) sh_67 (by omega) (by omega) ?_
    refine w_load (.aload_n 0) 49 (by decide +kernel) rfl rfl ?_
    refine w_getR (k := 11) (r := 67) 52 (by decide +kernel) sh_0 rfl ?_
    refine w_pushN 1 53 (by decide +kernel) ?_
    refine w_ialdN 54 (by decide +kernel) sh_67 (by omega) (by omega) ?_
    refine w_pure .iadd 55 (by decide +kernel) rfl rfl ?_
    refine w_cge 62 58 (by decide +kernel) (fun h4 => ?_) (fun h4 => ?_)
    · skip
      refine w_pushN 2 63 (by decide +kernel) ?_
      exact w_ret (by decide +kernel) (hq _ N Lq1 hS ⟨⟨_, by decide, rfl⟩, by assumption⟩)
    · skip
      refine w_pushN 1 59 (by decide +kernel) ?_
      refine w_goto 63 (by decide +kernel) ?_
      exact w_ret (by decide +kernel) (hq _ N Lq1 hS ⟨⟨_, by decide, rfl⟩, by assumption⟩)
  · skip
    refine w_pushN 0 40 (by decide +kernel) ?_
    exact w_ret (by decide +kernel) (hq _ N Lq1 hS ⟨⟨_, by decide, rfl⟩, by assumption⟩)
-- X7_nights
set_option maxRecDepth 10000 in
theorem k_106 {d : Nat} {M : Mt} {L : Lt} {Q : Option Value → Mt → Lt → Prop} {a : Int32} (hI : Inv M)  (hd : 6 ≤ d) (hq : ∀ (r : Int32) (N : Mt) (L' : Lt), St (fun i _ => (7 ≤ i ∧ i ≤ 57) ∨ i = 63 ∨ i = 68 ∨ i = 69) M N → ((¬ (∃ k, 1 ≤ k ∧ k ≤ 40 ∧ a = nI k) ∧ L' = L) ∨ (∃ k, 1 ≤ k ∧ k ≤ 40 ∧ a = nI k ∧ L' 0 = itS k (L 0) ∧ L' 76 = L 76)) → Q (some (.int r)) N L') : Wp d 106 0 [.ref 0, .int a, .null] [] M L Q := by
  refine (show ∀ N : Mt, N = M → St (fun i _ => (7 ≤ i ∧ i ≤ 57) ∨ i = 63 ∨ i = 68 ∨ i = 69) M N → Wp d 106 0 [.ref 0, .int a, .null] [] N L Q from ?_) M rfl (St.rf hI)
  intro N hNM hS
  refine w_load (.iload_n 1) 1 (by decide +kernel) rfl rfl ?_
  refine w_pushN 1 2 (by decide +kernel) ?_
  refine w_clt 11 5 (by decide +kernel) (fun h1 => ?_) (fun h1 => ?_)
  · skip
    refine w_push (-2) 13 (by decide +kernel) ?_
    exact w_ret (by decide +kernel) (hq _ N L hS (Or.inl ⟨by first | exact no_rlo (by assumption) (by decide) | exact no_rhi (by assumption) (by decide), rfl⟩))
  · skip
    refine w_load (.iload_n 1) 6 (by decide +kernel) rfl rfl ?_
    refine w_pushN 40 8 (by decide +kernel) ?_
    refine w_cle 14 11 (by decide +kernel) (fun h2 => ?_) (fun h2 => ?_)
    · skip
      obtain ⟨k3, hk3, hk3b, rfl⟩ := rng_1 (by assumption) h2 (by decide)
      refine w_load (.aload_n 0) 15 (by decide +kernel) rfl rfl ?_
      refine w_getR (k := 3) (r := 7) 18 (by decide +kernel) sh_0 rfl ?_
      refine w_load (.aload_n 0) 19 (by decide +kernel) rfl rfl ?_
      refine w_getR (k := 2) (r := 4) 22 (by decide +kernel) sh_0 rfl ?_
      refine w_callV1 8 1 2 25 (by decide +kernel) sh_7 (Nat.le_of_ble_eq_true rfl) rfl (by decide) (by omega) ?_
      refine k_8 hS.1 hs_7 hs_4 (by omega) (fun Nr4 hTr4 hr4 => ?_)
      have hS := hS.tr hTr4 (by intro i k; first | exact rfl | exact fun h => h.elim | omega | (dsimp only; omega) | (simp only [Hs, Tl, Sc, isHs, isScr, isTs] at *; omega))
      dsimp only [Option.toList, List.nil_append]
      refine w_pushN 0 26 (by decide +kernel) ?_
      refine w_store (ls' := [.ref 0, .int (nI k3), .int (nI 0)]) (.istore_n 2) 27 (by decide +kernel) rfl rfl ?_
      have LP_27 : ∀ (kk : Nat) (N_27 : Mt) (L_27 : Lt) (g2 : Nat), St (fun i _ => (7 ≤ i ∧ i ≤ 57) ∨ i = 63 ∨ i = 68 ∨ i = 69) M N_27 → g2 ≤ 40 → L_27 0 = itS g2 (L 0) → L_27 76 = L 76 → g2 ≤ k3 → 40 - g2 < kk → Wp d 106 27 [.ref 0, .int (nI k3), .int (nI g2)] [] N_27 L_27 Q := by
        intro kk
        induction kk with
        | zero => intro N_27 L_27 g2 hS hi0_27 hi1_27 hi2_27 hi3_27 hm_27; exact absurd hm_27 (Nat.not_lt_zero _)
        | succ kk ih_27 =>
          intro N_27 L_27 g2 hS hi0_27 hi1_27 hi2_27 hi3_27 hm_27
          refine w_load (.iload_n 2) 28 (by decide +kernel) rfl rfl ?_
          refine w_load (.iload_n 1) 29 (by decide +kernel) rfl rfl ?_
          refine w_cgeN 72 32 (by decide +kernel) (by omega) (by omega) (fun h5 => ?_) (fun h5 => ?_)
          · skip
            refine w_load (.aload_n 0) 73 (by decide +kernel) rfl rfl ?_
            refine w_getR (k := 3) (r := 7) 76 (by decide +kernel) sh_0 rfl ?_
            refine w_callV0 19 1 1 79 (by decide +kernel) sh_7 (Nat.le_of_ble_eq_true rfl)  (by decide) (by omega) ?_
            refine k_19 hS.1 hs_7 (by omega) (fun r6 hr6 => ?_)
            dsimp only [Option.toList, List.cons_append, List.nil_append]
            exact w_ret (by decide +kernel) (hq _ N_27 L_27 hS (Or.inr ⟨_, by omega, by omega, rfl, it_end hi1_27 (by omega), hi2_27⟩))
          · skip
            refine w_load (.aload_n 0) 33 (by decide +kernel) rfl rfl ?_
            refine w_getR (k := 4) (r := 10) 36 (by decide +kernel) sh_0 rfl ?_
            refine w_load (.aload_n 0) 37 (by decide +kernel) rfl rfl ?_
            refine w_getR (k := 3) (r := 7) 40 (by decide +kernel) sh_0 rfl ?_
            refine w_load (.aload_n 0) 41 (by decide +kernel) rfl rfl ?_
            refine w_getR (k := 1) (r := 3) 44 (by decide +kernel) sh_0 rfl ?_
            refine w_load (.aload_n 0) 45 (by decide +kernel) rfl rfl ?_
            refine w_callV0 131 7 2 48 (by decide +kernel) sh_0 (Nat.le_of_ble_eq_true rfl)  (by decide) (by omega) ?_
            refine k_131 hS.1  (by omega) (fun r7 Nr7 Lr7 hTr7 hr7 => ?_)
            have hS := hS.tr hTr7 (by intro i k; first | exact rfl | exact fun h => h.elim | omega | (dsimp only; omega) | (simp only [Hs, Tl, Sc, isHs, isScr, isTs] at *; omega))
            have hl0 : Lr7 0 = itS (g2 + 1) (L 0) := by rw [hr7.2, upL_eq, hi1_27]; rfl
            have hl76 : Lr7 76 = L 76 := by rw [hr7.2, upL_ne (by decide)]; exact hi2_27
            dsimp only [Option.toList, List.cons_append, List.nil_append]
            rcases hr7 with ⟨⟨nr7, hnr7, rfl⟩, hLr7⟩
            · skip
              refine w_tale 49 (by decide +kernel) (by omega) ?_
              refine w_callV2 68 6 5 52 (by decide +kernel) sh_10 (Nat.le_of_ble_eq_true rfl) rfl rfl (by decide) (by omega) ?_
              refine k_68 hS.1 tl_10 hs_7 (sc_tale nr7 (by omega)) (by omega) (fun Nr8 hTr8 hr8 => ?_)
              have hS := hS.tr hTr8 (by intro i k; first | exact rfl | exact fun h => h.elim | omega | (dsimp only; omega) | (simp only [Hs, Tl, Sc, isHs, isScr, isTs] at *; omega))
              dsimp only [Option.toList, List.nil_append]
              refine w_load (.aload_n 0) 53 (by decide +kernel) rfl rfl ?_
              refine w_getR (k := 3) (r := 7) 56 (by decide +kernel) sh_0 rfl ?_
              refine w_load (.aload_n 0) 57 (by decide +kernel) rfl rfl ?_
              refine w_getR (k := 4) (r := 10) 60 (by decide +kernel) sh_0 rfl ?_
              refine w_getR (k := 0) (r := 11) 63 (by decide +kernel) sh_10 rfl ?_
              refine w_callV1 9 1 2 66 (by decide +kernel) sh_7 (Nat.le_of_ble_eq_true rfl) rfl (by decide) (by omega) ?_
              refine k_9 hS.1 hs_7 hs_11 (by omega) (fun Nr9 hTr9 hr9 => ?_)
              have hS := hS.tr hTr9 (by intro i k; first | exact rfl | exact fun h => h.elim | omega | (dsimp only; omega) | (simp only [Hs, Tl, Sc, isHs, isScr, isTs] at *; omega))
              dsimp only [Option.toList, List.nil_append]
              refine w_iincN (z := 2) (g2 + 1) 69 (by decide +kernel) rfl (Nat.le_of_ble_eq_true rfl) rfl rfl ?_
              show Wp _ _ _ [.ref 0, .int (nI k3), .int (nI (g2 + 1))] _ _ _ _
              refine w_goto 27 (by decide +kernel) ?_
              exact ih_27 Nr9 Lr7 (g2 + 1) hS (by first | omega | assumption) (by first | omega | assumption) (by first | omega | assumption) (by first | omega | assumption) (by omega)
      exact LP_27 _ Nr4 L 0 hS (by first | omega | rfl) (by first | omega | rfl) (by first | omega | rfl) (by first | omega | rfl) (Nat.lt_succ_self _)
    · skip
      refine w_push (-2) 13 (by decide +kernel) ?_
      exact w_ret (by decide +kernel) (hq _ N L hS (Or.inl ⟨by first | exact no_rlo (by assumption) (by decide) | exact no_rhi (by assumption) (by decide), rfl⟩))
-- X7_lettersOfTales
set_option maxRecDepth 10000 in
theorem k_132 {d : Nat} {M : Mt} {L : Lt} {Q : Option Value → Mt → Lt → Prop}  (hI : Inv M)  (hd : 1 ≤ d) (hq : ∀ (r : Int32), True → Q (some (.int r)) M L) : Wp d 132 0 [.ref 0, .null, .null] [] M L Q := by
  refine w_pushN 0 1 (by decide +kernel) ?_
  refine w_store (ls' := [.ref 0, .int (nI 0), .null]) (.istore_n 1) 2 (by decide +kernel) rfl rfl ?_
  refine w_pushN 0 3 (by decide +kernel) ?_
  refine w_store (ls' := [.ref 0, .int (nI 0), .int (nI 0)]) (.istore_n 2) 4 (by decide +kernel) rfl rfl ?_
  have LP_4 : ∀ (kk : Nat) (x1_4 : Int32) (g2 : Nat), g2 ≤ 3 → 3 - g2 < kk → Wp d 132 4 [.ref 0, .int x1_4, .int (nI g2)] [] M L Q := by
    intro kk
    induction kk with
    | zero => intro x1_4 g2 hi0_4 hm_4; exact absurd hm_4 (Nat.not_lt_zero _)
    | succ kk ih_4 =>
      intro x1_4 g2 hi0_4 hm_4
      refine w_load (.iload_n 2) 5 (by decide +kernel) rfl rfl ?_
      refine w_load (.aload_n 0) 6 (by decide +kernel) rfl rfl ?_
      refine w_getR (k := 1) (r := 3) 9 (by decide +kernel) sh_0 rfl ?_
      refine w_alen (nI 3) 10 (by decide +kernel) sh_3 (by decide) (by first | rfl | simp [nI]) ?_
      refine w_cgeN 31 13 (by decide +kernel) (by omega) (by omega) (fun h1 => ?_) (fun h1 => ?_)
      · skip
        refine w_load (.iload_n 1) 32 (by decide +kernel) rfl rfl ?_
        exact w_ret (by decide +kernel) (hq _ trivial)
      · skip
        refine w_load (.iload_n 1) 14 (by decide +kernel) rfl rfl ?_
        refine w_load (.aload_n 0) 15 (by decide +kernel) rfl rfl ?_
        refine w_getR (k := 1) (r := 3) 18 (by decide +kernel) sh_0 rfl ?_
        refine w_load (.iload_n 2) 19 (by decide +kernel) rfl rfl ?_
        refine w_tale 20 (by decide +kernel) (by omega) ?_
        refine w_callV0 36 2 1 23 (by decide +kernel) (sc_tale g2 (by omega)).1.1 (Nat.le_of_ble_eq_true rfl)  (by decide) (by omega) ?_
        obtain ⟨n2, hn2, en2⟩ := inv_s hI (sc_tale g2 (by omega))
        refine k_36 hI (sc_tale g2 (by omega)) (by omega) en2 (by omega) (fun r3 hr3 => ?_)
        dsimp only [Option.toList, List.cons_append, List.nil_append]
        rcases hr3 with rfl
        · skip
          refine w_pure .iadd 24 (by decide +kernel) rfl rfl ?_
          refine w_topi (fun v4 ev4 => ?_)
          refine w_store (ls' := [.ref 0, .int v4, .int (nI g2)]) (.istore_n 1) 25 (by decide +kernel) rfl rfl ?_
          refine w_iincN (z := 2) (g2 + 1) 28 (by decide +kernel) rfl (Nat.le_of_ble_eq_true rfl) rfl rfl ?_
          show Wp _ _ _ [.ref 0, .int v4, .int (nI (g2 + 1))] _ _ _ _
          refine w_goto 4 (by decide +kernel) ?_
          exact ih_4 _ (g2 + 1) (by omega) (by omega)
  exact LP_4 _ _ 0 (by omega) (Nat.lt_succ_self _)
-- X7_count
set_option maxRecDepth 10000 in
theorem k_109 {d : Nat} {M : Mt} {L : Lt} {Q : Option Value → Mt → Lt → Prop} {a : Int32} (hI : Inv M)  (hd : 2 ≤ d) (hq : ∀ (r : Int32), True → Q (some (.int r)) M L) : Wp d 109 0 [.ref 0, .int a] [] M L Q := by
  refine w_load (.iload_n 1) 1 (by decide +kernel) rfl rfl ?_
  refine w_tab (show insAt 109 1 = some (.tableswitch 133 0 9 #[55, 63, 71, 79, 87, 95, 107, 112, 120, 128]) by decide +kernel) (fun h1 => ⟨134, rfl, ?_⟩) (fun z2 h1 h1b => ?_)
  · skip
    refine w_push (-2) 136 (by decide +kernel) ?_
    exact w_ret (by decide +kernel) (hq _ trivial)
  · rcases (by omega : z2 = 0 ∨ z2 = 1 ∨ z2 = 2 ∨ z2 = 3 ∨ z2 = 4 ∨ z2 = 5 ∨ z2 = 6 ∨ z2 = 7 ∨ z2 = 8 ∨ z2 = 9) with rfl | rfl | rfl | rfl | rfl | rfl | rfl | rfl | rfl | rfl
    · refine ⟨_, 56, rfl, rfl, ?_⟩
      refine w_load (.aload_n 0) 57 (by decide +kernel) rfl rfl ?_
      refine w_getR (k := 0) (r := 1) 60 (by decide +kernel) sh_0 rfl ?_
      refine w_callV0 36 2 1 63 (by decide +kernel) sh_1 (Nat.le_of_ble_eq_true rfl)  (by decide) (by omega) ?_
      obtain ⟨n3, hn3, en3⟩ := inv_s hI sc_1
      refine k_36 hI sc_1 (by omega) en3 (by omega) (fun r4 hr4 => ?_)
      dsimp only [Option.toList, List.cons_append, List.nil_append]
      rcases hr4 with rfl
      · skip
        exact w_ret (by decide +kernel) (hq _ trivial)
    · refine ⟨_, 64, rfl, rfl, ?_⟩
      refine w_load (.aload_n 0) 65 (by decide +kernel) rfl rfl ?_
      refine w_getR (k := 2) (r := 4) 68 (by decide +kernel) sh_0 rfl ?_
      refine w_callV0 10 1 1 71 (by decide +kernel) sh_4 (Nat.le_of_ble_eq_true rfl)  (by decide) (by omega) ?_
      obtain ⟨n5, hn5, en5⟩ := inv_h hI hs_4
      refine k_10 hI hs_4 (by omega) en5 (by omega) (fun r6 hr6 => ?_)
      dsimp only [Option.toList, List.cons_append, List.nil_append]
      exact w_ret (by decide +kernel) (hq _ trivial)
    · refine ⟨_, 72, rfl, rfl, ?_⟩
      refine w_load (.aload_n 0) 73 (by decide +kernel) rfl rfl ?_
      refine w_getR (k := 2) (r := 4) 76 (by decide +kernel) sh_0 rfl ?_
      refine w_callV0 21 1 1 79 (by decide +kernel) sh_4 (Nat.le_of_ble_eq_true rfl)  (by decide) (by omega) ?_
      refine k_21 hI hs_4 (by omega) (fun r7 hr7 => ?_)
      dsimp only [Option.toList, List.cons_append, List.nil_append]
      exact w_ret (by decide +kernel) (hq _ trivial)
    · refine ⟨_, 80, rfl, rfl, ?_⟩
      refine w_load (.aload_n 0) 81 (by decide +kernel) rfl rfl ?_
      refine w_getR (k := 2) (r := 4) 84 (by decide +kernel) sh_0 rfl ?_
      refine w_callV0 19 1 1 87 (by decide +kernel) sh_4 (Nat.le_of_ble_eq_true rfl)  (by decide) (by omega) ?_
      refine k_19 hI hs_4 (by omega) (fun r8 hr8 => ?_)
      dsimp only [Option.toList, List.cons_append, List.nil_append]
      exact w_ret (by decide +kernel) (hq _ trivial)
    · refine ⟨_, 88, rfl, rfl, ?_⟩
      refine w_load (.aload_n 0) 89 (by decide +kernel) rfl rfl ?_
      refine w_getR (k := 2) (r := 4) 92 (by decide +kernel) sh_0 rfl ?_
      refine w_callV0 22 1 3 95 (by decide +kernel) sh_4 (Nat.le_of_ble_eq_true rfl)  (by decide) (by omega) ?_
      refine k_22 hI hs_4 (by omega) (fun r9 hr9 => ?_)
      dsimp only [Option.toList, List.cons_append, List.nil_append]
      exact w_ret (by decide +kernel) (hq _ trivial)
    · refine ⟨_, 96, rfl, rfl, ?_⟩
      refine w_load (.aload_n 0) 97 (by decide +kernel) rfl rfl ?_
      refine w_getR (k := 2) (r := 4) 100 (by decide +kernel) sh_0 rfl ?_
      refine w_callV0 23 1 3 103 (by decide +kernel) sh_4 (Nat.le_of_ble_eq_true rfl)  (by decide) (by omega) ?_
      refine k_23 hI hs_4 (by omega) (fun r10 hr10 => ?_)
      dsimp only [Option.toList, List.cons_append, List.nil_append]
      refine w_pushN 1000 106 (by decide +kernel) ?_
      refine w_pure .iadd 107 (by decide +kernel) rfl rfl ?_
      exact w_ret (by decide +kernel) (hq _ trivial)
    · refine ⟨_, 108, rfl, rfl, ?_⟩
      refine w_load (.aload_n 0) 109 (by decide +kernel) rfl rfl ?_
      refine w_getN (B := 12) (k := 14) 112 (by decide +kernel) sh_0 rfl (inv_acts hI) (fun n11 hn11 en11 => ?_)
      exact w_ret (by decide +kernel) (hq _ trivial)
    · refine ⟨_, 113, rfl, rfl, ?_⟩
      refine w_load (.aload_n 0) 114 (by decide +kernel) rfl rfl ?_
      refine w_getR (k := 10) (r := 64) 117 (by decide +kernel) sh_0 rfl ?_
      refine w_getN (B := 6) (k := 2) 120 (by decide +kernel) sh_64 rfl (inv_sz hI) (fun n12 hn12 en12 => ?_)
      exact w_ret (by decide +kernel) (hq _ trivial)
    · refine ⟨_, 121, rfl, rfl, ?_⟩
      refine w_load (.aload_n 0) 122 (by decide +kernel) rfl rfl ?_
      refine w_getR (k := 2) (r := 4) 125 (by decide +kernel) sh_0 rfl ?_
      refine w_callV0 25 1 3 128 (by decide +kernel) sh_4 (Nat.le_of_ble_eq_true rfl)  (by decide) (by omega) ?_
      refine k_25 hI hs_4 (by omega) (fun r13 hr13 => ?_)
      dsimp only [Option.toList, List.cons_append, List.nil_append]
      exact w_ret (by decide +kernel) (hq _ trivial)
    · refine ⟨_, 129, rfl, rfl, ?_⟩
      refine w_load (.aload_n 0) 130 (by decide +kernel) rfl rfl ?_
      refine w_callV0 132 7 3 133 (by decide +kernel) sh_0 (Nat.le_of_ble_eq_true rfl)  (by decide) (by omega) ?_
      refine k_132 hI  (by omega) (fun r14 hr14 => ?_)
      dsimp only [Option.toList, List.cons_append, List.nil_append]
      exact w_ret (by decide +kernel) (hq _ trivial)
-- X7_seed
set_option maxRecDepth 10000 in
theorem k_105 {d : Nat} {M : Mt} {L : Lt} {Q : Option Value → Mt → Lt → Prop} {v : Int64} (hI : Inv M)  (hd : 0 ≤ d) (hq : ∀ (r : Int64) (N : Mt) (L' : Lt), St (fun _ _ => False) M N → (r = L 0 ∧ L' = upL L 0 v) → Q (some (.long r)) N L') : Wp d 105 0 [.ref 0, .long v, .null, .null, .null] [] M L Q := by
  refine (show ∀ N : Mt, N = M → St (fun _ _ => False) M N → Wp d 105 0 [.ref 0, .long v, .null, .null, .null] [] N L Q from ?_) M rfl (St.rf hI)
  intro N hNM hS
  refine w_load (.aload_n 0) 1 (by decide +kernel) rfl rfl ?_
  refine w_getL (k := 16) 4 (by decide +kernel) sh_0 rfl ?_
  refine w_topl (fun v1 ev1 => ?_)
  refine w_store (ls' := [.ref 0, .long v, .null, .long v1, .null]) (.lstore_n 3) 5 (by decide +kernel) rfl rfl ?_
  refine w_load (.aload_n 0) 6 (by decide +kernel) rfl rfl ?_
  refine w_load (.lload_n 1) 7 (by decide +kernel) rfl rfl ?_
  refine w_putLE (k := 16) 10 (by decide +kernel) sh_0 rfl only0 (fun Lq2 mq2 => ?_)
  refine w_load (.lload_n 3) 11 (by decide +kernel) rfl rfl ?_
  exact w_retL (by decide +kernel) (hq _ N Lq2 hS ⟨by assumption, by assumption⟩)
