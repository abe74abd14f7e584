-- X1_worthOf#s
set_option maxRecDepth 10000 in
theorem s_worthOf {d : Nat} {M : Mt} {L : Lt} {Q : Option Value → Mt → Lt → Prop} {h n k : Nat} {c : Row} (hI : Inv M) (hh : Hs h) (hn : n ≤ 5) (en : M h 2 = nI n) (hc : HE n (M (h + 1)) c) (hk : k < n) (hd : 2 ≤ d) (hq : ∀ (r : Int32), (r = wor c k) → Q (some (.int r)) M L) : Wp d 17 0 [.ref h, .int (nI k)] [] M L Q := by
  refine w_load (.aload_n 0) 1 (by decide +kernel) rfl rfl ?_
  refine w_load (.iload_n 1) 2 (by decide +kernel) rfl rfl ?_
  refine w_callV1 16 1 2 5 (by decide +kernel) hh.1.1 (Nat.le_of_ble_eq_true rfl) rfl (by decide) (by omega) ?_
  refine s_lives hI hh (by omega) en hc (by omega) (by omega) (fun r1 hr1 => ?_)
  dsimp only [Option.toList, List.cons_append, List.nil_append]
  rcases hr1 with ⟨rfl, htr1⟩ | ⟨rfl, htr1⟩
  · skip
    refine w_ieq 19 8 (by decide +kernel) (fun hz => absurd hz (by decide)) (fun _ => ?_)
    refine w_load (.aload_n 0) 9 (by decide +kernel) rfl rfl ?_
    refine w_load (.iload_n 1) 10 (by decide +kernel) rfl rfl ?_
    refine w_callV1 13 1 2 13 (by decide +kernel) hh.1.1 (Nat.le_of_ble_eq_true rfl) rfl (by decide) (by omega) ?_
    refine s_purseOf hI hh (by omega) en hc (by omega) (by omega) (fun r3 hr3 => ?_)
    dsimp only [Option.toList, List.cons_append, List.nil_append]
    rcases hr3 with rfl
    · skip
      refine w_pushN 20 15 (by decide +kernel) ?_
      refine w_pure .iadd 16 (by decide +kernel) rfl rfl ?_
      refine w_goto 20 (by decide +kernel) ?_
      exact w_ret (by decide +kernel) (hq _ (wor_t (by assumption)).symm)
  · skip
    refine w_ieq 19 8 (by decide +kernel) (fun _ => ?_) (fun hz => absurd hz (by decide))
    refine w_pushN 0 20 (by decide +kernel) ?_
    exact w_ret (by decide +kernel) (hq _ (wor_f (by assumption)).symm)
-- X7_meanAsSupposed#s
set_option maxRecDepth 10000 in
theorem s_meanAS {d : Nat} {M : Mt} {L : Lt} {Q : Option Value → Mt → Lt → Prop} {n k : Nat} {c pw od : Row} {T : TLs}  (hI : Inv M) (hn : n ≤ 5) (en : M 7 2 = nI n) (hc : HE n (M 8) c) (hp : LQ n (M 9) pw) (hw : wedOk n c) (hT : tlX T M) (ho : ∀ t, t < 3 → M 67 t = od t) (hk : k < n) (hd : 6 ≤ d) (hq : ∀ (r : Int32) (N : Mt), St (fun i _ => 10 ≤ i ∧ i ≤ 14) M N → (r = meanF n T pw od c k) → Q (some (.int r)) N L) : Wp d 126 0 [.ref 0, .int (nI k), .null, .null] [] M L Q := by
  refine (show ∀ N : Mt, N = M → St (fun i _ => 10 ≤ i ∧ i ≤ 14) M N → Wp d 126 0 [.ref 0, .int (nI k), .null, .null] [] N L Q from ?_) M rfl (St.rf hI)
  intro N hNM hS
  refine w_pushN 0 1 (by decide +kernel) ?_
  refine w_store (ls' := [.ref 0, .int (nI k), .int (nI 0), .null]) (.istore_n 2) 2 (by decide +kernel) rfl rfl ?_
  refine w_pushN 0 3 (by decide +kernel) ?_
  refine w_store (ls' := [.ref 0, .int (nI k), .int (nI 0), .int (nI 0)]) (.istore_n 3) 4 (by decide +kernel) rfl rfl ?_
  have LP_4 : ∀ (kk : Nat) (N_4 : Mt) (x2_4 : Int32) (g3 : Nat), St (fun i _ => 10 ≤ i ∧ i ≤ 14) M N_4 → g3 ≤ 3 → x2_4 = sumI g3 (fun t => od t * wor (TL n T pw t c).1 k) → 3 - g3 < kk → Wp d 126 4 [.ref 0, .int (nI k), .int x2_4, .int (nI g3)] [] N_4 L Q := by
    intro kk
    induction kk with
    | zero => intro N_4 x2_4 g3 hS hi0_4 hi1_4 hm_4; exact absurd hm_4 (Nat.not_lt_zero _)
    | succ kk ih_4 =>
      intro N_4 x2_4 g3 hS hi0_4 hi1_4 hm_4
      refine w_load (.iload_n 3) 5 (by decide +kernel) rfl rfl ?_
      refine w_pushN 3 6 (by decide +kernel) ?_
      refine w_cgeN 53 9 (by decide +kernel) (by omega) (by omega) (fun h1 => ?_) (fun h1 => ?_)
      · skip
        refine w_load (.iload_n 2) 54 (by decide +kernel) rfl rfl ?_
        exact w_ret (by decide +kernel) (hq _ N_4 hS (by have hgn : g3 = 3 := (by omega); rw [hgn] at hi1_4; exact hi1_4))
      · skip
        refine w_load (.aload_n 0) 10 (by decide +kernel) rfl rfl ?_
        refine w_getR (k := 4) (r := 10) 13 (by decide +kernel) sh_0 rfl ?_
        refine w_load (.aload_n 0) 14 (by decide +kernel) rfl rfl ?_
        refine w_getR (k := 3) (r := 7) 17 (by decide +kernel) sh_0 rfl ?_
        refine w_load (.aload_n 0) 18 (by decide +kernel) rfl rfl ?_
        refine w_getR (k := 1) (r := 3) 21 (by decide +kernel) sh_0 rfl ?_
        refine w_load (.iload_n 3) 22 (by decide +kernel) rfl rfl ?_
        refine w_tale 23 (by decide +kernel) (by omega) ?_
        refine w_callV2 68 6 5 26 (by decide +kernel) sh_10 (Nat.le_of_ble_eq_true rfl) rfl rfl (by decide) (by omega) ?_
        refine s_hearAllT hS.1 tl_10 hs_7 (by omega) (by omega) ((hS.2 7 2 (by (try dsimp only); first | omega | (simp only [Hs, Tl, Sc, isHs, isScr, isTs] at *; omega))).trans en) (by rw [hS.row (x := 8) (fun k => (by (try dsimp only); first | omega | (simp only [Hs, Tl, Sc, isHs, isScr, isTs] at *; omega)))]; exact hc) (by rw [hS.row (x := 9) (fun k => (by (try dsimp only); first | omega | (simp only [Hs, Tl, Sc, isHs, isScr, isTs] at *; omega)))]; exact hp) hw (hT.keep (fun i k h1 h2 => hS.2 i k (by (try dsimp only); first | omega | (simp only [Hs, Tl, Sc, isHs, isScr, isTs] at *; omega)))) (by omega) (fun Nr2 hTr2 hr2 => ?_)
        have hS := hS.tr hTr2 (by intro i k; first | exact rfl | exact fun h => h.elim | omega | (dsimp only; omega) | (simp only [Hs, Tl, Sc, isHs, isScr, isTs] at *; omega))
        obtain ⟨hSt, hGt, hPt⟩ := hr2
        dsimp only [Option.toList, List.nil_append]
        refine w_load (.iload_n 2) 27 (by decide +kernel) rfl rfl ?_
        refine w_load (.aload_n 0) 28 (by decide +kernel) rfl rfl ?_
        refine w_getR (k := 11) (r := 67) 31 (by decide +kernel) sh_0 rfl ?_
        refine w_load (.iload_n 3) 32 (by decide +kernel) rfl rfl ?_
        refine w_ialdN 33 (by decide +kernel) sh_67 (by omega) (by omega) ?_
        refine w_load (.aload_n 0) 34 (by decide +kernel) rfl rfl ?_
        refine w_getR (k := 4) (r := 10) 37 (by decide +kernel) sh_0 rfl ?_
        refine w_getR (k := 0) (r := 11) 40 (by decide +kernel) sh_10 rfl ?_
        refine w_load (.iload_n 1) 41 (by decide +kernel) rfl rfl ?_
        refine w_callV1 17 1 2 44 (by decide +kernel) sh_11 (Nat.le_of_ble_eq_true rfl) rfl (by decide) (by omega) ?_
        refine s_worthOf hS.1 hs_11 (by omega) hGt hSt.1 (by omega) (by omega) (fun r3 hr3 => ?_)
        dsimp only [Option.toList, List.cons_append, List.nil_append]
        rcases hr3 with rfl
        · skip
          refine w_pure .imul 45 (by decide +kernel) rfl rfl ?_
          refine w_pure .iadd 46 (by decide +kernel) rfl rfl ?_
          refine w_topi (fun v4 ev4 => ?_)
          refine w_store (ls' := [.ref 0, .int (nI k), .int v4, .int (nI g3)]) (.istore_n 2) 47 (by decide +kernel) rfl rfl ?_
          have esum := ev4
          refine w_iincN (z := 3) (g3 + 1) 50 (by decide +kernel) rfl (Nat.le_of_ble_eq_true rfl) rfl rfl ?_
          show Wp _ _ _ [.ref 0, .int (nI k), .int v4, .int (nI (g3 + 1))] _ _ _ _
          refine w_goto 4 (by decide +kernel) ?_
          exact ih_4 Nr2 _ (g3 + 1) hS (by first | omega | (rw [esum, hi1_4]; exact sum_mul rfl ((hS.2 67 g3 (by (try dsimp only); first | omega | (simp only [Hs, Tl, Sc, isHs, isScr, isTs] at *; omega))).trans (ho g3 (by omega))))) (by first | omega | (rw [esum, hi1_4]; exact sum_mul rfl ((hS.2 67 g3 (by (try dsimp only); first | omega | (simp only [Hs, Tl, Sc, isHs, isScr, isTs] at *; omega))).trans (ho g3 (by omega))))) (by omega)
  exact LP_4 _ N _ 0 hS (by first | omega | rfl) (by first | omega | rfl) (Nat.lt_succ_self _)
-- X7_toGive#s
set_option maxRecDepth 10000 in
theorem s_toGive {d : Nat} {M : Mt} {L : Lt} {Q : Option Value → Mt → Lt → Prop} {n : Nat} {c pw : Row} {T : TLs} {od : Row} {g : Int32} (hI : Inv M) (hn : n ≤ 5) (en : M 4 2 = nI n) (hc : HE n (M 5) c) (hp : LQ n (M 6) pw) (hw : wedOk n c) (hT : tlX T M) (ho : ∀ t, t < 3 → M 67 t = od t) (hd : 7 ≤ d) (hq : ∀ (r : Int32) (N : Mt), St (fun i _ => (7 ≤ i ∧ i ≤ 57) ∨ i = 63 ∨ i = 68 ∨ i = 69) M N → ((r = -1 ∧ ¬ (∃ k, k < n ∧ g = nI k)) ∨ (∃ k, k < n ∧ g = nI k ∧ ((r = -3 ∧ tb (c 15) k = false) ∨ (tb (c 15) k = true ∧ ∃ y, tgQ (fun b => meanF n T pw od (up1 c k (nI b)) k) 4 r y)))) → Q (some (.int r)) N L) : Wp d 98 0 [.ref 0, .int g, .null, .null, .null, .null] [] M L Q := by
  refine (show ∀ N : Mt, N = M → St (fun i _ => (7 ≤ i ∧ i ≤ 57) ∨ i = 63 ∨ i = 68 ∨ i = 69) M N → Wp d 98 0 [.ref 0, .int g, .null, .null, .null, .null] [] N L Q from ?_) M rfl (St.rf hI)
  intro N hNM hS
  have kz0 : N (4) 2 = nI n := by rw [hNM]; exact en
  refine w_load (.aload_n 0) 1 (by decide +kernel) rfl rfl ?_
  refine w_getR (k := 2) (r := 4) 4 (by decide +kernel) sh_0 rfl ?_
  refine w_load (.iload_n 1) 5 (by decide +kernel) rfl rfl ?_
  refine w_callV1 11 1 2 8 (by decide +kernel) sh_4 (Nat.le_of_ble_eq_true rfl) rfl (by decide) (by omega) ?_
  refine k_11 hS.1 hs_4 (by omega) kz0 (by omega) (fun r1 hr1 => ?_)
  dsimp only [Option.toList, List.cons_append, List.nil_append]
  rcases hr1 with ⟨rfl, k2, hk2, rfl⟩ | ⟨rfl, hnok2⟩
  · skip
    refine w_ine 13 11 (by decide +kernel) (fun _ => ?_) (fun hz => absurd hz (by decide))
    refine w_load (.aload_n 0) 14 (by decide +kernel) rfl rfl ?_
    refine w_getR (k := 2) (r := 4) 17 (by decide +kernel) sh_0 rfl ?_
    refine w_load (.iload_n 1) 18 (by decide +kernel) rfl rfl ?_
    refine w_callV1 16 1 2 21 (by decide +kernel) sh_4 (Nat.le_of_ble_eq_true rfl) rfl (by decide) (by omega) ?_
    refine s_lives hS.1 hs_4 (by omega) kz0 (by rw [hNM]; exact hc) (by omega) (by omega) (fun r4 hr4 => ?_)
    dsimp only [Option.toList, List.cons_append, List.nil_append]
    rcases hr4 with ⟨rfl, htr4⟩ | ⟨rfl, htr4⟩
    · skip
      refine w_ine 27 24 (by decide +kernel) (fun _ => ?_) (fun hz => absurd hz (by decide))
      refine w_load (.aload_n 0) 28 (by decide +kernel) rfl rfl ?_
      refine w_getR (k := 3) (r := 7) 31 (by decide +kernel) sh_0 rfl ?_
      refine w_load (.aload_n 0) 32 (by decide +kernel) rfl rfl ?_
      refine w_getR (k := 2) (r := 4) 35 (by decide +kernel) sh_0 rfl ?_
      refine w_callV1 8 1 2 38 (by decide +kernel) sh_7 (Nat.le_of_ble_eq_true rfl) rfl (by decide) (by omega) ?_
      refine k_8 hS.1 hs_7 hs_4 (by omega) (fun Nr6 hTr6 hr6 => ?_)
      have hS := hS.tr hTr6 (by intro i k; first | exact rfl | exact fun h => h.elim | omega | (dsimp only; omega) | (simp only [Hs, Tl, Sc, isHs, isScr, isTs] at *; omega))
      have c7 : HE n (Nr6 8) c := by rw [hr6]; exact (HE.of17 hn (fun k hk => cpH_c (o := 4) hk)).tr (by rw [hNM]; exact hc)
      have g7 : Nr6 7 2 = nI n := by rw [hr6, cpH_g]; exact (by rw [hNM]; exact en)
      have p7 : LQ n (Nr6 9) pw := by rw [hr6]; exact fun g hg => (cpH_p (by omega) (by decide)).trans ((show LQ n (N 6) pw from (by rw [hNM]; exact hp)) g hg)
      have h77 : HN n k2 (Nr6 8) c := HN.he c7
      dsimp only [Option.toList, List.nil_append]
      refine w_push (-9) 40 (by decide +kernel) ?_
      refine w_store (ls' := [.ref 0, .int (nI k2), .int (-9), .null, .null, .null]) (.istore_n 2) 41 (by decide +kernel) rfl rfl ?_
      refine w_pushN 0 42 (by decide +kernel) ?_
      refine w_store (ls' := [.ref 0, .int (nI k2), .int (-9), .int (nI 0), .null, .null]) (.istore_n 3) 43 (by decide +kernel) rfl rfl ?_
      refine w_pushN 0 44 (by decide +kernel) ?_
      refine w_store (ls' := [.ref 0, .int (nI k2), .int (-9), .int (nI 0), .int (nI 0), .null]) (.istore 4) 46 (by decide +kernel) rfl rfl ?_
      have LP_46 : ∀ (kk : Nat) (N_46 : Mt) (x2_46 : Int32) (x3_46 : Int32) (g4 : Nat), St (fun i _ => (7 ≤ i ∧ i ≤ 57) ∨ i = 63 ∨ i = 68 ∨ i = 69) M N_46 → g4 ≤ 4 → HN n k2 (N_46 8) c → tgQ (fun b => meanF n T pw od (up1 c k2 (nI b)) k2) g4 x2_46 x3_46 → N_46 7 2 = nI n → LQ n (N_46 9) pw → 4 - g4 < kk → Wp d 98 46 [.ref 0, .int (nI k2), .int x2_46, .int x3_46, .int (nI g4), .null] [] N_46 L Q := by
        intro kk
        induction kk with
        | zero => intro N_46 x2_46 x3_46 g4 hS hi0_46 hi1_46 hi2_46 hi3_46 hi4_46 hm_46; exact absurd hm_46 (Nat.not_lt_zero _)
        | succ kk ih_46 =>
          intro N_46 x2_46 x3_46 g4 hS hi0_46 hi1_46 hi2_46 hi3_46 hi4_46 hm_46
          refine w_load (.iload 4) 48 (by decide +kernel) rfl rfl ?_
          refine w_pushN 4 49 (by decide +kernel) ?_
          refine w_cgeN 93 52 (by decide +kernel) (by omega) (by omega) (fun h7 => ?_) (fun h7 => ?_)
          · skip
            refine w_load (.iload_n 2) 94 (by decide +kernel) rfl rfl ?_
            exact w_ret (by decide +kernel) (hq _ N_46 hS (Or.inr ⟨_, by assumption, rfl, Or.inr ⟨by assumption, by have hgn : g4 = 4 := (by omega); rw [hgn] at hi2_46; exact ⟨_, hi2_46⟩⟩⟩))
          · skip
            refine w_load (.aload_n 0) 53 (by decide +kernel) rfl rfl ?_
            refine w_getR (k := 3) (r := 7) 56 (by decide +kernel) sh_0 rfl ?_
            refine w_load (.iload_n 1) 57 (by decide +kernel) rfl rfl ?_
            refine w_load (.iload 4) 59 (by decide +kernel) rfl rfl ?_
            refine w_callV2 26 1 3 62 (by decide +kernel) sh_7 (Nat.le_of_ble_eq_true rfl) rfl rfl (by decide) (by omega) ?_
            refine s_rename hS.1 hs_7 (by omega) hi3_46 HE.rf (by omega) (by omega) (fun Nr8 hTr8 hr8 => ?_)
            have kn9 := (hTr8.2 (7) 2 (by (try dsimp only); first | omega | (simp only [Hs, Tl, Sc, isHs, isScr, isTs] at *; omega))).trans hi3_46
            have hS := hS.tr hTr8 (by intro i k; first | exact rfl | exact fun h => h.elim | omega | (dsimp only; omega) | (simp only [Hs, Tl, Sc, isHs, isScr, isTs] at *; omega))
            have c7 : HE n (Nr8 8) (up1 c k2 (nI g4)) := hr8.tr hi1_46.set
            have p7 : LQ n (Nr8 9) pw := by rw [hTr8.row (fun k => (by (try dsimp only); first | omega | (simp only [Hs, Tl, Sc, isHs, isScr, isTs] at *; omega)))]; exact hi4_46
            dsimp only [Option.toList, List.nil_append]
            refine w_load (.aload_n 0) 63 (by decide +kernel) rfl rfl ?_
            refine w_load (.iload_n 1) 64 (by decide +kernel) rfl rfl ?_
            refine w_callV1 126 7 4 67 (by decide +kernel) sh_0 (Nat.le_of_ble_eq_true rfl) rfl (by decide) (by omega) ?_
            refine s_meanAS hS.1 (by omega) kn9 c7 p7 (hw.up (Or.inr (Or.inr (Or.inl (by omega)))) hn) (hT.keep (fun i k h1 h2 => hS.2 i k (by (try dsimp only); first | omega | (simp only [Hs, Tl, Sc, isHs, isScr, isTs] at *; omega)))) (fun t ht => (hS.2 67 t (by (try dsimp only); first | omega | (simp only [Hs, Tl, Sc, isHs, isScr, isTs] at *; omega))).trans (ho t ht)) (by omega) (by omega) (fun r10 Nr10 hTr10 hr10 => ?_)
            have kn11 := (hTr10.2 (7) 2 (by (try dsimp only); first | omega | (simp only [Hs, Tl, Sc, isHs, isScr, isTs] at *; omega))).trans kn9
            have hS := hS.tr hTr10 (by intro i k; first | exact rfl | exact fun h => h.elim | omega | (dsimp only; omega) | (simp only [Hs, Tl, Sc, isHs, isScr, isTs] at *; omega))
            have hmean := hr10
            have n7 : HN n k2 (Nr10 8) c := HN.of (by rw [hTr10.row (fun k => (by (try dsimp only); first | omega | (simp only [Hs, Tl, Sc, isHs, isScr, isTs] at *; omega)))]; exact c7)
            have q7 : LQ n (Nr10 9) pw := by rw [hTr10.row (fun k => (by (try dsimp only); first | omega | (simp only [Hs, Tl, Sc, isHs, isScr, isTs] at *; omega)))]; exact p7
            dsimp only [Option.toList, List.cons_append, List.nil_append]
            refine w_store (ls' := [.ref 0, .int (nI k2), .int x2_46, .int x3_46, .int (nI g4), .int r10]) (.istore 5) 69 (by decide +kernel) rfl rfl ?_
            refine w_load (.iload_n 2) 70 (by decide +kernel) rfl rfl ?_
            refine w_push (-9) 72 (by decide +kernel) ?_
            refine w_ceq 81 75 (by decide +kernel) (fun h12 => ?_) (fun h12 => ?_)
            · skip
              refine w_load (.iload 4) 83 (by decide +kernel) rfl rfl ?_
              refine w_store (ls' := [.ref 0, .int (nI k2), .int (nI g4), .int x3_46, .int (nI g4), .int r10]) (.istore_n 2) 84 (by decide +kernel) rfl rfl ?_
              refine w_load (.iload 5) 86 (by decide +kernel) rfl rfl ?_
              refine w_store (ls' := [.ref 0, .int (nI k2), .int (nI g4), .int r10, .int (nI g4), .int r10]) (.istore_n 3) 87 (by decide +kernel) rfl rfl ?_
              refine w_iincN (z := 4) (g4 + 1) 90 (by decide +kernel) rfl (Nat.le_of_ble_eq_true rfl) rfl rfl ?_
              show Wp _ _ _ [.ref 0, .int (nI k2), .int (nI g4), .int r10, .int (nI (g4 + 1)), .int r10] _ _ _ _
              refine w_goto 46 (by decide +kernel) ?_
              refine Wp.forget (ls := [.ref 0, .int (nI k2), .int (nI g4), .int r10, .int (nI (g4 + 1)), .null]) ⟨Or.inl rfl, Or.inl rfl, Or.inl rfl, Or.inl rfl, Or.inl rfl, Or.inr ⟨rfl, rfl⟩, trivial⟩ ?_
              exact ih_46 Nr10 _ _ (g4 + 1) hS (by first | omega | assumption | exact tg_new hi2_46 (by omega) hmean (Or.inl (by assumption)) | exact tg_new hi2_46 (by omega) hmean (Or.inr (Int32.not_le.mp (by assumption))) | exact tg_old hi2_46 hmean (by assumption) (by assumption)) (by first | omega | assumption | exact tg_new hi2_46 (by omega) hmean (Or.inl (by assumption)) | exact tg_new hi2_46 (by omega) hmean (Or.inr (Int32.not_le.mp (by assumption))) | exact tg_old hi2_46 hmean (by assumption) (by assumption)) (by first | omega | assumption | exact tg_new hi2_46 (by omega) hmean (Or.inl (by assumption)) | exact tg_new hi2_46 (by omega) hmean (Or.inr (Int32.not_le.mp (by assumption))) | exact tg_old hi2_46 hmean (by assumption) (by assumption)) (by first | omega | assumption | exact tg_new hi2_46 (by omega) hmean (Or.inl (by assumption)) | exact tg_new hi2_46 (by omega) hmean (Or.inr (Int32.not_le.mp (by assumption))) | exact tg_old hi2_46 hmean (by assumption) (by assumption)) (by first | omega | assumption | exact tg_new hi2_46 (by omega) hmean (Or.inl (by assumption)) | exact tg_new hi2_46 (by omega) hmean (Or.inr (Int32.not_le.mp (by assumption))) | exact tg_old hi2_46 hmean (by assumption) (by assumption)) (by omega)
            · skip
              refine w_load (.iload 5) 77 (by decide +kernel) rfl rfl ?_
              refine w_load (.iload_n 3) 78 (by decide +kernel) rfl rfl ?_
              refine w_cle 87 81 (by decide +kernel) (fun h13 => ?_) (fun h13 => ?_)
              · skip
                refine w_iincN (z := 4) (g4 + 1) 90 (by decide +kernel) rfl (Nat.le_of_ble_eq_true rfl) rfl rfl ?_
                show Wp _ _ _ [.ref 0, .int (nI k2), .int x2_46, .int x3_46, .int (nI (g4 + 1)), .int r10] _ _ _ _
                refine w_goto 46 (by decide +kernel) ?_
                refine Wp.forget (ls := [.ref 0, .int (nI k2), .int x2_46, .int x3_46, .int (nI (g4 + 1)), .null]) ⟨Or.inl rfl, Or.inl rfl, Or.inl rfl, Or.inl rfl, Or.inl rfl, Or.inr ⟨rfl, rfl⟩, trivial⟩ ?_
                exact ih_46 Nr10 _ _ (g4 + 1) hS (by first | omega | assumption | exact tg_new hi2_46 (by omega) hmean (Or.inl (by assumption)) | exact tg_new hi2_46 (by omega) hmean (Or.inr (Int32.not_le.mp (by assumption))) | exact tg_old hi2_46 hmean (by assumption) (by assumption)) (by first | omega | assumption | exact tg_new hi2_46 (by omega) hmean (Or.inl (by assumption)) | exact tg_new hi2_46 (by omega) hmean (Or.inr (Int32.not_le.mp (by assumption))) | exact tg_old hi2_46 hmean (by assumption) (by assumption)) (by first | omega | assumption | exact tg_new hi2_46 (by omega) hmean (Or.inl (by assumption)) | exact tg_new hi2_46 (by omega) hmean (Or.inr (Int32.not_le.mp (by assumption))) | exact tg_old hi2_46 hmean (by assumption) (by assumption)) (by first | omega | assumption | exact tg_new hi2_46 (by omega) hmean (Or.inl (by assumption)) | exact tg_new hi2_46 (by omega) hmean (Or.inr (Int32.not_le.mp (by assumption))) | exact tg_old hi2_46 hmean (by assumption) (by assumption)) (by first | omega | assumption | exact tg_new hi2_46 (by omega) hmean (Or.inl (by assumption)) | exact tg_new hi2_46 (by omega) hmean (Or.inr (Int32.not_le.mp (by assumption))) | exact tg_old hi2_46 hmean (by assumption) (by assumption)) (by omega)
              · skip
                refine w_load (.iload 4) 83 (by decide +kernel) rfl rfl ?_
                refine w_store (ls' := [.ref 0, .int (nI k2), .int (nI g4), .int x3_46, .int (nI g4), .int r10]) (.istore_n 2) 84 (by decide +kernel) rfl rfl ?_
                refine w_load (.iload 5) 86 (by decide +kernel) rfl rfl ?_
                refine w_store (ls' := [.ref 0, .int (nI k2), .int (nI g4), .int r10, .int (nI g4), .int r10]) (.istore_n 3) 87 (by decide +kernel) rfl rfl ?_
                refine w_iincN (z := 4) (g4 + 1) 90 (by decide +kernel) rfl (Nat.le_of_ble_eq_true rfl) rfl rfl ?_
                show Wp _ _ _ [.ref 0, .int (nI k2), .int (nI g4), .int r10, .int (nI (g4 + 1)), .int r10] _ _ _ _
                refine w_goto 46 (by decide +kernel) ?_
                refine Wp.forget (ls := [.ref 0, .int (nI k2), .int (nI g4), .int r10, .int (nI (g4 + 1)), .null]) ⟨Or.inl rfl, Or.inl rfl, Or.inl rfl, Or.inl rfl, Or.inl rfl, Or.inr ⟨rfl, rfl⟩, trivial⟩ ?_
                exact ih_46 Nr10 _ _ (g4 + 1) hS (by first | omega | assumption | exact tg_new hi2_46 (by omega) hmean (Or.inl (by assumption)) | exact tg_new hi2_46 (by omega) hmean (Or.inr (Int32.not_le.mp (by assumption))) | exact tg_old hi2_46 hmean (by assumption) (by assumption)) (by first | omega | assumption | exact tg_new hi2_46 (by omega) hmean (Or.inl (by assumption)) | exact tg_new hi2_46 (by omega) hmean (Or.inr (Int32.not_le.mp (by assumption))) | exact tg_old hi2_46 hmean (by assumption) (by assumption)) (by first | omega | assumption | exact tg_new hi2_46 (by omega) hmean (Or.inl (by assumption)) | exact tg_new hi2_46 (by omega) hmean (Or.inr (Int32.not_le.mp (by assumption))) | exact tg_old hi2_46 hmean (by assumption) (by assumption)) (by first | omega | assumption | exact tg_new hi2_46 (by omega) hmean (Or.inl (by assumption)) | exact tg_new hi2_46 (by omega) hmean (Or.inr (Int32.not_le.mp (by assumption))) | exact tg_old hi2_46 hmean (by assumption) (by assumption)) (by first | omega | assumption | exact tg_new hi2_46 (by omega) hmean (Or.inl (by assumption)) | exact tg_new hi2_46 (by omega) hmean (Or.inr (Int32.not_le.mp (by assumption))) | exact tg_old hi2_46 hmean (by assumption) (by assumption)) (by omega)
      exact LP_46 _ Nr6 _ _ 0 hS (by first | omega | assumption | exact Or.inl ⟨rfl, rfl⟩) (by first | omega | assumption | exact Or.inl ⟨rfl, rfl⟩) (by first | omega | assumption | exact Or.inl ⟨rfl, rfl⟩) (by first | omega | assumption | exact Or.inl ⟨rfl, rfl⟩) (by first | omega | assumption | exact Or.inl ⟨rfl, rfl⟩) (Nat.lt_succ_self _)
    · skip
      refine w_ine 27 24 (by decide +kernel) (fun hz => absurd hz (by decide)) (fun _ => ?_)
      refine w_push (-3) 26 (by decide +kernel) ?_
      exact w_ret (by decide +kernel) (hq _ N hS (Or.inr ⟨_, by assumption, rfl, Or.inl ⟨rfl, by assumption⟩⟩))
  · skip
    refine w_ine 13 11 (by decide +kernel) (fun hz => absurd hz (by decide)) (fun _ => ?_)
    refine w_push (-1) 12 (by decide +kernel) ?_
    exact w_ret (by decide +kernel) (hq _ N hS (Or.inl ⟨rfl, by assumption⟩))
