-- X1_worthOf#s
set_option maxRecDepth 10000 in
theorem s_worthOf {d : Nat} {M : Mt} {L : Lt} {Q : Option Value → Mt → Lt → Prop} {h n k : Nat} {c : Row} (hI : Inv M) (hh : Hs h) (hn : n ≤ 5) (en : M h 2 = nI n) (hc : HE n (M (h + 1)) c) (hk : k < n) (hd : 2 ≤ d) (hq : ∀ (r : Int32), (r = wor c k) → Q (some (.int r)) M L) : Wp d 17 0 [.ref h, .int (nI k)] [] M L Q := by
  refine w_load (.aload_n 0) 1 (by decide +kernel) rfl rfl ?_
  refine w_load (.iload_n 1) 2 (by decide +kernel) rfl rfl ?_
  refine w_callV1 16 1 2 5 (by decide +kernel) hh.1.1 (Nat.le_of_ble_eq_true rfl) rfl (by decide) (by omega) ?_
  refine s_lives hI hh (by omega) en hc (by omega) (by omega) (fun r1 hr1 => ?_)
  dsimp only [Option.toList, List.cons_append, List.nil_append]
  rcases hr1 with ⟨rfl, htr1⟩ | ⟨rfl, htr1⟩
  · skip
    refine w_ieq 19 8 (by decide +kernel) (fun hz => absurd hz (by decide)) (fun _ => ?_)
    refine w_load (.aload_n 0) 9 (by decide +kernel) rfl rfl ?_
    refine w_load (.iload_n 1) 10 (by decide +kernel) rfl rfl ?_
    refine w_callV1 13 1 2 13 (by decide +kernel) hh.1.1 (Nat.le_of_ble_eq_true rfl) rfl (by decide) (by omega) ?_
    refine s_purseOf hI hh (by omega) en hc (by omega) (by omega) (fun r3 hr3 => ?_)
    dsimp only [Option.toList, List.cons_append, List.nil_append]
    rcases hr3 with rfl
    · skip
      refine w_pushN 20 15 (by decide +kernel) ?_
      refine w_pure .iadd 16 (by decide +kernel) rfl rfl ?_
      refine w_goto 20 (by decide +kernel) ?_
      exact w_ret (by decide +kernel) (hq _ (wor_t (by assumption)).symm)
  · skip
    refine w_ieq 19 8 (by decide +kernel) (fun _ => ?_) (fun hz => absurd hz (by decide))
    refine w_pushN 0 20 (by decide +kernel) ?_
    exact w_ret (by decide +kernel) (hq _ (wor_f (by assumption)).symm)
-- X7_meanAsSupposed#s
set_option maxRecDepth 10000 in
theorem s_meanAS {d : Nat} {M : Mt} {L : Lt} {Q : Option Value → Mt → Lt → Prop} {n k : Nat} {c pw od : Row} {T : TLs}  (hI : Inv M) (hn : n ≤ 5) (en : M 7 2 = nI n) (hc : HE n (M 8) c) (hp : LQ n (M 9) pw) (hw : wedOk n c) (hT : tlX T M) (ho : ∀ t, t < 3 → M 67 t = od t) (hk : k < n) (hd : 6 ≤ d) (hq : ∀ (r : Int32) (N : Mt), St (fun i _ => 10 ≤ i ∧ i ≤ 14) M N → (r = meanF n T pw od c k) → Q (some (.int r)) N L) : Wp d 126 0 [.ref 0, .int (nI k), .null, .null] [] M L Q := by
  refine (show ∀ N : Mt, N = M → St (fun i _ => 10 ≤ i ∧ i ≤ 14) M N → Wp d 126 0 [.ref 0, .int (nI k), .null, .null] [] N L Q from ?_) M rfl (St.rf hI)
  intro N hNM hS
  refine w_pushN 0 1 (by decide +kernel) ?_
  refine w_store (ls' := [.ref 0, .int (nI k), .int (nI 0), .null]) (.istore_n 2) 2 (by decide +kernel) rfl rfl ?_
  refine w_pushN 0 3 (by decide +kernel) ?_
  refine w_store (ls' := [.ref 0, .int (nI k), .int (nI 0), .int (nI 0)]) (.istore_n 3) 4 (by decide +kernel) rfl rfl ?_
  have LP_4 : ∀ (kk : Nat) (N_4 : Mt) (x2_4 : Int32) (g3 : Nat), St (fun i _ => 10 ≤ i ∧ i ≤ 14) M N_4 → g3 ≤ 3 → x2_4 = sumI g3 (fun t => od t * wor (TL n T pw t c).1 k) → 3 - g3 < kk → Wp d 126 4 [.ref 0, .int (nI k), .int x2_4, .int (nI g3)] [] N_4 L Q := by
    intro kk
    induction kk with
    | zero => intro N_4 x2_4 g3 hS hi0_4 hi1_4 hm_4; exact absurd hm_4 (Nat.not_lt_zero _)
    | succ kk ih_4 =>
      intro N_4 x2_4 g3 hS hi0_4 hi1_4 hm_4
      refine w_load (.iload_n 3) 5 (by decide +kernel) rfl rfl ?_
      refine w_pushN 3 6 (by decide +kernel) ?_
      refine w_cgeN 53 9 (by decide +kernel) (by omega) (by omega) (fun h1 => ?_) (fun h1 => ?_)
      · skip
        refine w_load (.iload_n 2) 54 (by decide +kernel) rfl rfl ?_
        exact w_ret (by decide +kernel) (hq _ N_4 hS (by have hgn : g3 = 3 := (by omega); rw [hgn] at hi1_4; exact hi1_4))
      · skip
        refine w_load (.aload_n 0) 10 (by decide +kernel) rfl rfl ?_
        refine w_getR (k := 4) (r := 10) 13 (by decide +kernel) sh_0 rfl ?_
        refine w_load (.aload_n 0) 14 (by decide +kernel) rfl rfl ?_
        refine w_getR (k := 3) (r := 7) 17 (by decide +kernel) sh_0 rfl ?_
        refine w_load (.aload_n 0) 18 (by decide +kernel) rfl rfl ?_
        refine w_getR (k := 1) (r := 3) 21 (by decide +kernel) sh_0 rfl ?_
        refine w_load (.iload_n 3) 22 (by decide +kernel) rfl rfl ?_
        refine w_tale 23 (by decide +kernel) (by omega) ?_
        refine w_callV2 68 6 5 26 (by decide +kernel) sh_10 (Nat.le_of_ble_eq_true rfl) rfl rfl (by decide) (by omega) ?_
        refine s_hearAllT hS.1 tl_10 hs_7 (by omega) (by omega) ((hS.2 7 2 (by (try dsimp only); first | omega | (simp only [Hs, Tl, Sc, isHs, isScr, isTs] at *; omega))).trans en) (by rw [hS.row (x := 8) (fun k => (by (try dsimp only); first | omega | (simp only [Hs, Tl, Sc, isHs, isScr, isTs] at *; omega)))]; exact hc) (by rw [hS.row (x := 9) (fun k => (by (try dsimp only); first | omega | (simp only [Hs, Tl, Sc, isHs, isScr, isTs] at *; omega)))]; exact hp) hw (hT.keep (fun i k h1 h2 => hS.2 i k (by (try dsimp only); first | omega | (simp only [Hs, Tl, Sc, isHs, isScr, isTs] at *; omega)))) (by omega) (fun Nr2 hTr2 hr2 => ?_)
        have hS := hS.tr hTr2 (by intro i k; first | exact rfl | exact fun h => h.elim | omega | (dsimp only; omega) | (simp only [Hs, Tl, Sc, isHs, isScr, isTs] at *; omega))
        obtain ⟨hSt, hGt, hPt⟩ := hr2
        dsimp only [Option.toList, List.nil_append]
        refine w_load (.iload_n 2) 27 (by decide +kernel) rfl rfl ?_
        refine w_load (.aload_n 0) 28 (by decide +kernel) rfl rfl ?_
        refine w_getR (k := 11) (r := 67) 31 (by decide +kernel) sh_0 rfl ?_
        refine w_load (.iload_n 3) 32 (by decide +kernel) rfl rfl ?_
        refine w_ialdN 33 (by decide +kernel) sh_67 (by omega) (by omega) ?_
        refine w_load (.aload_n 0) 34 (by decide +kernel) rfl rfl ?_
        refine w_getR (k := 4) (r := 10) 37 (by decide +kernel) sh_0 rfl ?_
        refine w_getR (k := 0) (r := 11) 40 (by decide +kernel) sh_10 rfl ?_
        refine w_load (.iload_n 1) 41 (by decide +kernel) rfl rfl ?_
        refine w_callV1 17 1 2 44 (by decide +kernel) sh_11 (Nat.le_of_ble_eq_true rfl) rfl (by decide) (by omega) ?_
        refine s_worthOf hS.1 hs_11 (by omega) hGt hSt.1 (by omega) (by omega) (fun r3 hr3 => ?_)
        dsimp only [Option.toList, List.cons_append, List.nil_append]
        rcases hr3 with rfl
        · skip
          refine w_pure .imul 45 (by decide +kernel) rfl rfl ?_
          refine w_pure .iadd 46 (by decide +kernel) rfl rfl ?_
          refine w_topi (fun v4 ev4 => ?_)
          refine w_store (ls' := [.ref 0, .int (nI k), .int v4, .int (nI g3)]) (.istore_n 2) 47 (by decide +kernel) rfl rfl ?_
          have esum := ev4
          refine w_iincN (z := 3) (g3 + 1) 50 (by decide +kernel) rfl (Nat.le_of_ble_eq_true rfl) rfl rfl ?_
          show Wp _ _ _ [.ref 0, .int (nI k), .int v4, .int (nI (g3 + 1))] _ _ _ _
          refine w_goto 4 (by decide +kernel) ?_
          exact ih_4 Nr2 _ (g3 + 1) hS (by first | omega | (rw [esum, hi1_4]; exact sum_mul rfl ((hS.2 67 g3 (by (try dsimp only); first | omega | (simp only [Hs, Tl, Sc, isHs, isScr, isTs] at *; omega))).trans (ho g3 (by omega))))) (by first | omega | (rw [esum, hi1_4]; exact sum_mul rfl ((hS.2 67 g3 (by (try dsimp only); first | omega | (simp only [Hs, Tl, Sc, isHs, isScr, isTs] at *; omega))).trans (ho g3 (by omega))))) (by omega)
  exact LP_4 _ N _ 0 hS (by first | omega | rfl) (by first | omega | rfl) (Nat.lt_succ_self _)
