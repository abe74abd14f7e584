-- X8_meanOf#s
set_option maxRecDepth 10000 in
theorem s_meanOf {d : Nat} {M : Mt} {L : Lt} {Q : Option Value → Mt → Lt → Prop} {n k : Nat} {c pw od : Row} {T : TLs}  (hI : Inv M) (hn : n ≤ 5) (en : M 76 0 = nI n) (hc : HE n (lvC M 2) c) (hp : LQ n (M 77) pw) (hw : wedOk n c) (hT : tlM T M) (ho : ∀ t, t < 3 → M 85 t = od t) (hk : k < n) (hd : 4 ≤ d) (hq : ∀ (r : Int32) (N : Mt), St (fun i k => (i = 78 ∧ 22 * 1 ≤ k ∧ k < 22 * 1 + 22) ∨ (i = 76 ∧ k = 7)) M N → (r = meanF n T pw od c k) → Q (some (.int r)) N L) : Wp d 181 0 [.ref 76, .int (nI k), .null, .null] [] M L Q := by
  refine (show ∀ N : Mt, N = M → St (fun i k => (i = 78 ∧ 22 * 1 ≤ k ∧ k < 22 * 1 + 22) ∨ (i = 76 ∧ k = 7)) M N → Wp d 181 0 [.ref 76, .int (nI k), .null, .null] [] N L Q from ?_) M rfl (St.rf hI)
  intro N hNM hS
  have kz0 : N (76) 0 = nI n := by rw [hNM]; exact en
  refine w_pushN 0 1 (by decide +kernel) ?_
  refine w_store (ls' := [.ref 76, .int (nI k), .int (nI 0), .null]) (.istore_n 2) 2 (by decide +kernel) rfl rfl ?_
  refine w_pushN 0 3 (by decide +kernel) ?_
  refine w_store (ls' := [.ref 76, .int (nI k), .int (nI 0), .int (nI 0)]) (.istore_n 3) 4 (by decide +kernel) rfl rfl ?_
  have LP_4 : ∀ (kk : Nat) (N_4 : Mt) (x2_4 : Int32) (g3 : Nat), St (fun i k => (i = 78 ∧ 22 * 1 ≤ k ∧ k < 22 * 1 + 22) ∨ (i = 76 ∧ k = 7)) M N_4 → g3 ≤ 3 → x2_4 = sumI g3 (fun t => od t * wor (TL n T pw t c).1 k) → 3 - g3 < kk → Wp d 181 4 [.ref 76, .int (nI k), .int x2_4, .int (nI g3)] [] N_4 L Q := by
    intro kk
    induction kk with
    | zero => intro N_4 x2_4 g3 hS hi0_4 hi1_4 hm_4; exact absurd hm_4 (Nat.not_lt_zero _)
    | succ kk ih_4 =>
      intro N_4 x2_4 g3 hS hi0_4 hi1_4 hm_4
      have hS0 := hS
      refine w_load (.iload_n 3) 5 (by decide +kernel) rfl rfl ?_
      refine w_pushN 3 6 (by decide +kernel) ?_
      refine w_cgeN 69 9 (by decide +kernel) (by omega) (by omega) (fun h1 => ?_) (fun h1 => ?_)
      · skip
        refine w_load (.iload_n 2) 70 (by decide +kernel) rfl rfl ?_
        exact w_ret (by decide +kernel) (hq _ N_4 hS (by have hgn : g3 = 3 := (by omega); rw [hgn] at hi1_4; exact hi1_4))
      · skip
        refine w_load (.aload_n 0) 10 (by decide +kernel) rfl rfl ?_
        refine w_pushN 2 11 (by decide +kernel) ?_
        refine w_pushN 1 12 (by decide +kernel) ?_
        refine w_callV2 160 8 4 15 (by decide +kernel) sh_76 (Nat.le_of_ble_eq_true rfl) rfl rfl (by decide) (by omega) ?_
        refine s_lay hS.1 (by omega) (by omega) (by omega) (by omega) (fun Nr2 hTr2 hr2 => ?_)
        have kn3 := (hTr2.2 (76) 0 (by (try dsimp only); first | omega | (simp only [Hs, Tl, Sc, isHs, isScr, isTs] at *; omega))).trans ((hS.2 76 0 (by (try dsimp only); first | omega | (simp only [Hs, Tl, Sc, isHs, isScr, isTs] at *; omega))).trans en)
        have hS := hS.tr hTr2 (by intro i k; first | exact rfl | exact fun h => h.elim | omega | (dsimp only; omega) | (simp only [Hs, Tl, Sc, isHs, isScr, isTs] at *; omega))
        have hl1 : HE n (lvC Nr2 1) c := lay_HE hn hr2 (lv_same hn hc (fun k h1 h2 => hS0.2 78 k (by (try dsimp only); first | omega | (simp only [Hs, Tl, Sc, isHs, isScr, isTs] at *; omega))))
        dsimp only [Option.toList, List.nil_append]
        refine w_load (.aload_n 0) 16 (by decide +kernel) rfl rfl ?_
        refine w_pushN 1 17 (by decide +kernel) ?_
        refine w_load (.iload_n 3) 18 (by decide +kernel) rfl rfl ?_
        refine w_pushN 0 19 (by decide +kernel) ?_
        refine w_callV3 159 8 7 22 (by decide +kernel) sh_76 (Nat.le_of_ble_eq_true rfl) rfl rfl rfl (by decide) (by omega) ?_
        refine s_tellOnT hS.1 (by omega) (by omega) kn3 (by omega) (hT.keep (hS.row (fun k => (by (try dsimp only); first | omega | (simp only [Hs, Tl, Sc, isHs, isScr, isTs] at *; omega)))) (hS.row (fun k => (by (try dsimp only); first | omega | (simp only [Hs, Tl, Sc, isHs, isScr, isTs] at *; omega))))) hl1 (by rw [hS.row (x := 77) (fun k => (by (try dsimp only); first | omega | (simp only [Hs, Tl, Sc, isHs, isScr, isTs] at *; omega)))]; exact hp) hw (by omega) (fun r4 Nr4 hTr4 hr4 => ?_)
        have kn5 := (hTr4.2 (76) 0 (by (try dsimp only); first | omega | (simp only [Hs, Tl, Sc, isHs, isScr, isTs] at *; omega))).trans kn3
        have hS := hS.tr hTr4 (by intro i k; first | exact rfl | exact fun h => h.elim | omega | (dsimp only; omega) | (simp only [Hs, Tl, Sc, isHs, isScr, isTs] at *; omega))
        obtain ⟨hSt, hrt⟩ := hr4
        dsimp only [Option.toList, List.cons_append, List.nil_append]
        refine w_pure .pop 23 (by decide +kernel) rfl rfl ?_
        refine w_load (.iload_n 2) 24 (by decide +kernel) rfl rfl ?_
        refine w_load (.aload_n 0) 25 (by decide +kernel) rfl rfl ?_
        refine w_getR (k := 2) (r := 78) 28 (by decide +kernel) sh_76 rfl ?_
        refine w_pushN 37 30 (by decide +kernel) ?_
        refine w_ialdN 31 (by decide +kernel) sh_78 (by omega) (by omega) ?_
        refine w_load (.iload_n 1) 32 (by decide +kernel) rfl rfl ?_
        refine w_callS2 135 2 35 (by decide +kernel) (Nat.le_of_ble_eq_true rfl) rfl rfl (by decide) (by omega) ?_
        refine k_135 hS.1  (by omega) (fun r6 hr6 => ?_)
        dsimp only [Option.toList, List.cons_append, List.nil_append]
        rcases hr6 with ⟨rfl, hbr6⟩ | ⟨rfl, hbr6⟩
        · skip
          have htr6 := tb_hb (by omega) hbr6
          refine w_ieq 60 38 (by decide +kernel) (fun hz => absurd hz (by decide)) (fun _ => ?_)
          refine w_load (.aload_n 0) 39 (by decide +kernel) rfl rfl ?_
          refine w_getR (k := 14) (r := 85) 42 (by decide +kernel) sh_76 rfl ?_
          refine w_load (.iload_n 3) 43 (by decide +kernel) rfl rfl ?_
          refine w_ialdC (B := 10) 44 (by decide +kernel) sh_85 (by decide) (by omega) (inv_85 hS.1 _) (fun n8 hn8 en8 => ?_)
          refine w_load (.aload_n 0) 45 (by decide +kernel) rfl rfl ?_
          refine w_getR (k := 2) (r := 78) 48 (by decide +kernel) sh_76 rfl ?_
          refine w_pushN 27 50 (by decide +kernel) ?_
          refine w_load (.iload_n 1) 51 (by decide +kernel) rfl rfl ?_
          refine w_addN (27 + k) 52 (by decide +kernel) (by omega) ?_
          refine w_ialdN 53 (by decide +kernel) sh_78 (by omega) (by omega) ?_
          refine w_pushN 20 55 (by decide +kernel) ?_
          refine w_pure .iadd 56 (by decide +kernel) rfl rfl ?_
          refine w_pure .imul 57 (by decide +kernel) rfl rfl ?_
          refine w_goto 61 (by decide +kernel) ?_
          refine w_pure .iadd 62 (by decide +kernel) rfl rfl ?_
          refine w_topi (fun v9 ev9 => ?_)
          refine w_store (ls' := [.ref 76, .int (nI k), .int v9, .int (nI g3)]) (.istore_n 2) 63 (by decide +kernel) rfl rfl ?_
          have esum := ev9
          refine w_iincN (z := 3) (g3 + 1) 66 (by decide +kernel) rfl (Nat.le_of_ble_eq_true rfl) rfl rfl ?_
          show Wp _ _ _ [.ref 76, .int (nI k), .int v9, .int (nI (g3 + 1))] _ _ _ _
          refine w_goto 4 (by decide +kernel) ?_
          exact ih_4 Nr4 _ (g3 + 1) hS (by first | omega | (rw [esum]; first | exact mo_t hSt.1 hn hk (by assumption) (by rw [← ho g3 (by omega), ← hS.2 85 g3 (by (try dsimp only); first | omega | (simp only [Hs, Tl, Sc, isHs, isScr, isTs] at *; omega))]; symm; assumption) hi1_4 | exact mo_f hSt.1 hn hk (by assumption) hi1_4)) (by first | omega | (rw [esum]; first | exact mo_t hSt.1 hn hk (by assumption) (by rw [← ho g3 (by omega), ← hS.2 85 g3 (by (try dsimp only); first | omega | (simp only [Hs, Tl, Sc, isHs, isScr, isTs] at *; omega))]; symm; assumption) hi1_4 | exact mo_f hSt.1 hn hk (by assumption) hi1_4)) (by omega)
        · skip
          have htr6 := tb_nhb (by omega) hbr6
          refine w_ieq 60 38 (by decide +kernel) (fun _ => ?_) (fun hz => absurd hz (by decide))
          refine w_pushN 0 61 (by decide +kernel) ?_
          refine w_pure .iadd 62 (by decide +kernel) rfl rfl ?_
          refine w_topi (fun v11 ev11 => ?_)
          refine w_store (ls' := [.ref 76, .int (nI k), .int v11, .int (nI g3)]) (.istore_n 2) 63 (by decide +kernel) rfl rfl ?_
          have esum := ev11
          refine w_iincN (z := 3) (g3 + 1) 66 (by decide +kernel) rfl (Nat.le_of_ble_eq_true rfl) rfl rfl ?_
          show Wp _ _ _ [.ref 76, .int (nI k), .int v11, .int (nI (g3 + 1))] _ _ _ _
          refine w_goto 4 (by decide +kernel) ?_
          exact ih_4 Nr4 _ (g3 + 1) hS (by first | omega | (rw [esum]; first | exact mo_t hSt.1 hn hk (by assumption) (by rw [← ho g3 (by omega), ← hS.2 85 g3 (by (try dsimp only); first | omega | (simp only [Hs, Tl, Sc, isHs, isScr, isTs] at *; omega))]; symm; assumption) hi1_4 | exact mo_f hSt.1 hn hk (by assumption) hi1_4)) (by first | omega | (rw [esum]; first | exact mo_t hSt.1 hn hk (by assumption) (by rw [← ho g3 (by omega), ← hS.2 85 g3 (by (try dsimp only); first | omega | (simp only [Hs, Tl, Sc, isHs, isScr, isTs] at *; omega))]; symm; assumption) hi1_4 | exact mo_f hSt.1 hn hk (by assumption) hi1_4)) (by omega)
  exact LP_4 _ N _ 0 hS (by first | omega | rfl) (by first | omega | rfl) (Nat.lt_succ_self _)
-- X8_meanBy#s
set_option maxRecDepth 10000 in
theorem s_meanBy {d : Nat} {M : Mt} {L : Lt} {Q : Option Value → Mt → Lt → Prop} {n k : Nat} {c pw od : Row} {T : TLs} {a : Int32} (hI : Inv M) (hn : n ≤ 5) (en : M 76 0 = nI n) (hc : HE n (lvC M 0) c) (hp : LQ n (M 77) pw) (hw : wedOk n c) (hT : tlM T M) (ho : ∀ t, t < 3 → M 85 t = od t) (hk : k < n) (hd : 5 ≤ d) (hq : ∀ (r : Int32) (N : Mt), St (fun i k => (i = 78 ∧ 22 ≤ k ∧ k < 66) ∨ (i = 76 ∧ k = 7)) M N → (r = meanF n T pw od (up1 c k a) k) → Q (some (.int r)) N L) : Wp d 182 0 [.ref 76, .int (nI k), .int a] [] M L Q := by
  refine (show ∀ N : Mt, N = M → St (fun i k => (i = 78 ∧ 22 ≤ k ∧ k < 66) ∨ (i = 76 ∧ k = 7)) M N → Wp d 182 0 [.ref 76, .int (nI k), .int a] [] N L Q from ?_) M rfl (St.rf hI)
  intro N hNM hS
  have kz0 : N (76) 0 = nI n := by rw [hNM]; exact en
  refine w_load (.aload_n 0) 1 (by decide +kernel) rfl rfl ?_
  refine w_pushN 0 2 (by decide +kernel) ?_
  refine w_pushN 2 3 (by decide +kernel) ?_
  refine w_callV2 160 8 4 6 (by decide +kernel) sh_76 (Nat.le_of_ble_eq_true rfl) rfl rfl (by decide) (by omega) ?_
  refine s_lay hS.1 (by omega) (by omega) (by omega) (by omega) (fun Nr1 hTr1 hr1 => ?_)
  have kn2 := (hTr1.2 (76) 0 (by (try dsimp only); first | omega | (simp only [Hs, Tl, Sc, isHs, isScr, isTs] at *; omega))).trans kz0
  have hS := hS.tr hTr1 (by intro i k; first | exact rfl | exact fun h => h.elim | omega | (dsimp only; omega) | (simp only [Hs, Tl, Sc, isHs, isScr, isTs] at *; omega))
  have hl2 : HE n (lvC Nr1 2) c := lay_HE hn hr1 (by rw [hNM]; exact hc)
  dsimp only [Option.toList, List.nil_append]
  refine w_load (.aload_n 0) 7 (by decide +kernel) rfl rfl ?_
  refine w_getR (k := 2) (r := 78) 10 (by decide +kernel) sh_76 rfl ?_
  refine w_pushN 44 12 (by decide +kernel) ?_
  refine w_load (.iload_n 1) 13 (by decide +kernel) rfl rfl ?_
  refine w_addN (44 + k) 14 (by decide +kernel) (by omega) ?_
  refine w_load (.iload_n 2) 15 (by decide +kernel) rfl rfl ?_
  refine w_iastE 16 (by decide +kernel) sh_78 (by omega) (by omega) hS (rg_78 (fun h1 h2 => by first | omega | exact Or.inl rfl | exact Or.inr ⟨_, by omega, rfl⟩ | exact inv_78 hS.1 _ (by omega) (by omega) | exact inv_82 hS.1 _ (by omega) (by omega) | exact inv_89 hS.1 _ (by omega) (by omega))) (by first | exact rfl | omega | (dsimp only; omega) | (simp only [Hs, Tl, Sc, isHs, isScr, isTs] at *; omega)) (fun Nq3 hS hq3 oq3 mq3 => ?_)
  have kn4 := (oq3 (76) 0 (by first | omega | (simp only [Hs, Tl, Sc, isHs, isScr, isTs] at *; omega))).trans kn2
  have hl3 : HE n (lvC Nq3 2) (up1 c k a) := by rw [lvC_up' (lv := 2) (j := k) mq3 (by omega)]; exact hl2.up _ rfl
  refine w_load (.aload_n 0) 17 (by decide +kernel) rfl rfl ?_
  refine w_load (.iload_n 1) 18 (by decide +kernel) rfl rfl ?_
  refine w_callV1 181 8 4 21 (by decide +kernel) sh_76 (Nat.le_of_ble_eq_true rfl) rfl (by decide) (by omega) ?_
  refine s_meanOf hS.1 (by omega) kn4 hl3 (by rw [hS.row (x := 77) (fun k => (by (try dsimp only); first | omega | (simp only [Hs, Tl, Sc, isHs, isScr, isTs] at *; omega)))]; exact hp) (hw.up (Or.inr (Or.inr (Or.inl (by omega)))) hn) (hT.keep (hS.row (fun k => (by (try dsimp only); first | omega | (simp only [Hs, Tl, Sc, isHs, isScr, isTs] at *; omega)))) (hS.row (fun k => (by (try dsimp only); first | omega | (simp only [Hs, Tl, Sc, isHs, isScr, isTs] at *; omega))))) (fun t ht => (hS.2 85 t (by (try dsimp only); first | omega | (simp only [Hs, Tl, Sc, isHs, isScr, isTs] at *; omega))).trans (ho t ht)) (by omega) (by omega) (fun r5 Nr5 hTr5 hr5 => ?_)
  have kn6 := (hTr5.2 (76) 0 (by (try dsimp only); first | omega | (simp only [Hs, Tl, Sc, isHs, isScr, isTs] at *; omega))).trans kn4
  have hS := hS.tr hTr5 (by intro i k; first | exact rfl | exact fun h => h.elim | omega | (dsimp only; omega) | (simp only [Hs, Tl, Sc, isHs, isScr, isTs] at *; omega))
  dsimp only [Option.toList, List.cons_append, List.nil_append]
  exact w_ret (by decide +kernel) (hq _ Nr5 hS (by assumption))
-- X8_toGive#s
set_option maxRecDepth 10000 in
theorem s_toGive8 {d : Nat} {M : Mt} {L : Lt} {Q : Option Value → Mt → Lt → Prop} {n : Nat} {c pw : Row} {T : TLs} {od : Row} {g : Int32} (hI : Inv M) (hn : n ≤ 5) (en : M 76 0 = nI n) (hc : HE n (lvC M 0) c) (hp : LQ n (M 77) pw) (hw : wedOk n c) (hT : tlM T M) (ho : ∀ t, t < 3 → M 85 t = od t) (hd : 6 ≤ d) (hq : ∀ (r : Int32) (N : Mt), St (fun i k => (i = 78 ∧ 22 ≤ k) ∨ i = 83 ∨ i = 84 ∨ (i = 76 ∧ (k = 7 ∨ k = 11))) M N → ((r = -1 ∧ ¬ (∃ k, k < n ∧ g = nI k)) ∨ (∃ k, k < n ∧ g = nI k ∧ ((r = -3 ∧ tb (c 15) k = false) ∨ (tb (c 15) k = true ∧ ∃ b, r = nI b ∧ isMF (fun b => meanF n T pw od (up1 c k (nI b)) k) 4 b)))) → Q (some (.int r)) N L) : Wp d 184 0 [.ref 76, .int g, .null, .null] [] M L Q := by
  refine (show ∀ N : Mt, N = M → St (fun i k => (i = 78 ∧ 22 ≤ k) ∨ i = 83 ∨ i = 84 ∨ (i = 76 ∧ (k = 7 ∨ k = 11))) M N → Wp d 184 0 [.ref 76, .int g, .null, .null] [] N L Q from ?_) M rfl (St.rf hI)
  intro N hNM hS
  have kz0 : N (76) 0 = nI n := by rw [hNM]; exact en
  refine w_load (.aload_n 0) 1 (by decide +kernel) rfl rfl ?_
  refine w_load (.iload_n 1) 2 (by decide +kernel) rfl rfl ?_
  refine w_callV1 150 8 2 5 (by decide +kernel) sh_76 (Nat.le_of_ble_eq_true rfl) rfl (by decide) (by omega) ?_
  refine k_150 hS.1 (by omega) kz0 (by omega) (fun r1 hr1 => ?_)
  dsimp only [Option.toList, List.cons_append, List.nil_append]
  rcases hr1 with ⟨rfl, k2, hk2, rfl⟩ | ⟨rfl, hnok2⟩
  · skip
    refine w_ine 10 8 (by decide +kernel) (fun _ => ?_) (fun hz => absurd hz (by decide))
    refine w_load (.aload_n 0) 11 (by decide +kernel) rfl rfl ?_
    refine w_getR (k := 2) (r := 78) 14 (by decide +kernel) sh_76 rfl ?_
    refine w_pushN 15 16 (by decide +kernel) ?_
    refine w_ialdN 17 (by decide +kernel) sh_78 (by omega) (by omega) ?_
    refine w_load (.iload_n 1) 18 (by decide +kernel) rfl rfl ?_
    refine w_callS2 135 2 21 (by decide +kernel) (Nat.le_of_ble_eq_true rfl) rfl rfl (by decide) (by omega) ?_
    refine k_135 hS.1  (by omega) (fun r4 hr4 => ?_)
    dsimp only [Option.toList, List.cons_append, List.nil_append]
    rcases hr4 with ⟨rfl, hbr4⟩ | ⟨rfl, hbr4⟩
    · skip
      have htr4 := tb_hb (by omega) hbr4
      refine w_ine 27 24 (by decide +kernel) (fun _ => ?_) (fun hz => absurd hz (by decide))
      refine w_pushN 0 28 (by decide +kernel) ?_
      refine w_store (ls' := [.ref 76, .int (nI k2), .int (nI 0), .null]) (.istore_n 2) 29 (by decide +kernel) rfl rfl ?_
      refine w_pushN 1 30 (by decide +kernel) ?_
      refine w_store (ls' := [.ref 76, .int (nI k2), .int (nI 0), .int (nI 1)]) (.istore_n 3) 31 (by decide +kernel) rfl rfl ?_
      have LP_31 : ∀ (kk : Nat) (N_31 : Mt) (g2 : Nat) (g3 : Nat), St (fun i k => (i = 78 ∧ 22 ≤ k) ∨ i = 83 ∨ i = 84 ∨ (i = 76 ∧ (k = 7 ∨ k = 11))) M N_31 → g3 ≤ 4 → isMF (fun b => meanF n T pw od (up1 c k2 (nI b)) k2) g3 g2 → 4 - g3 < kk → Wp d 184 31 [.ref 76, .int (nI k2), .int (nI g2), .int (nI g3)] [] N_31 L Q := by
        intro kk
        induction kk with
        | zero => intro N_31 g2 g3 hS hi0_31 hi1_31 hm_31; exact absurd hm_31 (Nat.not_lt_zero _)
        | succ kk ih_31 =>
          intro N_31 g2 g3 hS hi0_31 hi1_31 hm_31
          refine w_load (.iload_n 3) 32 (by decide +kernel) rfl rfl ?_
          refine w_pushN 4 33 (by decide +kernel) ?_
          refine w_cgeN 63 36 (by decide +kernel) (by omega) (by omega) (fun h6 => ?_) (fun h6 => ?_)
          · skip
            refine w_load (.iload_n 2) 64 (by decide +kernel) rfl rfl ?_
            exact w_ret (by decide +kernel) (hq _ N_31 hS (Or.inr ⟨_, by assumption, rfl, Or.inr ⟨by rw [← hc.2.1, ← hNM]; assumption, g2, rfl, by have hgn : g3 = 4 := (by omega); rw [hgn] at hi1_31; exact hi1_31⟩⟩))
          · skip
            refine w_load (.aload_n 0) 37 (by decide +kernel) rfl rfl ?_
            refine w_load (.iload_n 1) 38 (by decide +kernel) rfl rfl ?_
            refine w_load (.iload_n 3) 39 (by decide +kernel) rfl rfl ?_
            refine w_callV2 182 8 3 42 (by decide +kernel) sh_76 (Nat.le_of_ble_eq_true rfl) rfl rfl (by decide) (by omega) ?_
            refine s_meanBy hS.1 (by omega) ((hS.2 76 0 (by (try dsimp only); first | omega | (simp only [Hs, Tl, Sc, isHs, isScr, isTs] at *; omega))).trans en) (lv_same hn hc (fun k h1 h2 => hS.2 78 k (by (try dsimp only); first | omega | (simp only [Hs, Tl, Sc, isHs, isScr, isTs] at *; omega)))) (by rw [hS.row (x := 77) (fun k => (by (try dsimp only); first | omega | (simp only [Hs, Tl, Sc, isHs, isScr, isTs] at *; omega)))]; exact hp) hw (hT.keep (hS.row (fun k => (by (try dsimp only); first | omega | (simp only [Hs, Tl, Sc, isHs, isScr, isTs] at *; omega)))) (hS.row (fun k => (by (try dsimp only); first | omega | (simp only [Hs, Tl, Sc, isHs, isScr, isTs] at *; omega))))) (fun t ht => (hS.2 85 t (by (try dsimp only); first | omega | (simp only [Hs, Tl, Sc, isHs, isScr, isTs] at *; omega))).trans (ho t ht)) (by omega) (by omega) (fun r7 Nr7 hTr7 hr7 => ?_)
            have kn8 := (hTr7.2 (76) 0 (by (try dsimp only); first | omega | (simp only [Hs, Tl, Sc, isHs, isScr, isTs] at *; omega))).trans ((hS.2 76 0 (by (try dsimp only); first | omega | (simp only [Hs, Tl, Sc, isHs, isScr, isTs] at *; omega))).trans en)
            have hS := hS.tr hTr7 (by intro i k; first | exact rfl | exact fun h => h.elim | omega | (dsimp only; omega) | (simp only [Hs, Tl, Sc, isHs, isScr, isTs] at *; omega))
            have mA := hr7
            dsimp only [Option.toList, List.cons_append, List.nil_append]
            refine w_load (.aload_n 0) 43 (by decide +kernel) rfl rfl ?_
            refine w_load (.iload_n 1) 44 (by decide +kernel) rfl rfl ?_
            refine w_load (.iload_n 2) 45 (by decide +kernel) rfl rfl ?_
            refine w_callV2 182 8 3 48 (by decide +kernel) sh_76 (Nat.le_of_ble_eq_true rfl) rfl rfl (by decide) (by omega) ?_
            refine s_meanBy hS.1 (by omega) kn8 (lv_same hn hc (fun k h1 h2 => hS.2 78 k (by (try dsimp only); first | omega | (simp only [Hs, Tl, Sc, isHs, isScr, isTs] at *; omega)))) (by rw [hS.row (x := 77) (fun k => (by (try dsimp only); first | omega | (simp only [Hs, Tl, Sc, isHs, isScr, isTs] at *; omega)))]; exact hp) hw (hT.keep (hS.row (fun k => (by (try dsimp only); first | omega | (simp only [Hs, Tl, Sc, isHs, isScr, isTs] at *; omega)))) (hS.row (fun k => (by (try dsimp only); first | omega | (simp only [Hs, Tl, Sc, isHs, isScr, isTs] at *; omega))))) (fun t ht => (hS.2 85 t (by (try dsimp only); first | omega | (simp only [Hs, Tl, Sc, isHs, isScr, isTs] at *; omega))).trans (ho t ht)) (by omega) (by omega) (fun r9 Nr9 hTr9 hr9 => ?_)
            have kn10 := (hTr9.2 (76) 0 (by (try dsimp only); first | omega | (simp only [Hs, Tl, Sc, isHs, isScr, isTs] at *; omega))).trans kn8
            have hS := hS.tr hTr9 (by intro i k; first | exact rfl | exact fun h => h.elim | omega | (dsimp only; omega) | (simp only [Hs, Tl, Sc, isHs, isScr, isTs] at *; omega))
            have mB := hr9
            dsimp only [Option.toList, List.cons_append, List.nil_append]
            refine w_cle 55 51 (by decide +kernel) (fun h11 => ?_) (fun h11 => ?_)
            · skip
              refine w_load (.iload_n 2) 56 (by decide +kernel) rfl rfl ?_
              refine w_store (ls' := [.ref 76, .int (nI k2), .int (nI g2), .int (nI g3)]) (.istore_n 2) 57 (by decide +kernel) rfl rfl ?_
              refine w_iincN (z := 3) (g3 + 1) 60 (by decide +kernel) rfl (Nat.le_of_ble_eq_true rfl) rfl rfl ?_
              show Wp _ _ _ [.ref 76, .int (nI k2), .int (nI g2), .int (nI (g3 + 1))] _ _ _ _
              refine w_goto 31 (by decide +kernel) ?_
              exact ih_31 Nr9 g2 (g3 + 1) hS (by first | omega | exact hi1_31.up (mg_lt mA mB (by assumption)) | exact hi1_31.stay (mg_le mA mB (by assumption))) (by first | omega | exact hi1_31.up (mg_lt mA mB (by assumption)) | exact hi1_31.stay (mg_le mA mB (by assumption))) (by omega)
            · skip
              refine w_load (.iload_n 3) 52 (by decide +kernel) rfl rfl ?_
              refine w_goto 56 (by decide +kernel) ?_
              refine w_store (ls' := [.ref 76, .int (nI k2), .int (nI g3), .int (nI g3)]) (.istore_n 2) 57 (by decide +kernel) rfl rfl ?_
              refine w_iincN (z := 3) (g3 + 1) 60 (by decide +kernel) rfl (Nat.le_of_ble_eq_true rfl) rfl rfl ?_
              show Wp _ _ _ [.ref 76, .int (nI k2), .int (nI g3), .int (nI (g3 + 1))] _ _ _ _
              refine w_goto 31 (by decide +kernel) ?_
              exact ih_31 Nr9 g3 (g3 + 1) hS (by first | omega | exact hi1_31.up (mg_lt mA mB (by assumption)) | exact hi1_31.stay (mg_le mA mB (by assumption))) (by first | omega | exact hi1_31.up (mg_lt mA mB (by assumption)) | exact hi1_31.stay (mg_le mA mB (by assumption))) (by omega)
      exact LP_31 _ N 0 1 hS (by first | omega | exact isMF.one) (by first | omega | exact isMF.one) (Nat.lt_succ_self _)
    · skip
      have htr4 := tb_nhb (by omega) hbr4
      refine w_ine 27 24 (by decide +kernel) (fun hz => absurd hz (by decide)) (fun _ => ?_)
      refine w_push (-3) 26 (by decide +kernel) ?_
      exact w_ret (by decide +kernel) (hq _ N hS (Or.inr ⟨_, by assumption, rfl, Or.inl ⟨rfl, by rw [← hc.2.1, ← hNM]; assumption⟩⟩))
  · skip
    refine w_ine 10 8 (by decide +kernel) (fun hz => absurd hz (by decide)) (fun _ => ?_)
    refine w_push (-1) 9 (by decide +kernel) ?_
    exact w_ret (by decide +kernel) (hq _ N hS (Or.inl ⟨rfl, by assumption⟩))
