-- X8_meanOf#s
set_option maxRecDepth 10000 in
theorem s_meanOf {d : Nat} {M : Mt} {L : Lt} {Q : Option Value → Mt → Lt → Prop} {n k : Nat} {c pw od : Row} {T : TLs}  (hI : Inv M) (hn : n ≤ 5) (en : M 76 0 = nI n) (hc : HE n (lvC M 2) c) (hp : LQ n (M 77) pw) (hw : wedOk n c) (hT : tlM T M) (ho : ∀ t, t < 3 → M 85 t = od t) (hk : k < n) (hd : 4 ≤ d) (hq : ∀ (r : Int32) (N : Mt), St (fun i k => (i = 78 ∧ 22 * 1 ≤ k ∧ k < 22 * 1 + 22) ∨ (i = 76 ∧ k = 7)) M N → (r = meanF n T pw od c k) → Q (some (.int r)) N L) : Wp d 181 0 [.ref 76, .int (nI k), .null, .null] [] M L Q := by
  refine (show ∀ N : Mt, N = M → St (fun i k => (i = 78 ∧ 22 * 1 ≤ k ∧ k < 22 * 1 + 22) ∨ (i = 76 ∧ k = 7)) M N → Wp d 181 0 [.ref 76, .int (nI k), .null, .null] [] N L Q from ?_) M rfl (St.rf hI)
  intro N hNM hS
  have kz0 : N (76) 0 = nI n := by rw [hNM]; exact en
  refine w_pushN 0 1 (by decide +kernel) ?_
  refine w_store (ls' := [.ref 76, .int (nI k), .int (nI 0), .null]) (.istore_n 2) 2 (by decide +kernel) rfl rfl ?_
  refine w_pushN 0 3 (by decide +kernel) ?_
  refine w_store (ls' := [.ref 76, .int (nI k), .int (nI 0), .int (nI 0)]) (.istore_n 3) 4 (by decide +kernel) rfl rfl ?_
  have LP_4 : ∀ (kk : Nat) (N_4 : Mt) (x2_4 : Int32) (g3 : Nat), St (fun i k => (i = 78 ∧ 22 * 1 ≤ k ∧ k < 22 * 1 + 22) ∨ (i = 76 ∧ k = 7)) M N_4 → g3 ≤ 3 → x2_4 = sumI g3 (fun t => od t * wor (TL n T pw t c).1 k) → 3 - g3 < kk → Wp d 181 4 [.ref 76, .int (nI k), .int x2_4, .int (nI g3)] [] N_4 L Q := by
    intro kk
    induction kk with
    | zero => intro N_4 x2_4 g3 hS hi0_4 hi1_4 hm_4; exact absurd hm_4 (Nat.not_lt_zero _)
    | succ kk ih_4 =>
      intro N_4 x2_4 g3 hS hi0_4 hi1_4 hm_4
      have hS0 := hS
      refine w_load (.iload_n 3) 5 (by decide +kernel) rfl rfl ?_
      refine w_pushN 3 6 (by decide +kernel) ?_
      refine w_cgeN 69 9 (by decide +kernel) (by omega) (by omega) (fun h1 => ?_) (fun h1 => ?_)
      · skip
        refine w_load (.iload_n 2) 70 (by decide +kernel) rfl rfl ?_
        exact w_ret (by decide +kernel) (hq _ N_4 hS (by have hgn : g3 = 3 := (by omega); rw [hgn] at hi1_4; exact hi1_4))
      · skip
        refine w_load (.aload_n 0) 10 (by decide +kernel) rfl rfl ?_
        refine w_pushN 2 11 (by decide +kernel) ?_
        refine w_pushN 1 12 (by decide +kernel) ?_
        refine w_callV2 160 8 4 15 (by decide +kernel) sh_76 (Nat.le_of_ble_eq_true rfl) rfl rfl (by decide) (by omega) ?_
        refine s_lay hS.1 (by omega) (by omega) (by omega) (by omega) (fun Nr2 hTr2 hr2 => ?_)
        have kn3 := (hTr2.2 (76) 0 (by (try dsimp only); first | omega | (simp only [Hs, Tl, Sc, isHs, isScr, isTs] at *; omega))).trans ((hS.2 76 0 (by (try dsimp only); first | omega | (simp only [Hs, Tl, Sc, isHs, isScr, isTs] at *; omega))).trans en)
        have hS := hS.tr hTr2 (by intro i k; first | exact rfl | exact fun h => h.elim | omega | (dsimp only; omega) | (simp only [Hs, Tl, Sc, isHs, isScr, isTs] at *; omega))
        have hl1 : HE n (lvC Nr2 1) c := lay_HE hn hr2 (lv_same hn hc (fun k h1 h2 => hS0.2 78 k (by (try dsimp only); first | omega | (simp only [Hs, Tl, Sc, isHs, isScr, isTs] at *; omega))))
        dsimp only [Option.toList, List.nil_append]
        refine w_load (.aload_n 0) 16 (by decide +kernel) rfl rfl ?_
        refine w_pushN 1 17 (by decide +kernel) ?_
        refine w_load (.iload_n 3) 18 (by decide +kernel) rfl rfl ?_
        refine w_pushN 0 19 (by decide +kernel) ?_
        refine w_callV3 159 8 7 22 (by decide +kernel) sh_76 (Nat.le_of_ble_eq_true rfl) rfl rfl rfl (by decide) (by omega) ?_
        refine s_tellOnT hS.1 (by omega) (by omega) kn3 (by omega) (hT.keep (hS.row (fun k => (by (try dsimp only); first | omega | (simp only [Hs, Tl, Sc, isHs, isScr, isTs] at *; omega)))) (hS.row (fun k => (by (try dsimp only); first | omega | (simp only [Hs, Tl, Sc, isHs, isScr, isTs] at *; omega))))) hl1 (by rw [hS.row (x := 77) (fun k => (by (try dsimp only); first | omega | (simp only [Hs, Tl, Sc, isHs, isScr, isTs] at *; omega)))]; exact hp) hw (by omega) (fun r4 Nr4 hTr4 hr4 => ?_)
        have kn5 := (hTr4.2 (76) 0 (by (try dsimp only); first | omega | (simp only [Hs, Tl, Sc, isHs, isScr, isTs] at *; omega))).trans kn3
        have hS := hS.tr hTr4 (by intro i k; first | exact rfl | exact fun h => h.elim | omega | (dsimp only; omega) | (simp only [Hs, Tl, Sc, isHs, isScr, isTs] at *; omega))
        obtain ⟨hSt, hrt⟩ := hr4
        dsimp only [Option.toList, List.cons_append, List.nil_append]
        refine w_pure .pop 23 (by decide +kernel) rfl rfl ?_
        refine w_load (.iload_n 2) 24 (by decide +kernel) rfl rfl ?_
        refine w_load (.aload_n 0) 25 (by decide +kernel) rfl rfl ?_
        refine w_getR (k := 2) (r := 78) 28 (by decide +kernel) sh_76 rfl ?_
        refine w_pushN 37 30 (by decide +kernel) ?_
        refine w_ialdN 31 (by decide +kernel) sh_78 (by omega) (by omega) ?_
        refine w_load (.iload_n 1) 32 (by decide +kernel) rfl rfl ?_
        refine w_callS2 135 2 35 (by decide +kernel) (Nat.le_of_ble_eq_true rfl) rfl rfl (by decide) (by omega) ?_
        refine k_135 hS.1  (by omega) (fun r6 hr6 => ?_)
        dsimp only [Option.toList, List.cons_append, List.nil_append]
        rcases hr6 with ⟨rfl, hbr6⟩ | ⟨rfl, hbr6⟩
        · skip
          have htr6 := tb_hb (by omega) hbr6
          refine w_ieq 60 38 (by decide +kernel) (fun hz => absurd hz (by decide)) (fun _ => ?_)
          refine w_load (.aload_n 0) 39 (by decide +kernel) rfl rfl ?_
          refine w_getR (k := 14) (r := 85) 42 (by decide +kernel) sh_76 rfl ?_
          refine w_load (.iload_n 3) 43 (by decide +kernel) rfl rfl ?_
          refine w_ialdC (B := 10) 44 (by decide +kernel) sh_85 (by decide) (by omega) (inv_85 hS.1 _) (fun n8 hn8 en8 => ?_)
          refine w_load (.aload_n 0) 45 (by decide +kernel) rfl rfl ?_
          refine w_getR (k := 2) (r := 78) 48 (by decide +kernel) sh_76 rfl ?_
          refine w_pushN 27 50 (by decide +kernel) ?_
          refine w_load (.iload_n 1) 51 (by decide +kernel) rfl rfl ?_
          refine w_addN (27 + k) 52 (by decide +kernel) (by omega) ?_
          refine w_ialdN 53 (by decide +kernel) sh_78 (by omega) (by omega) ?_
          refine w_pushN 20 55 (by decide +kernel) ?_
          refine w_pure .iadd 56 (by decide +kernel) rfl rfl ?_
          refine w_pure .imul 57 (by decide +kernel) rfl rfl ?_
          refine w_goto 61 (by decide +kernel) ?_
          refine w_pure .iadd 62 (by decide +kernel) rfl rfl ?_
          refine w_topi (fun v9 ev9 => ?_)
          refine w_store (ls' := [.ref 76, .int (nI k), .int v9, .int (nI g3)]) (.istore_n 2) 63 (by decide +kernel) rfl rfl ?_
          have esum := ev9
          refine w_iincN (z := 3) (g3 + 1) 66 (by decide +kernel) rfl (Nat.le_of_ble_eq_true rfl) rfl rfl ?_
          show Wp _ _ _ [.ref 76, .int (nI k), .int v9, .int (nI (g3 + 1))] _ _ _ _
          refine w_goto 4 (by decide +kernel) ?_
          exact ih_4 Nr4 _ (g3 + 1) hS (by first | omega | (rw [esum]; first | exact mo_t hSt.1 hn hk (by assumption) (by rw [← ho g3 (by omega), ← hS.2 85 g3 (by (try dsimp only); first | omega | (simp only [Hs, Tl, Sc, isHs, isScr, isTs] at *; omega))]; symm; assumption) hi1_4 | exact mo_f hSt.1 hn hk (by assumption) hi1_4)) (by first | omega | (rw [esum]; first | exact mo_t hSt.1 hn hk (by assumption) (by rw [← ho g3 (by omega), ← hS.2 85 g3 (by (try dsimp only); first | omega | (simp only [Hs, Tl, Sc, isHs, isScr, isTs] at *; omega))]; symm; assumption) hi1_4 | exact mo_f hSt.1 hn hk (by assumption) hi1_4)) (by omega)
        · skip
          have htr6 := tb_nhb (by omega) hbr6
          refine w_ieq 60 38 (by decide +kernel) (fun _ => ?_) (fun hz => absurd hz (by decide))
          refine w_pushN 0 61 (by decide +kernel) ?_
          refine w_pure .iadd 62 (by decide +kernel) rfl rfl ?_
          refine w_topi (fun v11 ev11 => ?_)
          refine w_store (ls' := [.ref 76, .int (nI k), .int v11, .int (nI g3)]) (.istore_n 2) 63 (by decide +kernel) rfl rfl ?_
          have esum := ev11
          refine w_iincN (z := 3) (g3 + 1) 66 (by decide +kernel) rfl (Nat.le_of_ble_eq_true rfl) rfl rfl ?_
          show Wp _ _ _ [.ref 76, .int (nI k), .int v11, .int (nI (g3 + 1))] _ _ _ _
          refine w_goto 4 (by decide +kernel) ?_
          exact ih_4 Nr4 _ (g3 + 1) hS (by first | omega | (rw [esum]; first | exact mo_t hSt.1 hn hk (by assumption) (by rw [← ho g3 (by omega), ← hS.2 85 g3 (by (try dsimp only); first | omega | (simp only [Hs, Tl, Sc, isHs, isScr, isTs] at *; omega))]; symm; assumption) hi1_4 | exact mo_f hSt.1 hn hk (by assumption) hi1_4)) (by first | omega | (rw [esum]; first | exact mo_t hSt.1 hn hk (by assumption) (by rw [← ho g3 (by omega), ← hS.2 85 g3 (by (try dsimp only); first | omega | (simp only [Hs, Tl, Sc, isHs, isScr, isTs] at *; omega))]; symm; assumption) hi1_4 | exact mo_f hSt.1 hn hk (by assumption) hi1_4)) (by omega)
  exact LP_4 _ N _ 0 hS (by first | omega | rfl) (by first | omega | rfl) (Nat.lt_succ_self _)
-- X8_meanWith#s
set_option maxRecDepth 10000 in
theorem s_meanWith {d : Nat} {M : Mt} {L : Lt} {Q : Option Value → Mt → Lt → Prop} {n k j q : Nat} {c pw od : Row} {T : TLs} {a : Int32} {b : Int32} (hI : Inv M) (hn : n ≤ 5) (en : M 76 0 = nI n) (hc : HE n (lvC M 0) c) (hp : LQ n (M 77) pw) (hw : wedOk n c) (hT : tlM T M) (ho : ∀ t, t < 3 → M 85 t = od t) (hk : k < n) (hj : j < n) (hq2 : q < n) (hd : 5 ≤ d) (hq : ∀ (r : Int32) (N : Mt), St (fun i k => (i = 78 ∧ 22 ≤ k ∧ k < 66) ∨ (i = 76 ∧ k = 7)) M N → (r = meanF n T pw od (up1 (up1 c k a) j b) q) → Q (some (.int r)) N L) : Wp d 185 0 [.ref 76, .int (nI k), .int a, .int (nI j), .int b, .int (nI q)] [] M L Q := by
  refine (show ∀ N : Mt, N = M → St (fun i k => (i = 78 ∧ 22 ≤ k ∧ k < 66) ∨ (i = 76 ∧ k = 7)) M N → Wp d 185 0 [.ref 76, .int (nI k), .int a, .int (nI j), .int b, .int (nI q)] [] N L Q from ?_) M rfl (St.rf hI)
  intro N hNM hS
  have kz0 : N (76) 0 = nI n := by rw [hNM]; exact en
  refine w_load (.aload_n 0) 1 (by decide +kernel) rfl rfl ?_
  refine w_pushN 0 2 (by decide +kernel) ?_
  refine w_pushN 2 3 (by decide +kernel) ?_
  refine w_callV2 160 8 4 6 (by decide +kernel) sh_76 (Nat.le_of_ble_eq_true rfl) rfl rfl (by decide) (by omega) ?_
  refine s_lay hS.1 (by omega) (by omega) (by omega) (by omega) (fun Nr1 hTr1 hr1 => ?_)
  have kn2 := (hTr1.2 (76) 0 (by (try dsimp only); first | omega | (simp only [Hs, Tl, Sc, isHs, isScr, isTs] at *; omega))).trans kz0
  have hS := hS.tr hTr1 (by intro i k; first | exact rfl | exact fun h => h.elim | omega | (dsimp only; omega) | (simp only [Hs, Tl, Sc, isHs, isScr, isTs] at *; omega))
  have hl2 : HE n (lvC Nr1 2) c := lay_HE hn hr1 (by rw [hNM]; exact hc)
  dsimp only [Option.toList, List.nil_append]
  refine w_load (.aload_n 0) 7 (by decide +kernel) rfl rfl ?_
  refine w_getR (k := 2) (r := 78) 10 (by decide +kernel) sh_76 rfl ?_
  refine w_pushN 44 12 (by decide +kernel) ?_
  refine w_load (.iload_n 1) 13 (by decide +kernel) rfl rfl ?_
  refine w_addN (44 + k) 14 (by decide +kernel) (by omega) ?_
  refine w_load (.iload_n 2) 15 (by decide +kernel) rfl rfl ?_
  refine w_iastE 16 (by decide +kernel) sh_78 (by omega) (by omega) hS (rg_78 (fun h1 h2 => by first | omega | exact Or.inl rfl | exact Or.inr ⟨_, by omega, rfl⟩ | exact inv_78 hS.1 _ (by omega) (by omega) | exact inv_82 hS.1 _ (by omega) (by omega) | exact inv_89 hS.1 _ (by omega) (by omega))) (by first | exact rfl | omega | (dsimp only; omega) | (simp only [Hs, Tl, Sc, isHs, isScr, isTs] at *; omega)) (fun Nq3 hS hq3 oq3 mq3 => ?_)
  have kn4 := (oq3 (76) 0 (by first | omega | (simp only [Hs, Tl, Sc, isHs, isScr, isTs] at *; omega))).trans kn2
  have hl3 : HE n (lvC Nq3 2) (up1 c k a) := by rw [lvC_up' (lv := 2) (j := k) mq3 (by omega)]; exact hl2.up _ rfl
  refine w_load (.aload_n 0) 17 (by decide +kernel) rfl rfl ?_
  refine w_getR (k := 2) (r := 78) 20 (by decide +kernel) sh_76 rfl ?_
  refine w_pushN 44 22 (by decide +kernel) ?_
  refine w_load (.iload_n 3) 23 (by decide +kernel) rfl rfl ?_
  refine w_addN (44 + j) 24 (by decide +kernel) (by omega) ?_
  refine w_load (.iload 4) 26 (by decide +kernel) rfl rfl ?_
  refine w_iastE 27 (by decide +kernel) sh_78 (by omega) (by omega) hS (rg_78 (fun h1 h2 => by first | omega | exact Or.inl rfl | exact Or.inr ⟨_, by omega, rfl⟩ | exact inv_78 hS.1 _ (by omega) (by omega) | exact inv_82 hS.1 _ (by omega) (by omega) | exact inv_89 hS.1 _ (by omega) (by omega))) (by first | exact rfl | omega | (dsimp only; omega) | (simp only [Hs, Tl, Sc, isHs, isScr, isTs] at *; omega)) (fun Nq5 hS hq5 oq5 mq5 => ?_)
  have kn6 := (oq5 (76) 0 (by first | omega | (simp only [Hs, Tl, Sc, isHs, isScr, isTs] at *; omega))).trans kn4
  have hl4 : HE n (lvC Nq5 2) (up1 (up1 c k a) j b) := by rw [lvC_up' (lv := 2) (j := j) mq5 (by omega)]; exact hl3.up _ rfl
  refine w_load (.aload_n 0) 28 (by decide +kernel) rfl rfl ?_
  refine w_load (.iload 5) 30 (by decide +kernel) rfl rfl ?_
  refine w_callV1 181 8 4 33 (by decide +kernel) sh_76 (Nat.le_of_ble_eq_true rfl) rfl (by decide) (by omega) ?_
  refine s_meanOf hS.1 (by omega) kn6 hl4 (by rw [hS.row (x := 77) (fun k => (by (try dsimp only); first | omega | (simp only [Hs, Tl, Sc, isHs, isScr, isTs] at *; omega)))]; exact hp) (wedOk.up (hw.up (Or.inr (Or.inr (Or.inl (by omega)))) hn) (Or.inr (Or.inr (Or.inl (by omega)))) hn) (hT.keep (hS.row (fun k => (by (try dsimp only); first | omega | (simp only [Hs, Tl, Sc, isHs, isScr, isTs] at *; omega)))) (hS.row (fun k => (by (try dsimp only); first | omega | (simp only [Hs, Tl, Sc, isHs, isScr, isTs] at *; omega))))) (fun t ht => (hS.2 85 t (by (try dsimp only); first | omega | (simp only [Hs, Tl, Sc, isHs, isScr, isTs] at *; omega))).trans (ho t ht)) (by omega) (by omega) (fun r7 Nr7 hTr7 hr7 => ?_)
  have kn8 := (hTr7.2 (76) 0 (by (try dsimp only); first | omega | (simp only [Hs, Tl, Sc, isHs, isScr, isTs] at *; omega))).trans kn6
  have hS := hS.tr hTr7 (by intro i k; first | exact rfl | exact fun h => h.elim | omega | (dsimp only; omega) | (simp only [Hs, Tl, Sc, isHs, isScr, isTs] at *; omega))
  dsimp only [Option.toList, List.cons_append, List.nil_append]
  exact w_ret (by decide +kernel) (hq _ Nr7 hS (by assumption))
-- X8_rests#s
set_option maxRecDepth 10000 in
theorem s_rests8 {d : Nat} {M : Mt} {L : Lt} {Q : Option Value → Mt → Lt → Prop} {n : Nat} {c pw : Row} {T : TLs} {od : Row} {g : Int32} {o : Int32} {w : Int32} (hI : Inv M) (hn : n ≤ 5) (en : M 76 0 = nI n) (hc : HE n (lvC M 0) c) (hp : LQ n (M 77) pw) (hw : wedOk n c) (hT : tlM T M) (ho : ∀ t, t < 3 → M 85 t = od t) (hd : 6 ≤ d) (hq : ∀ (r : Int32) (N : Mt), St (fun i k => (i = 78 ∧ 22 ≤ k) ∨ i = 83 ∨ i = 84 ∨ (i = 76 ∧ (k = 7 ∨ k = 11))) M N → ((r = -1 ∧ ¬ ((∃ k, k < n ∧ g = nI k) ∧ (∃ k, k < n ∧ o = nI k))) ∨ (∃ a b, a < n ∧ g = nI a ∧ b < n ∧ o = nI b ∧ ((r = -2 ∧ ¬ (¬ a = b ∧ inR w 0 1)) ∨ ((¬ a = b ∧ inR w 0 1) ∧ ((r = -3 ∧ ¬ (tb (c 15) a = true ∧ tb (c 15) b = true)) ∨ ((tb (c 15) a = true ∧ tb (c 15) b = true) ∧ rsR (rsP n T pw od c a b) w r)))))) → Q (some (.int r)) N L) : Wp d 186 0 [.ref 76, .int g, .int o, .int w, .null, .null, .null, .null, .null, .null, .null] [] M L Q := by
  refine (show ∀ N : Mt, N = M → St (fun i k => (i = 78 ∧ 22 ≤ k) ∨ i = 83 ∨ i = 84 ∨ (i = 76 ∧ (k = 7 ∨ k = 11))) M N → Wp d 186 0 [.ref 76, .int g, .int o, .int w, .null, .null, .null, .null, .null, .null, .null] [] N L Q from ?_) M rfl (St.rf hI)
  intro N hNM hS
  have kz0 : N (76) 0 = nI n := by rw [hNM]; exact en
  refine w_load (.aload_n 0) 1 (by decide +kernel) rfl rfl ?_
  refine w_load (.iload_n 1) 2 (by decide +kernel) rfl rfl ?_
  refine w_callV1 150 8 2 5 (by decide +kernel) sh_76 (Nat.le_of_ble_eq_true rfl) rfl (by decide) (by omega) ?_
  refine k_150 hS.1 (by omega) kz0 (by omega) (fun r1 hr1 => ?_)
  dsimp only [Option.toList, List.cons_append, List.nil_append]
  rcases hr1 with ⟨rfl, k2, hk2, rfl⟩ | ⟨rfl, hnok2⟩
  · skip
    refine w_ieq 16 8 (by decide +kernel) (fun hz => absurd hz (by decide)) (fun _ => ?_)
    refine w_load (.aload_n 0) 9 (by decide +kernel) rfl rfl ?_
    refine w_load (.iload_n 2) 10 (by decide +kernel) rfl rfl ?_
    refine w_callV1 150 8 2 13 (by decide +kernel) sh_76 (Nat.le_of_ble_eq_true rfl) rfl (by decide) (by omega) ?_
    refine k_150 hS.1 (by omega) kz0 (by omega) (fun r4 hr4 => ?_)
    dsimp only [Option.toList, List.cons_append, List.nil_append]
    rcases hr4 with ⟨rfl, k5, hk5, rfl⟩ | ⟨rfl, hnok5⟩
    · skip
      refine w_ine 18 16 (by decide +kernel) (fun _ => ?_) (fun hz => absurd hz (by decide))
      refine w_load (.iload_n 1) 19 (by decide +kernel) rfl rfl ?_
      refine w_load (.iload_n 2) 20 (by decide +kernel) rfl rfl ?_
      refine w_ceqN 33 23 (by decide +kernel) (by omega) (by omega) (fun h7 => ?_) (fun h7 => ?_)
      · skip
        refine w_push (-2) 35 (by decide +kernel) ?_
        exact w_ret (by decide +kernel) (hq _ N hS (Or.inr ⟨_, _, by assumption, rfl, by assumption, rfl, Or.inl ⟨rfl, fun hz => by first | exact absurd (by assumption) hz.1 | exact absurd hz.2 (by assumption)⟩⟩))
      · skip
        refine w_load (.iload_n 3) 24 (by decide +kernel) rfl rfl ?_
        refine w_pure .i2l 25 (by decide +kernel) rfl rfl ?_
        refine w_pushL (0) 26 (by decide +kernel) ?_
        refine w_pushL (1) 27 (by decide +kernel) ?_
        refine w_callSL 134 6 30 (by decide +kernel) (Nat.le_of_ble_eq_true rfl) rfl (by omega) ?_
        refine k_134 hS.1  (by omega) (fun r8 hr8 => ?_)
        dsimp only [Option.toList, List.cons_append, List.nil_append]
        rcases hr8 with ⟨rfl, hlok9, hhik9⟩ | ⟨rfl, hnok9⟩
        · skip
          have hink9 := inR_in (lo := 0) (hi := 1) hlok9 hhik9 (by decide) (by decide)
          refine w_ine 36 33 (by decide +kernel) (fun _ => ?_) (fun hz => absurd hz (by decide))
          refine w_load (.aload_n 0) 37 (by decide +kernel) rfl rfl ?_
          refine w_getR (k := 2) (r := 78) 40 (by decide +kernel) sh_76 rfl ?_
          refine w_pushN 15 42 (by decide +kernel) ?_
          refine w_ialdN 43 (by decide +kernel) sh_78 (by omega) (by omega) ?_
          refine w_load (.iload_n 1) 44 (by decide +kernel) rfl rfl ?_
          refine w_callS2 135 2 47 (by decide +kernel) (Nat.le_of_ble_eq_true rfl) rfl rfl (by decide) (by omega) ?_
          refine k_135 hS.1  (by omega) (fun r11 hr11 => ?_)
          dsimp only [Option.toList, List.cons_append, List.nil_append]
          rcases hr11 with ⟨rfl, hbr11⟩ | ⟨rfl, hbr11⟩
          · skip
            have htr11 := tb_hb (by omega) hbr11
            refine w_ieq 64 50 (by decide +kernel) (fun hz => absurd hz (by decide)) (fun _ => ?_)
            refine w_load (.aload_n 0) 51 (by decide +kernel) rfl rfl ?_
            refine w_getR (k := 2) (r := 78) 54 (by decide +kernel) sh_76 rfl ?_
            refine w_pushN 15 56 (by decide +kernel) ?_
            refine w_ialdN 57 (by decide +kernel) sh_78 (by omega) (by omega) ?_
            refine w_load (.iload_n 2) 58 (by decide +kernel) rfl rfl ?_
            refine w_callS2 135 2 61 (by decide +kernel) (Nat.le_of_ble_eq_true rfl) rfl rfl (by decide) (by omega) ?_
            refine k_135 hS.1  (by omega) (fun r13 hr13 => ?_)
            dsimp only [Option.toList, List.cons_append, List.nil_append]
            rcases hr13 with ⟨rfl, hbr13⟩ | ⟨rfl, hbr13⟩
            · skip
              have htr13 := tb_hb (by omega) hbr13
              refine w_ine 67 64 (by decide +kernel) (fun _ => ?_) (fun hz => absurd hz (by decide))
              refine w_pushN 0 68 (by decide +kernel) ?_
              refine w_store (ls' := [.ref 76, .int (nI k2), .int (nI k5), .int w, .int (nI 0), .null, .null, .null, .null, .null, .null]) (.istore 4) 70 (by decide +kernel) rfl rfl ?_
              refine w_push (-9) 72 (by decide +kernel) ?_
              refine w_store (ls' := [.ref 76, .int (nI k2), .int (nI k5), .int w, .int (nI 0), .int (-9), .null, .null, .null, .null, .null]) (.istore 5) 74 (by decide +kernel) rfl rfl ?_
              refine w_pushN 0 75 (by decide +kernel) ?_
              refine w_store (ls' := [.ref 76, .int (nI k2), .int (nI k5), .int w, .int (nI 0), .int (-9), .int (nI 0), .null, .null, .null, .null]) (.istore 6) 77 (by decide +kernel) rfl rfl ?_
              have LP_77 : ∀ (kk : Nat) (N_77 : Mt) (g4 : Nat) (x5_77 : Int32) (g6 : Nat), St (fun i k => (i = 78 ∧ 22 ≤ k) ∨ i = 83 ∨ i = 84 ∨ (i = 76 ∧ (k = 7 ∨ k = 11))) M N_77 → g6 ≤ 16 → g4 = cntP (rsP n T pw od c k2 k5) g6 → g4 ≤ g6 → fstP (rsP n T pw od c k2 k5) g6 x5_77 → 16 - g6 < kk → Wp d 186 77 [.ref 76, .int (nI k2), .int (nI k5), .int w, .int (nI g4), .int x5_77, .int (nI g6), .null, .null, .null, .null] [] N_77 L Q := by
                intro kk
                induction kk with
                | zero => intro N_77 g4 x5_77 g6 hS hi0_77 hi1_77 hi2_77 hi3_77 hm_77; exact absurd hm_77 (Nat.not_lt_zero _)
                | succ kk ih_77 =>
                  intro N_77 g4 x5_77 g6 hS hi0_77 hi1_77 hi2_77 hi3_77 hm_77
                  refine w_load (.iload 6) 79 (by decide +kernel) rfl rfl ?_
                  refine w_pushN 16 81 (by decide +kernel) ?_
                  refine w_cgeN 222 84 (by decide +kernel) (by omega) (by omega) (fun h15 => ?_) (fun h15 => ?_)
                  · skip
                    refine w_load (.iload_n 3) 223 (by decide +kernel) rfl rfl ?_
                    refine w_ine 231 226 (by decide +kernel) (fun h16 => ?_) (fun h16 => ?_)
                    · skip
                      refine w_load (.iload 5) 233 (by decide +kernel) rfl rfl ?_
                      exact w_ret (by decide +kernel) (hq _ N_77 hS (Or.inr ⟨_, _, by assumption, rfl, by assumption, rfl, Or.inr ⟨⟨by omega, by assumption⟩, Or.inr ⟨⟨by rw [← hc.2.1, ← hNM]; assumption, by rw [← hc.2.1, ← hNM]; assumption⟩, by have hgn : g6 = 16 := (by omega); rw [hgn] at hi1_77 hi3_77; first | exact Or.inl ⟨by assumption, by rw [hi1_77]⟩ | exact Or.inr ⟨by assumption, hi3_77⟩⟩⟩⟩))
                    · skip
                      refine w_load (.iload 4) 228 (by decide +kernel) rfl rfl ?_
                      refine w_goto 233 (by decide +kernel) ?_
                      exact w_ret (by decide +kernel) (hq _ N_77 hS (Or.inr ⟨_, _, by assumption, rfl, by assumption, rfl, Or.inr ⟨⟨by omega, by assumption⟩, Or.inr ⟨⟨by rw [← hc.2.1, ← hNM]; assumption, by rw [← hc.2.1, ← hNM]; assumption⟩, by have hgn : g6 = 16 := (by omega); rw [hgn] at hi1_77 hi3_77; first | exact Or.inl ⟨by assumption, by rw [hi1_77]⟩ | exact Or.inr ⟨by assumption, hi3_77⟩⟩⟩⟩))
                  · skip
                    refine w_load (.iload 6) 86 (by decide +kernel) rfl rfl ?_
                    refine w_pushN 4 87 (by decide +kernel) ?_
                    refine w_divN (g6 / 4) 88 (by decide +kernel) (by decide) (by decide) (by omega) rfl ?_
                    refine w_store (ls' := [.ref 76, .int (nI k2), .int (nI k5), .int w, .int (nI g4), .int x5_77, .int (nI g6), .int (nI ((g6 / 4))), .null, .null, .null]) (.istore 7) 90 (by decide +kernel) rfl rfl ?_
                    refine w_load (.iload 6) 92 (by decide +kernel) rfl rfl ?_
                    refine w_pushN 4 93 (by decide +kernel) ?_
                    refine w_remN (g6 % 4) 94 (by decide +kernel) (by decide) (by decide) (by omega) rfl ?_
                    refine w_store (ls' := [.ref 76, .int (nI k2), .int (nI k5), .int w, .int (nI g4), .int x5_77, .int (nI g6), .int (nI ((g6 / 4))), .int (nI ((g6 % 4))), .null, .null]) (.istore 8) 96 (by decide +kernel) rfl rfl ?_
                    refine w_pushN 1 97 (by decide +kernel) ?_
                    refine w_store (ls' := [.ref 76, .int (nI k2), .int (nI k5), .int w, .int (nI g4), .int x5_77, .int (nI g6), .int (nI ((g6 / 4))), .int (nI ((g6 % 4))), .int (nI 1), .null]) (.istore 9) 99 (by decide +kernel) rfl rfl ?_
                    refine w_pushN 0 100 (by decide +kernel) ?_
                    refine w_store (ls' := [.ref 76, .int (nI k2), .int (nI k5), .int w, .int (nI g4), .int x5_77, .int (nI g6), .int (nI ((g6 / 4))), .int (nI ((g6 % 4))), .int (nI 1), .int (nI 0)]) (.istore 10) 102 (by decide +kernel) rfl rfl ?_
                    have LP_102 : ∀ (kk : Nat) (N_102 : Mt) (g9 : Nat) (g10 : Nat), St (fun i k => (i = 78 ∧ 22 ≤ k) ∨ i = 83 ∨ i = 84 ∨ (i = 76 ∧ (k = 7 ∨ k = 11))) M N_102 → g9 ≤ 1 → g10 ≤ 4 → rsI (mnW n T pw od c k2 k5 k2) (mnW n T pw od c k2 k5 k5) g6 g10 g9 → 4 - g10 < kk → Wp d 186 102 [.ref 76, .int (nI k2), .int (nI k5), .int w, .int (nI g4), .int x5_77, .int (nI g6), .int (nI ((g6 / 4))), .int (nI ((g6 % 4))), .int (nI g9), .int (nI g10)] [] N_102 L Q := by
                      intro kk
                      induction kk with
                      | zero => intro N_102 g9 g10 hS hi0_102 hi1_102 hi2_102 hm_102; exact absurd hm_102 (Nat.not_lt_zero _)
                      | succ kk ih_102 =>
                        intro N_102 g9 g10 hS hi0_102 hi1_102 hi2_102 hm_102
                        refine w_load (.iload 10) 104 (by decide +kernel) rfl rfl ?_
                        refine w_pushN 4 105 (by decide +kernel) ?_
                        refine w_cgeN 176 108 (by decide +kernel) (by omega) (by omega) (fun h17 => ?_) (fun h17 => ?_)
                        · skip
                          have hR : rsE (mnW n T pw od c k2 k5 k2) (mnW n T pw od c k2 k5 k5) g6 g9 := by first | exact hi2_102.e4 (by omega) | exact hi2_102.e0 (by omega)
                          refine w_load (.iload 9) 178 (by decide +kernel) rfl rfl ?_
                          refine w_ieqN 197 181 (by decide +kernel) (by omega) (fun h18 => ?_) (fun h18 => ?_)
                          · skip
                            have hP : ¬ rsP n T pw od c k2 k5 g6 := hR.c0 (by omega)
                            refine w_load (.iload 5) 199 (by decide +kernel) rfl rfl ?_
                            refine w_store (ls' := [.ref 76, .int (nI k2), .int (nI k5), .int w, .int (nI g4), .int x5_77, .int (nI g6), .int (nI ((g6 / 4))), .int (nI ((g6 % 4))), .int (nI g9), .int (nI g10)]) (.istore 5) 201 (by decide +kernel) rfl rfl ?_
                            refine w_load (.iload 4) 203 (by decide +kernel) rfl rfl ?_
                            refine w_load (.iload 9) 205 (by decide +kernel) rfl rfl ?_
                            refine w_ieqN 212 208 (by decide +kernel) (by omega) (fun h19 => ?_) (fun h19 => ?_)
                            · skip
                              refine w_pushN 0 213 (by decide +kernel) ?_
                              refine w_addN g4 214 (by decide +kernel) (by omega) ?_
                              refine w_store (ls' := [.ref 76, .int (nI k2), .int (nI k5), .int w, .int (nI g4), .int x5_77, .int (nI g6), .int (nI ((g6 / 4))), .int (nI ((g6 % 4))), .int (nI g9), .int (nI g10)]) (.istore 4) 216 (by decide +kernel) rfl rfl ?_
                              refine w_iincN (z := 6) (g6 + 1) 219 (by decide +kernel) rfl (Nat.le_of_ble_eq_true rfl) rfl rfl ?_
                              show Wp _ _ _ [.ref 76, .int (nI k2), .int (nI k5), .int w, .int (nI g4), .int x5_77, .int (nI (g6 + 1)), .int (nI ((g6 / 4))), .int (nI ((g6 % 4))), .int (nI g9), .int (nI g10)] _ _ _ _
                              refine w_goto 77 (by decide +kernel) ?_
                              refine Wp.forget (ls := [.ref 76, .int (nI k2), .int (nI k5), .int w, .int (nI g4), .int x5_77, .int (nI (g6 + 1)), .null, .null, .null, .null]) ⟨Or.inl rfl, Or.inl rfl, Or.inl rfl, Or.inl rfl, Or.inl rfl, Or.inl rfl, Or.inl rfl, Or.inr ⟨rfl, rfl⟩, Or.inr ⟨rfl, rfl⟩, Or.inr ⟨rfl, rfl⟩, Or.inr ⟨rfl, rfl⟩, trivial⟩ ?_
                              exact ih_77 N_102 g4 _ (g6 + 1) hS (by first | omega | (rw [cnt_t hP]; omega) | (rw [cnt_f hP]; omega) | exact fst_new (by omega) hP rfl | exact fst_old hi3_77 (Or.inr hP) | exact fst_old hi3_77 (Or.inl (by omega))) (by first | omega | (rw [cnt_t hP]; omega) | (rw [cnt_f hP]; omega) | exact fst_new (by omega) hP rfl | exact fst_old hi3_77 (Or.inr hP) | exact fst_old hi3_77 (Or.inl (by omega))) (by first | omega | (rw [cnt_t hP]; omega) | (rw [cnt_f hP]; omega) | exact fst_new (by omega) hP rfl | exact fst_old hi3_77 (Or.inr hP) | exact fst_old hi3_77 (Or.inl (by omega))) (by first | omega | (rw [cnt_t hP]; omega) | (rw [cnt_f hP]; omega) | exact fst_new (by omega) hP rfl | exact fst_old hi3_77 (Or.inr hP) | exact fst_old hi3_77 (Or.inl (by omega))) (by omega)
                            · skip
                              refine w_pushN 1 209 (by decide +kernel) ?_
                              refine w_goto 213 (by decide +kernel) ?_
                              refine w_addN (g4 + 1) 214 (by decide +kernel) (by omega) ?_
                              refine w_store (ls' := [.ref 76, .int (nI k2), .int (nI k5), .int w, .int (nI (g4 + 1)), .int x5_77, .int (nI g6), .int (nI ((g6 / 4))), .int (nI ((g6 % 4))), .int (nI g9), .int (nI g10)]) (.istore 4) 216 (by decide +kernel) rfl rfl ?_
                              refine w_iincN (z := 6) (g6 + 1) 219 (by decide +kernel) rfl (Nat.le_of_ble_eq_true rfl) rfl rfl ?_
                              show Wp _ _ _ [.ref 76, .int (nI k2), .int (nI k5), .int w, .int (nI (g4 + 1)), .int x5_77, .int (nI (g6 + 1)), .int (nI ((g6 / 4))), .int (nI ((g6 % 4))), .int (nI g9), .int (nI g10)] _ _ _ _
                              refine w_goto 77 (by decide +kernel) ?_
                              refine Wp.forget (ls := [.ref 76, .int (nI k2), .int (nI k5), .int w, .int (nI (g4 + 1)), .int x5_77, .int (nI (g6 + 1)), .null, .null, .null, .null]) ⟨Or.inl rfl, Or.inl rfl, Or.inl rfl, Or.inl rfl, Or.inl rfl, Or.inl rfl, Or.inl rfl, Or.inr ⟨rfl, rfl⟩, Or.inr ⟨rfl, rfl⟩, Or.inr ⟨rfl, rfl⟩, Or.inr ⟨rfl, rfl⟩, trivial⟩ ?_
                              exact ih_77 N_102 (g4 + 1) _ (g6 + 1) hS (by first | omega | (rw [cnt_t hP]; omega) | (rw [cnt_f hP]; omega) | exact fst_new (by omega) hP rfl | exact fst_old hi3_77 (Or.inr hP) | exact fst_old hi3_77 (Or.inl (by omega))) (by first | omega | (rw [cnt_t hP]; omega) | (rw [cnt_f hP]; omega) | exact fst_new (by omega) hP rfl | exact fst_old hi3_77 (Or.inr hP) | exact fst_old hi3_77 (Or.inl (by omega))) (by first | omega | (rw [cnt_t hP]; omega) | (rw [cnt_f hP]; omega) | exact fst_new (by omega) hP rfl | exact fst_old hi3_77 (Or.inr hP) | exact fst_old hi3_77 (Or.inl (by omega))) (by first | omega | (rw [cnt_t hP]; omega) | (rw [cnt_f hP]; omega) | exact fst_new (by omega) hP rfl | exact fst_old hi3_77 (Or.inr hP) | exact fst_old hi3_77 (Or.inl (by omega))) (by omega)
                          · skip
                            have hP : rsP n T pw od c k2 k5 g6 := hR.c1 (by omega)
                            refine w_load (.iload 4) 183 (by decide +kernel) rfl rfl ?_
                            refine w_ineN 197 186 (by decide +kernel) (by omega) (fun h20 => ?_) (fun h20 => ?_)
                            · skip
                              refine w_load (.iload 5) 199 (by decide +kernel) rfl rfl ?_
                              refine w_store (ls' := [.ref 76, .int (nI k2), .int (nI k5), .int w, .int (nI g4), .int x5_77, .int (nI g6), .int (nI ((g6 / 4))), .int (nI ((g6 % 4))), .int (nI g9), .int (nI g10)]) (.istore 5) 201 (by decide +kernel) rfl rfl ?_
                              refine w_load (.iload 4) 203 (by decide +kernel) rfl rfl ?_
                              refine w_load (.iload 9) 205 (by decide +kernel) rfl rfl ?_
                              refine w_ieqN 212 208 (by decide +kernel) (by omega) (fun h21 => ?_) (fun h21 => ?_)
                              · skip
                                refine w_pushN 0 213 (by decide +kernel) ?_
                                refine w_addN g4 214 (by decide +kernel) (by omega) ?_
                                refine w_store (ls' := [.ref 76, .int (nI k2), .int (nI k5), .int w, .int (nI g4), .int x5_77, .int (nI g6), .int (nI ((g6 / 4))), .int (nI ((g6 % 4))), .int (nI g9), .int (nI g10)]) (.istore 4) 216 (by decide +kernel) rfl rfl ?_
                                refine w_iincN (z := 6) (g6 + 1) 219 (by decide +kernel) rfl (Nat.le_of_ble_eq_true rfl) rfl rfl ?_
                                show Wp _ _ _ [.ref 76, .int (nI k2), .int (nI k5), .int w, .int (nI g4), .int x5_77, .int (nI (g6 + 1)), .int (nI ((g6 / 4))), .int (nI ((g6 % 4))), .int (nI g9), .int (nI g10)] _ _ _ _
                                refine w_goto 77 (by decide +kernel) ?_
                                refine Wp.forget (ls := [.ref 76, .int (nI k2), .int (nI k5), .int w, .int (nI g4), .int x5_77, .int (nI (g6 + 1)), .null, .null, .null, .null]) ⟨Or.inl rfl, Or.inl rfl, Or.inl rfl, Or.inl rfl, Or.inl rfl, Or.inl rfl, Or.inl rfl, Or.inr ⟨rfl, rfl⟩, Or.inr ⟨rfl, rfl⟩, Or.inr ⟨rfl, rfl⟩, Or.inr ⟨rfl, rfl⟩, trivial⟩ ?_
                                exact ih_77 N_102 g4 _ (g6 + 1) hS (by first | omega | (rw [cnt_t hP]; omega) | (rw [cnt_f hP]; omega) | exact fst_new (by omega) hP rfl | exact fst_old hi3_77 (Or.inr hP) | exact fst_old hi3_77 (Or.inl (by omega))) (by first | omega | (rw [cnt_t hP]; omega) | (rw [cnt_f hP]; omega) | exact fst_new (by omega) hP rfl | exact fst_old hi3_77 (Or.inr hP) | exact fst_old hi3_77 (Or.inl (by omega))) (by first | omega | (rw [cnt_t hP]; omega) | (rw [cnt_f hP]; omega) | exact fst_new (by omega) hP rfl | exact fst_old hi3_77 (Or.inr hP) | exact fst_old hi3_77 (Or.inl (by omega))) (by first | omega | (rw [cnt_t hP]; omega) | (rw [cnt_f hP]; omega) | exact fst_new (by omega) hP rfl | exact fst_old hi3_77 (Or.inr hP) | exact fst_old hi3_77 (Or.inl (by omega))) (by omega)
                              · skip
                                refine w_pushN 1 209 (by decide +kernel) ?_
                                refine w_goto 213 (by decide +kernel) ?_
                                refine w_addN (g4 + 1) 214 (by decide +kernel) (by omega) ?_
                                refine w_store (ls' := [.ref 76, .int (nI k2), .int (nI k5), .int w, .int (nI (g4 + 1)), .int x5_77, .int (nI g6), .int (nI ((g6 / 4))), .int (nI ((g6 % 4))), .int (nI g9), .int (nI g10)]) (.istore 4) 216 (by decide +kernel) rfl rfl ?_
                                refine w_iincN (z := 6) (g6 + 1) 219 (by decide +kernel) rfl (Nat.le_of_ble_eq_true rfl) rfl rfl ?_
                                show Wp _ _ _ [.ref 76, .int (nI k2), .int (nI k5), .int w, .int (nI (g4 + 1)), .int x5_77, .int (nI (g6 + 1)), .int (nI ((g6 / 4))), .int (nI ((g6 % 4))), .int (nI g9), .int (nI g10)] _ _ _ _
                                refine w_goto 77 (by decide +kernel) ?_
                                refine Wp.forget (ls := [.ref 76, .int (nI k2), .int (nI k5), .int w, .int (nI (g4 + 1)), .int x5_77, .int (nI (g6 + 1)), .null, .null, .null, .null]) ⟨Or.inl rfl, Or.inl rfl, Or.inl rfl, Or.inl rfl, Or.inl rfl, Or.inl rfl, Or.inl rfl, Or.inr ⟨rfl, rfl⟩, Or.inr ⟨rfl, rfl⟩, Or.inr ⟨rfl, rfl⟩, Or.inr ⟨rfl, rfl⟩, trivial⟩ ?_
                                exact ih_77 N_102 (g4 + 1) _ (g6 + 1) hS (by first | omega | (rw [cnt_t hP]; omega) | (rw [cnt_f hP]; omega) | exact fst_new (by omega) hP rfl | exact fst_old hi3_77 (Or.inr hP) | exact fst_old hi3_77 (Or.inl (by omega))) (by first | omega | (rw [cnt_t hP]; omega) | (rw [cnt_f hP]; omega) | exact fst_new (by omega) hP rfl | exact fst_old hi3_77 (Or.inr hP) | exact fst_old hi3_77 (Or.inl (by omega))) (by first | omega | (rw [cnt_t hP]; omega) | (rw [cnt_f hP]; omega) | exact fst_new (by omega) hP rfl | exact fst_old hi3_77 (Or.inr hP) | exact fst_old hi3_77 (Or.inl (by omega))) (by first | omega | (rw [cnt_t hP]; omega) | (rw [cnt_f hP]; omega) | exact fst_new (by omega) hP rfl | exact fst_old hi3_77 (Or.inr hP) | exact fst_old hi3_77 (Or.inl (by omega))) (by omega)
                            · skip
                              refine w_pushN 10 188 (by decide +kernel) ?_
                              refine w_load (.iload 7) 190 (by decide +kernel) rfl rfl ?_
                              refine w_mulN (10 * ((g6 / 4))) 191 (by decide +kernel) rfl ?_
                              refine w_load (.iload 8) 193 (by decide +kernel) rfl rfl ?_
                              refine w_addN (10 * ((g6 / 4)) + (g6 % 4)) 194 (by decide +kernel) (by omega) ?_
                              refine w_goto 199 (by decide +kernel) ?_
                              refine w_store (ls' := [.ref 76, .int (nI k2), .int (nI k5), .int w, .int (nI g4), .int (nI (10 * ((g6 / 4)) + (g6 % 4))), .int (nI g6), .int (nI ((g6 / 4))), .int (nI ((g6 % 4))), .int (nI g9), .int (nI g10)]) (.istore 5) 201 (by decide +kernel) rfl rfl ?_
                              refine w_load (.iload 4) 203 (by decide +kernel) rfl rfl ?_
                              refine w_load (.iload 9) 205 (by decide +kernel) rfl rfl ?_
                              refine w_ieqN 212 208 (by decide +kernel) (by omega) (fun h22 => ?_) (fun h22 => ?_)
                              · skip
                                refine w_pushN 0 213 (by decide +kernel) ?_
                                refine w_addN g4 214 (by decide +kernel) (by omega) ?_
                                refine w_store (ls' := [.ref 76, .int (nI k2), .int (nI k5), .int w, .int (nI g4), .int (nI (10 * ((g6 / 4)) + (g6 % 4))), .int (nI g6), .int (nI ((g6 / 4))), .int (nI ((g6 % 4))), .int (nI g9), .int (nI g10)]) (.istore 4) 216 (by decide +kernel) rfl rfl ?_
                                refine w_iincN (z := 6) (g6 + 1) 219 (by decide +kernel) rfl (Nat.le_of_ble_eq_true rfl) rfl rfl ?_
                                show Wp _ _ _ [.ref 76, .int (nI k2), .int (nI k5), .int w, .int (nI g4), .int (nI (10 * ((g6 / 4)) + (g6 % 4))), .int (nI (g6 + 1)), .int (nI ((g6 / 4))), .int (nI ((g6 % 4))), .int (nI g9), .int (nI g10)] _ _ _ _
                                refine w_goto 77 (by decide +kernel) ?_
                                refine Wp.forget (ls := [.ref 76, .int (nI k2), .int (nI k5), .int w, .int (nI g4), .int (nI (10 * ((g6 / 4)) + (g6 % 4))), .int (nI (g6 + 1)), .null, .null, .null, .null]) ⟨Or.inl rfl, Or.inl rfl, Or.inl rfl, Or.inl rfl, Or.inl rfl, Or.inl rfl, Or.inl rfl, Or.inr ⟨rfl, rfl⟩, Or.inr ⟨rfl, rfl⟩, Or.inr ⟨rfl, rfl⟩, Or.inr ⟨rfl, rfl⟩, trivial⟩ ?_
                                exact ih_77 N_102 g4 _ (g6 + 1) hS (by first | omega | (rw [cnt_t hP]; omega) | (rw [cnt_f hP]; omega) | exact fst_new (by omega) hP rfl | exact fst_old hi3_77 (Or.inr hP) | exact fst_old hi3_77 (Or.inl (by omega))) (by first | omega | (rw [cnt_t hP]; omega) | (rw [cnt_f hP]; omega) | exact fst_new (by omega) hP rfl | exact fst_old hi3_77 (Or.inr hP) | exact fst_old hi3_77 (Or.inl (by omega))) (by first | omega | (rw [cnt_t hP]; omega) | (rw [cnt_f hP]; omega) | exact fst_new (by omega) hP rfl | exact fst_old hi3_77 (Or.inr hP) | exact fst_old hi3_77 (Or.inl (by omega))) (by first | omega | (rw [cnt_t hP]; omega) | (rw [cnt_f hP]; omega) | exact fst_new (by omega) hP rfl | exact fst_old hi3_77 (Or.inr hP) | exact fst_old hi3_77 (Or.inl (by omega))) (by omega)
                              · skip
                                refine w_pushN 1 209 (by decide +kernel) ?_
                                refine w_goto 213 (by decide +kernel) ?_
                                refine w_addN (g4 + 1) 214 (by decide +kernel) (by omega) ?_
                                refine w_store (ls' := [.ref 76, .int (nI k2), .int (nI k5), .int w, .int (nI (g4 + 1)), .int (nI (10 * ((g6 / 4)) + (g6 % 4))), .int (nI g6), .int (nI ((g6 / 4))), .int (nI ((g6 % 4))), .int (nI g9), .int (nI g10)]) (.istore 4) 216 (by decide +kernel) rfl rfl ?_
                                refine w_iincN (z := 6) (g6 + 1) 219 (by decide +kernel) rfl (Nat.le_of_ble_eq_true rfl) rfl rfl ?_
                                show Wp _ _ _ [.ref 76, .int (nI k2), .int (nI k5), .int w, .int (nI (g4 + 1)), .int (nI (10 * ((g6 / 4)) + (g6 % 4))), .int (nI (g6 + 1)), .int (nI ((g6 / 4))), .int (nI ((g6 % 4))), .int (nI g9), .int (nI g10)] _ _ _ _
                                refine w_goto 77 (by decide +kernel) ?_
                                refine Wp.forget (ls := [.ref 76, .int (nI k2), .int (nI k5), .int w, .int (nI (g4 + 1)), .int (nI (10 * ((g6 / 4)) + (g6 % 4))), .int (nI (g6 + 1)), .null, .null, .null, .null]) ⟨Or.inl rfl, Or.inl rfl, Or.inl rfl, Or.inl rfl, Or.inl rfl, Or.inl rfl, Or.inl rfl, Or.inr ⟨rfl, rfl⟩, Or.inr ⟨rfl, rfl⟩, Or.inr ⟨rfl, rfl⟩, Or.inr ⟨rfl, rfl⟩, trivial⟩ ?_
                                exact ih_77 N_102 (g4 + 1) _ (g6 + 1) hS (by first | omega | (rw [cnt_t hP]; omega) | (rw [cnt_f hP]; omega) | exact fst_new (by omega) hP rfl | exact fst_old hi3_77 (Or.inr hP) | exact fst_old hi3_77 (Or.inl (by omega))) (by first | omega | (rw [cnt_t hP]; omega) | (rw [cnt_f hP]; omega) | exact fst_new (by omega) hP rfl | exact fst_old hi3_77 (Or.inr hP) | exact fst_old hi3_77 (Or.inl (by omega))) (by first | omega | (rw [cnt_t hP]; omega) | (rw [cnt_f hP]; omega) | exact fst_new (by omega) hP rfl | exact fst_old hi3_77 (Or.inr hP) | exact fst_old hi3_77 (Or.inl (by omega))) (by first | omega | (rw [cnt_t hP]; omega) | (rw [cnt_f hP]; omega) | exact fst_new (by omega) hP rfl | exact fst_old hi3_77 (Or.inr hP) | exact fst_old hi3_77 (Or.inl (by omega))) (by omega)
                        · skip
                          refine w_load (.iload 9) 110 (by decide +kernel) rfl rfl ?_
                          refine w_ieqN 176 113 (by decide +kernel) (by omega) (fun h23 => ?_) (fun h23 => ?_)
                          · skip
                            have hR : rsE (mnW n T pw od c k2 k5 k2) (mnW n T pw od c k2 k5 k5) g6 g9 := by first | exact hi2_102.e4 (by omega) | exact hi2_102.e0 (by omega)
                            refine w_load (.iload 9) 178 (by decide +kernel) rfl rfl ?_
                            refine w_ieqN 197 181 (by decide +kernel) (by omega) (fun h24 => ?_) (fun h24 => ?_)
                            · skip
                              have hP : ¬ rsP n T pw od c k2 k5 g6 := hR.c0 (by omega)
                              refine w_load (.iload 5) 199 (by decide +kernel) rfl rfl ?_
                              refine w_store (ls' := [.ref 76, .int (nI k2), .int (nI k5), .int w, .int (nI g4), .int x5_77, .int (nI g6), .int (nI ((g6 / 4))), .int (nI ((g6 % 4))), .int (nI g9), .int (nI g10)]) (.istore 5) 201 (by decide +kernel) rfl rfl ?_
                              refine w_load (.iload 4) 203 (by decide +kernel) rfl rfl ?_
                              refine w_load (.iload 9) 205 (by decide +kernel) rfl rfl ?_
                              refine w_ieqN 212 208 (by decide +kernel) (by omega) (fun h25 => ?_) (fun h25 => ?_)
                              · skip
                                refine w_pushN 0 213 (by decide +kernel) ?_
                                refine w_addN g4 214 (by decide +kernel) (by omega) ?_
                                refine w_store (ls' := [.ref 76, .int (nI k2), .int (nI k5), .int w, .int (nI g4), .int x5_77, .int (nI g6), .int (nI ((g6 / 4))), .int (nI ((g6 % 4))), .int (nI g9), .int (nI g10)]) (.istore 4) 216 (by decide +kernel) rfl rfl ?_
                                refine w_iincN (z := 6) (g6 + 1) 219 (by decide +kernel) rfl (Nat.le_of_ble_eq_true rfl) rfl rfl ?_
                                show Wp _ _ _ [.ref 76, .int (nI k2), .int (nI k5), .int w, .int (nI g4), .int x5_77, .int (nI (g6 + 1)), .int (nI ((g6 / 4))), .int (nI ((g6 % 4))), .int (nI g9), .int (nI g10)] _ _ _ _
                                refine w_goto 77 (by decide +kernel) ?_
                                refine Wp.forget (ls := [.ref 76, .int (nI k2), .int (nI k5), .int w, .int (nI g4), .int x5_77, .int (nI (g6 + 1)), .null, .null, .null, .null]) ⟨Or.inl rfl, Or.inl rfl, Or.inl rfl, Or.inl rfl, Or.inl rfl, Or.inl rfl, Or.inl rfl, Or.inr ⟨rfl, rfl⟩, Or.inr ⟨rfl, rfl⟩, Or.inr ⟨rfl, rfl⟩, Or.inr ⟨rfl, rfl⟩, trivial⟩ ?_
                                exact ih_77 N_102 g4 _ (g6 + 1) hS (by first | omega | (rw [cnt_t hP]; omega) | (rw [cnt_f hP]; omega) | exact fst_new (by omega) hP rfl | exact fst_old hi3_77 (Or.inr hP) | exact fst_old hi3_77 (Or.inl (by omega))) (by first | omega | (rw [cnt_t hP]; omega) | (rw [cnt_f hP]; omega) | exact fst_new (by omega) hP rfl | exact fst_old hi3_77 (Or.inr hP) | exact fst_old hi3_77 (Or.inl (by omega))) (by first | omega | (rw [cnt_t hP]; omega) | (rw [cnt_f hP]; omega) | exact fst_new (by omega) hP rfl | exact fst_old hi3_77 (Or.inr hP) | exact fst_old hi3_77 (Or.inl (by omega))) (by first | omega | (rw [cnt_t hP]; omega) | (rw [cnt_f hP]; omega) | exact fst_new (by omega) hP rfl | exact fst_old hi3_77 (Or.inr hP) | exact fst_old hi3_77 (Or.inl (by omega))) (by omega)
                              · skip
                                refine w_pushN 1 209 (by decide +kernel) ?_
                                refine w_goto 213 (by decide +kernel) ?_
                                refine w_addN (g4 + 1) 214 (by decide +kernel) (by omega) ?_
                                refine w_store (ls' := [.ref 76, .int (nI k2), .int (nI k5), .int w, .int (nI (g4 + 1)), .int x5_77, .int (nI g6), .int (nI ((g6 / 4))), .int (nI ((g6 % 4))), .int (nI g9), .int (nI g10)]) (.istore 4) 216 (by decide +kernel) rfl rfl ?_
                                refine w_iincN (z := 6) (g6 + 1) 219 (by decide +kernel) rfl (Nat.le_of_ble_eq_true rfl) rfl rfl ?_
                                show Wp _ _ _ [.ref 76, .int (nI k2), .int (nI k5), .int w, .int (nI (g4 + 1)), .int x5_77, .int (nI (g6 + 1)), .int (nI ((g6 / 4))), .int (nI ((g6 % 4))), .int (nI g9), .int (nI g10)] _ _ _ _
                                refine w_goto 77 (by decide +kernel) ?_
                                refine Wp.forget (ls := [.ref 76, .int (nI k2), .int (nI k5), .int w, .int (nI (g4 + 1)), .int x5_77, .int (nI (g6 + 1)), .null, .null, .null, .null]) ⟨Or.inl rfl, Or.inl rfl, Or.inl rfl, Or.inl rfl, Or.inl rfl, Or.inl rfl, Or.inl rfl, Or.inr ⟨rfl, rfl⟩, Or.inr ⟨rfl, rfl⟩, Or.inr ⟨rfl, rfl⟩, Or.inr ⟨rfl, rfl⟩, trivial⟩ ?_
                                exact ih_77 N_102 (g4 + 1) _ (g6 + 1) hS (by first | omega | (rw [cnt_t hP]; omega) | (rw [cnt_f hP]; omega) | exact fst_new (by omega) hP rfl | exact fst_old hi3_77 (Or.inr hP) | exact fst_old hi3_77 (Or.inl (by omega))) (by first | omega | (rw [cnt_t hP]; omega) | (rw [cnt_f hP]; omega) | exact fst_new (by omega) hP rfl | exact fst_old hi3_77 (Or.inr hP) | exact fst_old hi3_77 (Or.inl (by omega))) (by first | omega | (rw [cnt_t hP]; omega) | (rw [cnt_f hP]; omega) | exact fst_new (by omega) hP rfl | exact fst_old hi3_77 (Or.inr hP) | exact fst_old hi3_77 (Or.inl (by omega))) (by first | omega | (rw [cnt_t hP]; omega) | (rw [cnt_f hP]; omega) | exact fst_new (by omega) hP rfl | exact fst_old hi3_77 (Or.inr hP) | exact fst_old hi3_77 (Or.inl (by omega))) (by omega)
                            · skip
                              have hP : rsP n T pw od c k2 k5 g6 := hR.c1 (by omega)
                              refine w_load (.iload 4) 183 (by decide +kernel) rfl rfl ?_
                              refine w_ineN 197 186 (by decide +kernel) (by omega) (fun h26 => ?_) (fun h26 => ?_)
                              · skip
                                refine w_load (.iload 5) 199 (by decide +kernel) rfl rfl ?_
                                refine w_store (ls' := [.ref 76, .int (nI k2), .int (nI k5), .int w, .int (nI g4), .int x5_77, .int (nI g6), .int (nI ((g6 / 4))), .int (nI ((g6 % 4))), .int (nI g9), .int (nI g10)]) (.istore 5) 201 (by decide +kernel) rfl rfl ?_
                                refine w_load (.iload 4) 203 (by decide +kernel) rfl rfl ?_
                                refine w_load (.iload 9) 205 (by decide +kernel) rfl rfl ?_
                                refine w_ieqN 212 208 (by decide +kernel) (by omega) (fun h27 => ?_) (fun h27 => ?_)
                                · skip
                                  refine w_pushN 0 213 (by decide +kernel) ?_
                                  refine w_addN g4 214 (by decide +kernel) (by omega) ?_
                                  refine w_store (ls' := [.ref 76, .int (nI k2), .int (nI k5), .int w, .int (nI g4), .int x5_77, .int (nI g6), .int (nI ((g6 / 4))), .int (nI ((g6 % 4))), .int (nI g9), .int (nI g10)]) (.istore 4) 216 (by decide +kernel) rfl rfl ?_
                                  refine w_iincN (z := 6) (g6 + 1) 219 (by decide +kernel) rfl (Nat.le_of_ble_eq_true rfl) rfl rfl ?_
                                  show Wp _ _ _ [.ref 76, .int (nI k2), .int (nI k5), .int w, .int (nI g4), .int x5_77, .int (nI (g6 + 1)), .int (nI ((g6 / 4))), .int (nI ((g6 % 4))), .int (nI g9), .int (nI g10)] _ _ _ _
                                  refine w_goto 77 (by decide +kernel) ?_
                                  refine Wp.forget (ls := [.ref 76, .int (nI k2), .int (nI k5), .int w, .int (nI g4), .int x5_77, .int (nI (g6 + 1)), .null, .null, .null, .null]) ⟨Or.inl rfl, Or.inl rfl, Or.inl rfl, Or.inl rfl, Or.inl rfl, Or.inl rfl, Or.inl rfl, Or.inr ⟨rfl, rfl⟩, Or.inr ⟨rfl, rfl⟩, Or.inr ⟨rfl, rfl⟩, Or.inr ⟨rfl, rfl⟩, trivial⟩ ?_
                                  exact ih_77 N_102 g4 _ (g6 + 1) hS (by first | omega | (rw [cnt_t hP]; omega) | (rw [cnt_f hP]; omega) | exact fst_new (by omega) hP rfl | exact fst_old hi3_77 (Or.inr hP) | exact fst_old hi3_77 (Or.inl (by omega))) (by first | omega | (rw [cnt_t hP]; omega) | (rw [cnt_f hP]; omega) | exact fst_new (by omega) hP rfl | exact fst_old hi3_77 (Or.inr hP) | exact fst_old hi3_77 (Or.inl (by omega))) (by first | omega | (rw [cnt_t hP]; omega) | (rw [cnt_f hP]; omega) | exact fst_new (by omega) hP rfl | exact fst_old hi3_77 (Or.inr hP) | exact fst_old hi3_77 (Or.inl (by omega))) (by first | omega | (rw [cnt_t hP]; omega) | (rw [cnt_f hP]; omega) | exact fst_new (by omega) hP rfl | exact fst_old hi3_77 (Or.inr hP) | exact fst_old hi3_77 (Or.inl (by omega))) (by omega)
                                · skip
                                  refine w_pushN 1 209 (by decide +kernel) ?_
                                  refine w_goto 213 (by decide +kernel) ?_
                                  refine w_addN (g4 + 1) 214 (by decide +kernel) (by omega) ?_
                                  refine w_store (ls' := [.ref 76, .int (nI k2), .int (nI k5), .int w, .int (nI (g4 + 1)), .int x5_77, .int (nI g6), .int (nI ((g6 / 4))), .int (nI ((g6 % 4))), .int (nI g9), .int (nI g10)]) (.istore 4) 216 (by decide +kernel) rfl rfl ?_
                                  refine w_iincN (z := 6) (g6 + 1) 219 (by decide +kernel) rfl (Nat.le_of_ble_eq_true rfl) rfl rfl ?_
                                  show Wp _ _ _ [.ref 76, .int (nI k2), .int (nI k5), .int w, .int (nI (g4 + 1)), .int x5_77, .int (nI (g6 + 1)), .int (nI ((g6 / 4))), .int (nI ((g6 % 4))), .int (nI g9), .int (nI g10)] _ _ _ _
                                  refine w_goto 77 (by decide +kernel) ?_
                                  refine Wp.forget (ls := [.ref 76, .int (nI k2), .int (nI k5), .int w, .int (nI (g4 + 1)), .int x5_77, .int (nI (g6 + 1)), .null, .null, .null, .null]) ⟨Or.inl rfl, Or.inl rfl, Or.inl rfl, Or.inl rfl, Or.inl rfl, Or.inl rfl, Or.inl rfl, Or.inr ⟨rfl, rfl⟩, Or.inr ⟨rfl, rfl⟩, Or.inr ⟨rfl, rfl⟩, Or.inr ⟨rfl, rfl⟩, trivial⟩ ?_
                                  exact ih_77 N_102 (g4 + 1) _ (g6 + 1) hS (by first | omega | (rw [cnt_t hP]; omega) | (rw [cnt_f hP]; omega) | exact fst_new (by omega) hP rfl | exact fst_old hi3_77 (Or.inr hP) | exact fst_old hi3_77 (Or.inl (by omega))) (by first | omega | (rw [cnt_t hP]; omega) | (rw [cnt_f hP]; omega) | exact fst_new (by omega) hP rfl | exact fst_old hi3_77 (Or.inr hP) | exact fst_old hi3_77 (Or.inl (by omega))) (by first | omega | (rw [cnt_t hP]; omega) | (rw [cnt_f hP]; omega) | exact fst_new (by omega) hP rfl | exact fst_old hi3_77 (Or.inr hP) | exact fst_old hi3_77 (Or.inl (by omega))) (by first | omega | (rw [cnt_t hP]; omega) | (rw [cnt_f hP]; omega) | exact fst_new (by omega) hP rfl | exact fst_old hi3_77 (Or.inr hP) | exact fst_old hi3_77 (Or.inl (by omega))) (by omega)
                              · skip
                                refine w_pushN 10 188 (by decide +kernel) ?_
                                refine w_load (.iload 7) 190 (by decide +kernel) rfl rfl ?_
                                refine w_mulN (10 * ((g6 / 4))) 191 (by decide +kernel) rfl ?_
                                refine w_load (.iload 8) 193 (by decide +kernel) rfl rfl ?_
                                refine w_addN (10 * ((g6 / 4)) + (g6 % 4)) 194 (by decide +kernel) (by omega) ?_
                                refine w_goto 199 (by decide +kernel) ?_
                                refine w_store (ls' := [.ref 76, .int (nI k2), .int (nI k5), .int w, .int (nI g4), .int (nI (10 * ((g6 / 4)) + (g6 % 4))), .int (nI g6), .int (nI ((g6 / 4))), .int (nI ((g6 % 4))), .int (nI g9), .int (nI g10)]) (.istore 5) 201 (by decide +kernel) rfl rfl ?_
                                refine w_load (.iload 4) 203 (by decide +kernel) rfl rfl ?_
                                refine w_load (.iload 9) 205 (by decide +kernel) rfl rfl ?_
                                refine w_ieqN 212 208 (by decide +kernel) (by omega) (fun h28 => ?_) (fun h28 => ?_)
                                · skip
                                  refine w_pushN 0 213 (by decide +kernel) ?_
                                  refine w_addN g4 214 (by decide +kernel) (by omega) ?_
                                  refine w_store (ls' := [.ref 76, .int (nI k2), .int (nI k5), .int w, .int (nI g4), .int (nI (10 * ((g6 / 4)) + (g6 % 4))), .int (nI g6), .int (nI ((g6 / 4))), .int (nI ((g6 % 4))), .int (nI g9), .int (nI g10)]) (.istore 4) 216 (by decide +kernel) rfl rfl ?_
                                  refine w_iincN (z := 6) (g6 + 1) 219 (by decide +kernel) rfl (Nat.le_of_ble_eq_true rfl) rfl rfl ?_
                                  show Wp _ _ _ [.ref 76, .int (nI k2), .int (nI k5), .int w, .int (nI g4), .int (nI (10 * ((g6 / 4)) + (g6 % 4))), .int (nI (g6 + 1)), .int (nI ((g6 / 4))), .int (nI ((g6 % 4))), .int (nI g9), .int (nI g10)] _ _ _ _
                                  refine w_goto 77 (by decide +kernel) ?_
                                  refine Wp.forget (ls := [.ref 76, .int (nI k2), .int (nI k5), .int w, .int (nI g4), .int (nI (10 * ((g6 / 4)) + (g6 % 4))), .int (nI (g6 + 1)), .null, .null, .null, .null]) ⟨Or.inl rfl, Or.inl rfl, Or.inl rfl, Or.inl rfl, Or.inl rfl, Or.inl rfl, Or.inl rfl, Or.inr ⟨rfl, rfl⟩, Or.inr ⟨rfl, rfl⟩, Or.inr ⟨rfl, rfl⟩, Or.inr ⟨rfl, rfl⟩, trivial⟩ ?_
                                  exact ih_77 N_102 g4 _ (g6 + 1) hS (by first | omega | (rw [cnt_t hP]; omega) | (rw [cnt_f hP]; omega) | exact fst_new (by omega) hP rfl | exact fst_old hi3_77 (Or.inr hP) | exact fst_old hi3_77 (Or.inl (by omega))) (by first | omega | (rw [cnt_t hP]; omega) | (rw [cnt_f hP]; omega) | exact fst_new (by omega) hP rfl | exact fst_old hi3_77 (Or.inr hP) | exact fst_old hi3_77 (Or.inl (by omega))) (by first | omega | (rw [cnt_t hP]; omega) | (rw [cnt_f hP]; omega) | exact fst_new (by omega) hP rfl | exact fst_old hi3_77 (Or.inr hP) | exact fst_old hi3_77 (Or.inl (by omega))) (by first | omega | (rw [cnt_t hP]; omega) | (rw [cnt_f hP]; omega) | exact fst_new (by omega) hP rfl | exact fst_old hi3_77 (Or.inr hP) | exact fst_old hi3_77 (Or.inl (by omega))) (by omega)
                                · skip
                                  refine w_pushN 1 209 (by decide +kernel) ?_
                                  refine w_goto 213 (by decide +kernel) ?_
                                  refine w_addN (g4 + 1) 214 (by decide +kernel) (by omega) ?_
                                  refine w_store (ls' := [.ref 76, .int (nI k2), .int (nI k5), .int w, .int (nI (g4 + 1)), .int (nI (10 * ((g6 / 4)) + (g6 % 4))), .int (nI g6), .int (nI ((g6 / 4))), .int (nI ((g6 % 4))), .int (nI g9), .int (nI g10)]) (.istore 4) 216 (by decide +kernel) rfl rfl ?_
                                  refine w_iincN (z := 6) (g6 + 1) 219 (by decide +kernel) rfl (Nat.le_of_ble_eq_true rfl) rfl rfl ?_
                                  show Wp _ _ _ [.ref 76, .int (nI k2), .int (nI k5), .int w, .int (nI (g4 + 1)), .int (nI (10 * ((g6 / 4)) + (g6 % 4))), .int (nI (g6 + 1)), .int (nI ((g6 / 4))), .int (nI ((g6 % 4))), .int (nI g9), .int (nI g10)] _ _ _ _
                                  refine w_goto 77 (by decide +kernel) ?_
                                  refine Wp.forget (ls := [.ref 76, .int (nI k2), .int (nI k5), .int w, .int (nI (g4 + 1)), .int (nI (10 * ((g6 / 4)) + (g6 % 4))), .int (nI (g6 + 1)), .null, .null, .null, .null]) ⟨Or.inl rfl, Or.inl rfl, Or.inl rfl, Or.inl rfl, Or.inl rfl, Or.inl rfl, Or.inl rfl, Or.inr ⟨rfl, rfl⟩, Or.inr ⟨rfl, rfl⟩, Or.inr ⟨rfl, rfl⟩, Or.inr ⟨rfl, rfl⟩, trivial⟩ ?_
                                  exact ih_77 N_102 (g4 + 1) _ (g6 + 1) hS (by first | omega | (rw [cnt_t hP]; omega) | (rw [cnt_f hP]; omega) | exact fst_new (by omega) hP rfl | exact fst_old hi3_77 (Or.inr hP) | exact fst_old hi3_77 (Or.inl (by omega))) (by first | omega | (rw [cnt_t hP]; omega) | (rw [cnt_f hP]; omega) | exact fst_new (by omega) hP rfl | exact fst_old hi3_77 (Or.inr hP) | exact fst_old hi3_77 (Or.inl (by omega))) (by first | omega | (rw [cnt_t hP]; omega) | (rw [cnt_f hP]; omega) | exact fst_new (by omega) hP rfl | exact fst_old hi3_77 (Or.inr hP) | exact fst_old hi3_77 (Or.inl (by omega))) (by first | omega | (rw [cnt_t hP]; omega) | (rw [cnt_f hP]; omega) | exact fst_new (by omega) hP rfl | exact fst_old hi3_77 (Or.inr hP) | exact fst_old hi3_77 (Or.inl (by omega))) (by omega)
                          · skip
                            refine w_load (.aload_n 0) 114 (by decide +kernel) rfl rfl ?_
                            refine w_load (.iload_n 1) 115 (by decide +kernel) rfl rfl ?_
                            refine w_load (.iload 10) 117 (by decide +kernel) rfl rfl ?_
                            refine w_load (.iload_n 2) 118 (by decide +kernel) rfl rfl ?_
                            refine w_load (.iload 8) 120 (by decide +kernel) rfl rfl ?_
                            refine w_load (.iload_n 1) 121 (by decide +kernel) rfl rfl ?_
                            refine w_callV5 185 8 6 124 (by decide +kernel) sh_76 (Nat.le_of_ble_eq_true rfl) rfl rfl rfl rfl rfl (by decide) (by omega) ?_
                            refine s_meanWith hS.1 (by omega) ((hS.2 76 0 (by (try dsimp only); first | omega | (simp only [Hs, Tl, Sc, isHs, isScr, isTs] at *; omega))).trans en) (lv_same hn hc (fun k h1 h2 => hS.2 78 k (by (try dsimp only); first | omega | (simp only [Hs, Tl, Sc, isHs, isScr, isTs] at *; omega)))) (by rw [hS.row (x := 77) (fun k => (by (try dsimp only); first | omega | (simp only [Hs, Tl, Sc, isHs, isScr, isTs] at *; omega)))]; exact hp) hw (hT.keep (hS.row (fun k => (by (try dsimp only); first | omega | (simp only [Hs, Tl, Sc, isHs, isScr, isTs] at *; omega)))) (hS.row (fun k => (by (try dsimp only); first | omega | (simp only [Hs, Tl, Sc, isHs, isScr, isTs] at *; omega))))) (fun t ht => (hS.2 85 t (by (try dsimp only); first | omega | (simp only [Hs, Tl, Sc, isHs, isScr, isTs] at *; omega))).trans (ho t ht)) (by omega) (by omega) (by omega) (by omega) (fun r29 Nr29 hTr29 hr29 => ?_)
                            have kn30 := (hTr29.2 (76) 0 (by (try dsimp only); first | omega | (simp only [Hs, Tl, Sc, isHs, isScr, isTs] at *; omega))).trans ((hS.2 76 0 (by (try dsimp only); first | omega | (simp only [Hs, Tl, Sc, isHs, isScr, isTs] at *; omega))).trans en)
                            have hS := hS.tr hTr29 (by intro i k; first | exact rfl | exact fun h => h.elim | omega | (dsimp only; omega) | (simp only [Hs, Tl, Sc, isHs, isScr, isTs] at *; omega))
                            have mA : r29 = mnW n T pw od c k2 k5 k2 g10 ((g6 % 4)) := hr29
                            dsimp only [Option.toList, List.cons_append, List.nil_append]
                            refine w_load (.aload_n 0) 125 (by decide +kernel) rfl rfl ?_
                            refine w_load (.iload_n 1) 126 (by decide +kernel) rfl rfl ?_
                            refine w_load (.iload 7) 128 (by decide +kernel) rfl rfl ?_
                            refine w_load (.iload_n 2) 129 (by decide +kernel) rfl rfl ?_
                            refine w_load (.iload 8) 131 (by decide +kernel) rfl rfl ?_
                            refine w_load (.iload_n 1) 132 (by decide +kernel) rfl rfl ?_
                            refine w_callV5 185 8 6 135 (by decide +kernel) sh_76 (Nat.le_of_ble_eq_true rfl) rfl rfl rfl rfl rfl (by decide) (by omega) ?_
                            refine s_meanWith hS.1 (by omega) kn30 (lv_same hn hc (fun k h1 h2 => hS.2 78 k (by (try dsimp only); first | omega | (simp only [Hs, Tl, Sc, isHs, isScr, isTs] at *; omega)))) (by rw [hS.row (x := 77) (fun k => (by (try dsimp only); first | omega | (simp only [Hs, Tl, Sc, isHs, isScr, isTs] at *; omega)))]; exact hp) hw (hT.keep (hS.row (fun k => (by (try dsimp only); first | omega | (simp only [Hs, Tl, Sc, isHs, isScr, isTs] at *; omega)))) (hS.row (fun k => (by (try dsimp only); first | omega | (simp only [Hs, Tl, Sc, isHs, isScr, isTs] at *; omega))))) (fun t ht => (hS.2 85 t (by (try dsimp only); first | omega | (simp only [Hs, Tl, Sc, isHs, isScr, isTs] at *; omega))).trans (ho t ht)) (by omega) (by omega) (by omega) (by omega) (fun r31 Nr31 hTr31 hr31 => ?_)
                            have kn32 := (hTr31.2 (76) 0 (by (try dsimp only); first | omega | (simp only [Hs, Tl, Sc, isHs, isScr, isTs] at *; omega))).trans kn30
                            have hS := hS.tr hTr31 (by intro i k; first | exact rfl | exact fun h => h.elim | omega | (dsimp only; omega) | (simp only [Hs, Tl, Sc, isHs, isScr, isTs] at *; omega))
                            have mB : r31 = mnW n T pw od c k2 k5 k2 ((g6 / 4)) ((g6 % 4)) := hr31
                            dsimp only [Option.toList, List.cons_append, List.nil_append]
                            refine w_cgt 167 138 (by decide +kernel) (fun h33 => ?_) (fun h33 => ?_)
                            · skip
                              refine w_pushN 0 168 (by decide +kernel) ?_
                              refine w_store (ls' := [.ref 76, .int (nI k2), .int (nI k5), .int w, .int (nI g4), .int x5_77, .int (nI g6), .int (nI ((g6 / 4))), .int (nI ((g6 % 4))), .int (nI 0), .int (nI g10)]) (.istore 9) 170 (by decide +kernel) rfl rfl ?_
                              refine w_iincN (z := 10) (g10 + 1) 173 (by decide +kernel) rfl (Nat.le_of_ble_eq_true rfl) rfl rfl ?_
                              show Wp _ _ _ [.ref 76, .int (nI k2), .int (nI k5), .int w, .int (nI g4), .int x5_77, .int (nI g6), .int (nI ((g6 / 4))), .int (nI ((g6 % 4))), .int (nI 0), .int (nI (g10 + 1))] _ _ _ _
                              refine w_goto 102 (by decide +kernel) ?_
                              exact ih_102 Nr31 0 (g10 + 1) hS (by first | omega | exact hi2_102.up (by omega) mA mB mC mD (by assumption) (by assumption) | exact rsI.no1 (by omega) mA mB (by assumption) | exact rsI.no2 (by omega) mC mD (by assumption)) (by first | omega | exact hi2_102.up (by omega) mA mB mC mD (by assumption) (by assumption) | exact rsI.no1 (by omega) mA mB (by assumption) | exact rsI.no2 (by omega) mC mD (by assumption)) (by first | omega | exact hi2_102.up (by omega) mA mB mC mD (by assumption) (by assumption) | exact rsI.no1 (by omega) mA mB (by assumption) | exact rsI.no2 (by omega) mC mD (by assumption)) (by omega)
                            · skip
                              refine w_load (.aload_n 0) 139 (by decide +kernel) rfl rfl ?_
                              refine w_load (.iload_n 1) 140 (by decide +kernel) rfl rfl ?_
                              refine w_load (.iload 7) 142 (by decide +kernel) rfl rfl ?_
                              refine w_load (.iload_n 2) 143 (by decide +kernel) rfl rfl ?_
                              refine w_load (.iload 10) 145 (by decide +kernel) rfl rfl ?_
                              refine w_load (.iload_n 2) 146 (by decide +kernel) rfl rfl ?_
                              refine w_callV5 185 8 6 149 (by decide +kernel) sh_76 (Nat.le_of_ble_eq_true rfl) rfl rfl rfl rfl rfl (by decide) (by omega) ?_
                              refine s_meanWith hS.1 (by omega) kn32 (lv_same hn hc (fun k h1 h2 => hS.2 78 k (by (try dsimp only); first | omega | (simp only [Hs, Tl, Sc, isHs, isScr, isTs] at *; omega)))) (by rw [hS.row (x := 77) (fun k => (by (try dsimp only); first | omega | (simp only [Hs, Tl, Sc, isHs, isScr, isTs] at *; omega)))]; exact hp) hw (hT.keep (hS.row (fun k => (by (try dsimp only); first | omega | (simp only [Hs, Tl, Sc, isHs, isScr, isTs] at *; omega)))) (hS.row (fun k => (by (try dsimp only); first | omega | (simp only [Hs, Tl, Sc, isHs, isScr, isTs] at *; omega))))) (fun t ht => (hS.2 85 t (by (try dsimp only); first | omega | (simp only [Hs, Tl, Sc, isHs, isScr, isTs] at *; omega))).trans (ho t ht)) (by omega) (by omega) (by omega) (by omega) (fun r34 Nr34 hTr34 hr34 => ?_)
                              have kn35 := (hTr34.2 (76) 0 (by (try dsimp only); first | omega | (simp only [Hs, Tl, Sc, isHs, isScr, isTs] at *; omega))).trans kn32
                              have hS := hS.tr hTr34 (by intro i k; first | exact rfl | exact fun h => h.elim | omega | (dsimp only; omega) | (simp only [Hs, Tl, Sc, isHs, isScr, isTs] at *; omega))
                              have mC : r34 = mnW n T pw od c k2 k5 k5 ((g6 / 4)) g10 := hr34
                              dsimp only [Option.toList, List.cons_append, List.nil_append]
                              refine w_load (.aload_n 0) 150 (by decide +kernel) rfl rfl ?_
                              refine w_load (.iload_n 1) 151 (by decide +kernel) rfl rfl ?_
                              refine w_load (.iload 7) 153 (by decide +kernel) rfl rfl ?_
                              refine w_load (.iload_n 2) 154 (by decide +kernel) rfl rfl ?_
                              refine w_load (.iload 8) 156 (by decide +kernel) rfl rfl ?_
                              refine w_load (.iload_n 2) 157 (by decide +kernel) rfl rfl ?_
                              refine w_callV5 185 8 6 160 (by decide +kernel) sh_76 (Nat.le_of_ble_eq_true rfl) rfl rfl rfl rfl rfl (by decide) (by omega) ?_
                              refine s_meanWith hS.1 (by omega) kn35 (lv_same hn hc (fun k h1 h2 => hS.2 78 k (by (try dsimp only); first | omega | (simp only [Hs, Tl, Sc, isHs, isScr, isTs] at *; omega)))) (by rw [hS.row (x := 77) (fun k => (by (try dsimp only); first | omega | (simp only [Hs, Tl, Sc, isHs, isScr, isTs] at *; omega)))]; exact hp) hw (hT.keep (hS.row (fun k => (by (try dsimp only); first | omega | (simp only [Hs, Tl, Sc, isHs, isScr, isTs] at *; omega)))) (hS.row (fun k => (by (try dsimp only); first | omega | (simp only [Hs, Tl, Sc, isHs, isScr, isTs] at *; omega))))) (fun t ht => (hS.2 85 t (by (try dsimp only); first | omega | (simp only [Hs, Tl, Sc, isHs, isScr, isTs] at *; omega))).trans (ho t ht)) (by omega) (by omega) (by omega) (by omega) (fun r36 Nr36 hTr36 hr36 => ?_)
                              have kn37 := (hTr36.2 (76) 0 (by (try dsimp only); first | omega | (simp only [Hs, Tl, Sc, isHs, isScr, isTs] at *; omega))).trans kn35
                              have hS := hS.tr hTr36 (by intro i k; first | exact rfl | exact fun h => h.elim | omega | (dsimp only; omega) | (simp only [Hs, Tl, Sc, isHs, isScr, isTs] at *; omega))
                              have mD : r36 = mnW n T pw od c k2 k5 k5 ((g6 / 4)) ((g6 % 4)) := hr36
                              dsimp only [Option.toList, List.cons_append, List.nil_append]
                              refine w_cgt 167 163 (by decide +kernel) (fun h38 => ?_) (fun h38 => ?_)
                              · skip
                                refine w_pushN 0 168 (by decide +kernel) ?_
                                refine w_store (ls' := [.ref 76, .int (nI k2), .int (nI k5), .int w, .int (nI g4), .int x5_77, .int (nI g6), .int (nI ((g6 / 4))), .int (nI ((g6 % 4))), .int (nI 0), .int (nI g10)]) (.istore 9) 170 (by decide +kernel) rfl rfl ?_
                                refine w_iincN (z := 10) (g10 + 1) 173 (by decide +kernel) rfl (Nat.le_of_ble_eq_true rfl) rfl rfl ?_
                                show Wp _ _ _ [.ref 76, .int (nI k2), .int (nI k5), .int w, .int (nI g4), .int x5_77, .int (nI g6), .int (nI ((g6 / 4))), .int (nI ((g6 % 4))), .int (nI 0), .int (nI (g10 + 1))] _ _ _ _
                                refine w_goto 102 (by decide +kernel) ?_
                                exact ih_102 Nr36 0 (g10 + 1) hS (by first | omega | exact hi2_102.up (by omega) mA mB mC mD (by assumption) (by assumption) | exact rsI.no1 (by omega) mA mB (by assumption) | exact rsI.no2 (by omega) mC mD (by assumption)) (by first | omega | exact hi2_102.up (by omega) mA mB mC mD (by assumption) (by assumption) | exact rsI.no1 (by omega) mA mB (by assumption) | exact rsI.no2 (by omega) mC mD (by assumption)) (by first | omega | exact hi2_102.up (by omega) mA mB mC mD (by assumption) (by assumption) | exact rsI.no1 (by omega) mA mB (by assumption) | exact rsI.no2 (by omega) mC mD (by assumption)) (by omega)
                              · skip
                                refine w_pushN 1 164 (by decide +kernel) ?_
                                refine w_goto 168 (by decide +kernel) ?_
                                refine w_store (ls' := [.ref 76, .int (nI k2), .int (nI k5), .int w, .int (nI g4), .int x5_77, .int (nI g6), .int (nI ((g6 / 4))), .int (nI ((g6 % 4))), .int (nI 1), .int (nI g10)]) (.istore 9) 170 (by decide +kernel) rfl rfl ?_
                                refine w_iincN (z := 10) (g10 + 1) 173 (by decide +kernel) rfl (Nat.le_of_ble_eq_true rfl) rfl rfl ?_
                                show Wp _ _ _ [.ref 76, .int (nI k2), .int (nI k5), .int w, .int (nI g4), .int x5_77, .int (nI g6), .int (nI ((g6 / 4))), .int (nI ((g6 % 4))), .int (nI 1), .int (nI (g10 + 1))] _ _ _ _
                                refine w_goto 102 (by decide +kernel) ?_
                                exact ih_102 Nr36 1 (g10 + 1) hS (by first | omega | exact hi2_102.up (by omega) mA mB mC mD (by assumption) (by assumption) | exact rsI.no1 (by omega) mA mB (by assumption) | exact rsI.no2 (by omega) mC mD (by assumption)) (by first | omega | exact hi2_102.up (by omega) mA mB mC mD (by assumption) (by assumption) | exact rsI.no1 (by omega) mA mB (by assumption) | exact rsI.no2 (by omega) mC mD (by assumption)) (by first | omega | exact hi2_102.up (by omega) mA mB mC mD (by assumption) (by assumption) | exact rsI.no1 (by omega) mA mB (by assumption) | exact rsI.no2 (by omega) mC mD (by assumption)) (by omega)
                    exact LP_102 _ N_77 1 0 hS (by first | omega | exact Or.inl ⟨rfl, fun z hz => by omega⟩) (by first | omega | exact Or.inl ⟨rfl, fun z hz => by omega⟩) (by first | omega | exact Or.inl ⟨rfl, fun z hz => by omega⟩) (Nat.lt_succ_self _)
              exact LP_77 _ N 0 _ 0 hS (by first | omega | rfl | exact Or.inr ⟨fun i hi => by omega, rfl⟩) (by first | omega | rfl | exact Or.inr ⟨fun i hi => by omega, rfl⟩) (by first | omega | rfl | exact Or.inr ⟨fun i hi => by omega, rfl⟩) (by first | omega | rfl | exact Or.inr ⟨fun i hi => by omega, rfl⟩) (Nat.lt_succ_self _)
            · skip
              have htr13 := tb_nhb (by omega) hbr13
              refine w_ine 67 64 (by decide +kernel) (fun hz => absurd hz (by decide)) (fun _ => ?_)
              refine w_push (-3) 66 (by decide +kernel) ?_
              exact w_ret (by decide +kernel) (hq _ N hS (Or.inr ⟨_, _, by assumption, rfl, by assumption, rfl, Or.inr ⟨⟨by omega, by assumption⟩, Or.inl ⟨rfl, fun hz => by first | exact absurd (hz.1.symm.trans (show tb (c 15) _ = false by rw [← hc.2.1, ← hNM]; assumption)) (by decide) | exact absurd (hz.2.symm.trans (show tb (c 15) _ = false by rw [← hc.2.1, ← hNM]; assumption)) (by decide)⟩⟩⟩))
          · skip
            have htr11 := tb_nhb (by omega) hbr11
            refine w_ieq 64 50 (by decide +kernel) (fun _ => ?_) (fun hz => absurd hz (by decide))
            refine w_push (-3) 66 (by decide +kernel) ?_
            exact w_ret (by decide +kernel) (hq _ N hS (Or.inr ⟨_, _, by assumption, rfl, by assumption, rfl, Or.inr ⟨⟨by omega, by assumption⟩, Or.inl ⟨rfl, fun hz => by first | exact absurd (hz.1.symm.trans (show tb (c 15) _ = false by rw [← hc.2.1, ← hNM]; assumption)) (by decide) | exact absurd (hz.2.symm.trans (show tb (c 15) _ = false by rw [← hc.2.1, ← hNM]; assumption)) (by decide)⟩⟩⟩))
        · skip
          have hink9 := inR_nin (lo := 0) (hi := 1) hnok9 (by decide) (by decide)
          refine w_ine 36 33 (by decide +kernel) (fun hz => absurd hz (by decide)) (fun _ => ?_)
          refine w_push (-2) 35 (by decide +kernel) ?_
          exact w_ret (by decide +kernel) (hq _ N hS (Or.inr ⟨_, _, by assumption, rfl, by assumption, rfl, Or.inl ⟨rfl, fun hz => by first | exact absurd (by assumption) hz.1 | exact absurd hz.2 (by assumption)⟩⟩))
    · skip
      refine w_ine 18 16 (by decide +kernel) (fun hz => absurd hz (by decide)) (fun _ => ?_)
      refine w_push (-1) 17 (by decide +kernel) ?_
      exact w_ret (by decide +kernel) (hq _ N hS (Or.inl ⟨rfl, fun hz => by first | exact absurd hz.1 (by assumption) | exact absurd hz.2 (by assumption)⟩))
  · skip
    refine w_ieq 16 8 (by decide +kernel) (fun _ => ?_) (fun hz => absurd hz (by decide))
    refine w_push (-1) 17 (by decide +kernel) ?_
    exact w_ret (by decide +kernel) (hq _ N hS (Or.inl ⟨rfl, fun hz => by first | exact absurd hz.1 (by assumption) | exact absurd hz.2 (by assumption)⟩))
