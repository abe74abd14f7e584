-- X8_odds
set_option maxRecDepth 10000 in
theorem k_180 {d : Nat} {M : Mt} {L : Lt} {Q : Option Value → Mt → Lt → Prop} {a : Int32} {b : Int32} {c : Int32} (hI : Inv M)  (hd : 1 ≤ d) (hq : ∀ (r : Int32) (N : Mt), St (fun i _ => i = 85) M N → ((r = -2 ∧ ¬ ((∃ k, k < 11 ∧ a = nI k) ∧ (∃ k, k < 11 ∧ b = nI k) ∧ (∃ k, k < 11 ∧ c = nI k) ∧ a + b + c = nI 10) ∧ N = M) ∨ (((∃ k, k < 11 ∧ a = nI k) ∧ (∃ k, k < 11 ∧ b = nI k) ∧ (∃ k, k < 11 ∧ c = nI k) ∧ a + b + c = nI 10) ∧ r = M 85 0 ∧ N = up2 (up2 (up2 M 85 0 a) 85 1 b) 85 2 c)) → Q (some (.int r)) N L) : Wp d 180 0 [.ref 76, .int a, .int b, .int c, .null] [] M L Q := by
  refine (show ∀ N : Mt, N = M → St (fun i _ => i = 85) M N → Wp d 180 0 [.ref 76, .int a, .int b, .int c, .null] [] N L Q from ?_) M rfl (St.rf hI)
  intro N hNM hS
  refine w_load (.iload_n 1) 1 (by decide +kernel) rfl rfl ?_
  refine w_pure .i2l 2 (by decide +kernel) rfl rfl ?_
  refine w_pushL (0) 3 (by decide +kernel) ?_
  refine w_pushL (10) 6 (by decide +kernel) ?_
  refine w_callSL 134 6 9 (by decide +kernel) (Nat.le_of_ble_eq_true rfl) rfl (by omega) ?_
  refine k_134 hS.1  (by omega) (fun r1 hr1 => ?_)
  dsimp only [Option.toList, List.cons_append, List.nil_append]
  rcases hr1 with ⟨rfl, hlok3, hhik3⟩ | ⟨rfl, hnok3⟩
  · skip
    obtain ⟨k3, hlk3, hhk3, rfl⟩ := in_k (lo := 0) (hi := 10) hlok3 hhik3 (by decide)
    refine w_ieq 46 12 (by decide +kernel) (fun hz => absurd hz (by decide)) (fun _ => ?_)
    refine w_load (.iload_n 2) 13 (by decide +kernel) rfl rfl ?_
    refine w_pure .i2l 14 (by decide +kernel) rfl rfl ?_
    refine w_pushL (0) 15 (by decide +kernel) ?_
    refine w_pushL (10) 18 (by decide +kernel) ?_
    refine w_callSL 134 6 21 (by decide +kernel) (Nat.le_of_ble_eq_true rfl) rfl (by omega) ?_
    refine k_134 hS.1  (by omega) (fun r5 hr5 => ?_)
    dsimp only [Option.toList, List.cons_append, List.nil_append]
    rcases hr5 with ⟨rfl, hlok7, hhik7⟩ | ⟨rfl, hnok7⟩
    · skip
      obtain ⟨k7, hlk7, hhk7, rfl⟩ := in_k (lo := 0) (hi := 10) hlok7 hhik7 (by decide)
      refine w_ieq 46 24 (by decide +kernel) (fun hz => absurd hz (by decide)) (fun _ => ?_)
      refine w_load (.iload_n 3) 25 (by decide +kernel) rfl rfl ?_
      refine w_pure .i2l 26 (by decide +kernel) rfl rfl ?_
      refine w_pushL (0) 27 (by decide +kernel) ?_
      refine w_pushL (10) 30 (by decide +kernel) ?_
      refine w_callSL 134 6 33 (by decide +kernel) (Nat.le_of_ble_eq_true rfl) rfl (by omega) ?_
      refine k_134 hS.1  (by omega) (fun r9 hr9 => ?_)
      dsimp only [Option.toList, List.cons_append, List.nil_append]
      rcases hr9 with ⟨rfl, hlok11, hhik11⟩ | ⟨rfl, hnok11⟩
      · skip
        obtain ⟨k11, hlk11, hhk11, rfl⟩ := in_k (lo := 0) (hi := 10) hlok11 hhik11 (by decide)
        refine w_ieq 46 36 (by decide +kernel) (fun hz => absurd hz (by decide)) (fun _ => ?_)
        refine w_load (.iload_n 1) 37 (by decide +kernel) rfl rfl ?_
        refine w_load (.iload_n 2) 38 (by decide +kernel) rfl rfl ?_
        refine w_pure .iadd 39 (by decide +kernel) rfl rfl ?_
        refine w_load (.iload_n 3) 40 (by decide +kernel) rfl rfl ?_
        refine w_pure .iadd 41 (by decide +kernel) rfl rfl ?_
        refine w_pushN 10 43 (by decide +kernel) ?_
        refine w_ceq 49 46 (by decide +kernel) (fun h13 => ?_) (fun h13 => ?_)
        · skip
          refine w_load (.aload_n 0) 50 (by decide +kernel) rfl rfl ?_
          refine w_getR (k := 14) (r := 85) 53 (by decide +kernel) sh_76 rfl ?_
          refine w_pushN 0 54 (by decide +kernel) ?_
          refine w_ialdC (B := 10) 55 (by decide +kernel) sh_85 (by decide) (by omega) (inv_85 hS.1 _) (fun n14 hn14 en14 => ?_)
          refine w_store (ls' := [.ref 76, .int (nI k3), .int (nI k7), .int (nI k11), .int (nI n14)]) (.istore 4) 57 (by decide +kernel) rfl rfl ?_
          refine w_load (.aload_n 0) 58 (by decide +kernel) rfl rfl ?_
          refine w_getR (k := 14) (r := 85) 61 (by decide +kernel) sh_76 rfl ?_
          refine w_pushN 0 62 (by decide +kernel) ?_
          refine w_load (.iload_n 1) 63 (by decide +kernel) rfl rfl ?_
          refine w_iastE 64 (by decide +kernel) sh_85 (by omega) (by omega) hS (rg_85 (by omega)) (by first | exact rfl | omega | (dsimp only; omega) | (simp only [Hs, Tl, Sc, isHs, isScr, isTs] at *; omega)) (fun Nq15 hS hq15 oq15 mq15 => ?_)
          refine w_load (.aload_n 0) 65 (by decide +kernel) rfl rfl ?_
          refine w_getR (k := 14) (r := 85) 68 (by decide +kernel) sh_76 rfl ?_
          refine w_pushN 1 69 (by decide +kernel) ?_
          refine w_load (.iload_n 2) 70 (by decide +kernel) rfl rfl ?_
          refine w_iastE 71 (by decide +kernel) sh_85 (by omega) (by omega) hS (rg_85 (by omega)) (by first | exact rfl | omega | (dsimp only; omega) | (simp only [Hs, Tl, Sc, isHs, isScr, isTs] at *; omega)) (fun Nq16 hS hq16 oq16 mq16 => ?_)
          refine w_load (.aload_n 0) 72 (by decide +kernel) rfl rfl ?_
          refine w_getR (k := 14) (r := 85) 75 (by decide +kernel) sh_76 rfl ?_
          refine w_pushN 2 76 (by decide +kernel) ?_
          refine w_load (.iload_n 3) 77 (by decide +kernel) rfl rfl ?_
          refine w_iastE 78 (by decide +kernel) sh_85 (by omega) (by omega) hS (rg_85 (by omega)) (by first | exact rfl | omega | (dsimp only; omega) | (simp only [Hs, Tl, Sc, isHs, isScr, isTs] at *; omega)) (fun Nq17 hS hq17 oq17 mq17 => ?_)
          refine w_load (.iload 4) 80 (by decide +kernel) rfl rfl ?_
          exact w_ret (by decide +kernel) (hq _ Nq17 hS (by first | exact Or.inl ⟨rfl, fun hz => by first | exact absurd hz.1 (in_no (by assumption) (by decide)) | exact absurd hz.2.1 (in_no (by assumption) (by decide)) | exact absurd hz.2.2.1 (in_no (by assumption) (by decide)) | exact absurd hz.2.2.2 (by assumption) , hNM⟩ | exact Or.inr ⟨⟨⟨_, Nat.lt_succ_of_le (by assumption), rfl⟩, ⟨_, Nat.lt_succ_of_le (by assumption), rfl⟩, ⟨_, Nat.lt_succ_of_le (by assumption), rfl⟩, by assumption⟩, (by rw [← hNM]; first | assumption | (symm; assumption)), (by rw [mq17, mq16, mq15, hNM] <;> rfl)⟩))
        · skip
          refine w_push (-2) 48 (by decide +kernel) ?_
          exact w_ret (by decide +kernel) (hq _ N hS (by first | exact Or.inl ⟨rfl, fun hz => by first | exact absurd hz.1 (in_no (by assumption) (by decide)) | exact absurd hz.2.1 (in_no (by assumption) (by decide)) | exact absurd hz.2.2.1 (in_no (by assumption) (by decide)) | exact absurd hz.2.2.2 (by assumption) , hNM⟩ | exact Or.inr ⟨⟨⟨_, Nat.lt_succ_of_le (by assumption), rfl⟩, ⟨_, Nat.lt_succ_of_le (by assumption), rfl⟩, ⟨_, Nat.lt_succ_of_le (by assumption), rfl⟩, by assumption⟩, (by rw [← hNM]; first | assumption | (symm; assumption)), (by rw [hNM] <;> rfl)⟩))
      · skip
        refine w_ieq 46 36 (by decide +kernel) (fun _ => ?_) (fun hz => absurd hz (by decide))
        refine w_push (-2) 48 (by decide +kernel) ?_
        exact w_ret (by decide +kernel) (hq _ N hS (by first | exact Or.inl ⟨rfl, fun hz => by first | exact absurd hz.1 (in_no (by assumption) (by decide)) | exact absurd hz.2.1 (in_no (by assumption) (by decide)) | exact absurd hz.2.2.1 (in_no (by assumption) (by decide)) | exact absurd hz.2.2.2 (by assumption) , hNM⟩ | exact Or.inr ⟨⟨⟨_, Nat.lt_succ_of_le (by assumption), rfl⟩, ⟨_, Nat.lt_succ_of_le (by assumption), rfl⟩, ⟨_, Nat.lt_succ_of_le (by assumption), rfl⟩, by assumption⟩, (by rw [← hNM]; first | assumption | (symm; assumption)), (by rw [hNM] <;> rfl)⟩))
    · skip
      refine w_ieq 46 24 (by decide +kernel) (fun _ => ?_) (fun hz => absurd hz (by decide))
      refine w_push (-2) 48 (by decide +kernel) ?_
      exact w_ret (by decide +kernel) (hq _ N hS (by first | exact Or.inl ⟨rfl, fun hz => by first | exact absurd hz.1 (in_no (by assumption) (by decide)) | exact absurd hz.2.1 (in_no (by assumption) (by decide)) | exact absurd hz.2.2.1 (in_no (by assumption) (by decide)) | exact absurd hz.2.2.2 (by assumption) , hNM⟩ | exact Or.inr ⟨⟨⟨_, Nat.lt_succ_of_le (by assumption), rfl⟩, ⟨_, Nat.lt_succ_of_le (by assumption), rfl⟩, ⟨_, Nat.lt_succ_of_le (by assumption), rfl⟩, by assumption⟩, (by rw [← hNM]; first | assumption | (symm; assumption)), (by rw [hNM] <;> rfl)⟩))
  · skip
    refine w_ieq 46 12 (by decide +kernel) (fun _ => ?_) (fun hz => absurd hz (by decide))
    refine w_push (-2) 48 (by decide +kernel) ?_
    exact w_ret (by decide +kernel) (hq _ N hS (by first | exact Or.inl ⟨rfl, fun hz => by first | exact absurd hz.1 (in_no (by assumption) (by decide)) | exact absurd hz.2.1 (in_no (by assumption) (by decide)) | exact absurd hz.2.2.1 (in_no (by assumption) (by decide)) | exact absurd hz.2.2.2 (by assumption) , hNM⟩ | exact Or.inr ⟨⟨⟨_, Nat.lt_succ_of_le (by assumption), rfl⟩, ⟨_, Nat.lt_succ_of_le (by assumption), rfl⟩, ⟨_, Nat.lt_succ_of_le (by assumption), rfl⟩, by assumption⟩, (by rw [← hNM]; first | assumption | (symm; assumption)), (by rw [hNM] <;> rfl)⟩))
-- X8_meanOf
set_option maxRecDepth 10000 in
theorem k_181 {d : Nat} {M : Mt} {L : Lt} {Q : Option Value → Mt → Lt → Prop} {g : Nat}  (hI : Inv M) (hg : g < 5) (hd : 4 ≤ d) (hq : ∀ (r : Int32) (N : Mt), St (fun i k => (i = 78 ∧ 22 ≤ k) ∨ i = 83 ∨ i = 84 ∨ (i = 76 ∧ (k = 7 ∨ k = 11))) M N → True → Q (some (.int r)) N L) : Wp d 181 0 [.ref 76, .int (nI g), .null, .null] [] M L Q := by
  refine (show ∀ N : Mt, N = M → St (fun i k => (i = 78 ∧ 22 ≤ k) ∨ i = 83 ∨ i = 84 ∨ (i = 76 ∧ (k = 7 ∨ k = 11))) M N → Wp d 181 0 [.ref 76, .int (nI g), .null, .null] [] N L Q from ?_) M rfl (St.rf hI)
  intro N hNM hS
  refine w_pushN 0 1 (by decide +kernel) ?_
  refine w_store (ls' := [.ref 76, .int (nI g), .int (nI 0), .null]) (.istore_n 2) 2 (by decide +kernel) rfl rfl ?_
  refine w_pushN 0 3 (by decide +kernel) ?_
  refine w_store (ls' := [.ref 76, .int (nI g), .int (nI 0), .int (nI 0)]) (.istore_n 3) 4 (by decide +kernel) rfl rfl ?_
  have LP_4 : ∀ (kk : Nat) (N_4 : Mt) (x2_4 : Int32) (g3 : Nat), St (fun i k => (i = 78 ∧ 22 ≤ k) ∨ i = 83 ∨ i = 84 ∨ (i = 76 ∧ (k = 7 ∨ k = 11))) M N_4 → g3 ≤ 3 → 3 - g3 < kk → Wp d 181 4 [.ref 76, .int (nI g), .int x2_4, .int (nI g3)] [] N_4 L Q := by
    intro kk
    induction kk with
    | zero => intro N_4 x2_4 g3 hS hi0_4 hm_4; exact absurd hm_4 (Nat.not_lt_zero _)
    | succ kk ih_4 =>
      intro N_4 x2_4 g3 hS hi0_4 hm_4
      refine w_load (.iload_n 3) 5 (by decide +kernel) rfl rfl ?_
      refine w_pushN 3 6 (by decide +kernel) ?_
      refine w_cgeN 69 9 (by decide +kernel) (by omega) (by omega) (fun h1 => ?_) (fun h1 => ?_)
      · skip
        refine w_load (.iload_n 2) 70 (by decide +kernel) rfl rfl ?_
        exact w_ret (by decide +kernel) (hq _ N_4 hS trivial)
      · skip
        refine w_load (.aload_n 0) 10 (by decide +kernel) rfl rfl ?_
        refine w_pushN 2 11 (by decide +kernel) ?_
        refine w_pushN 1 12 (by decide +kernel) ?_
        refine w_callV2 160 8 4 15 (by decide +kernel) sh_76 (Nat.le_of_ble_eq_true rfl) rfl rfl (by decide) (by omega) ?_
        refine k_160 hS.1 (by omega) (by omega) (by omega) (fun Nr2 hTr2 hr2 => ?_)
        have hS := hS.tr hTr2 (by intro i k; first | exact rfl | exact fun h => h.elim | omega | (dsimp only; omega) | (simp only [Hs, Tl, Sc, isHs, isScr, isTs] at *; omega))
        dsimp only [Option.toList, List.nil_append]
        refine w_load (.aload_n 0) 16 (by decide +kernel) rfl rfl ?_
        refine w_pushN 1 17 (by decide +kernel) ?_
        refine w_load (.iload_n 3) 18 (by decide +kernel) rfl rfl ?_
        refine w_pushN 0 19 (by decide +kernel) ?_
        refine w_callV3 159 8 7 22 (by decide +kernel) sh_76 (Nat.le_of_ble_eq_true rfl) rfl rfl rfl (by decide) (by omega) ?_
        refine k_159 hS.1 (by omega) (by omega) (by omega) (fun r3 Nr3 hTr3 hr3 => ?_)
        have hS := hS.tr hTr3 (by intro i k; first | exact rfl | exact fun h => h.elim | omega | (dsimp only; omega) | (simp only [Hs, Tl, Sc, isHs, isScr, isTs] at *; omega))
        dsimp only [Option.toList, List.cons_append, List.nil_append]
        refine w_pure .pop 23 (by decide +kernel) rfl rfl ?_
        refine w_load (.iload_n 2) 24 (by decide +kernel) rfl rfl ?_
        refine w_load (.aload_n 0) 25 (by decide +kernel) rfl rfl ?_
        refine w_getR (k := 2) (r := 78) 28 (by decide +kernel) sh_76 rfl ?_
        refine w_pushN 37 30 (by decide +kernel) ?_
        refine w_ialdN 31 (by decide +kernel) sh_78 (by omega) (by omega) ?_
        refine w_load (.iload_n 1) 32 (by decide +kernel) rfl rfl ?_
        refine w_callS2 135 2 35 (by decide +kernel) (Nat.le_of_ble_eq_true rfl) rfl rfl (by decide) (by omega) ?_
        refine k_135 hS.1  (by omega) (fun r4 hr4 => ?_)
        dsimp only [Option.toList, List.cons_append, List.nil_append]
        rcases hr4 with ⟨rfl, hbr4⟩ | ⟨rfl, hbr4⟩
        · skip
          refine w_ieq 60 38 (by decide +kernel) (fun hz => absurd hz (by decide)) (fun _ => ?_)
          refine w_load (.aload_n 0) 39 (by decide +kernel) rfl rfl ?_
          refine w_getR (k := 14) (r := 85) 42 (by decide +kernel) sh_76 rfl ?_
          refine w_load (.iload_n 3) 43 (by decide +kernel) rfl rfl ?_
          refine w_ialdC (B := 10) 44 (by decide +kernel) sh_85 (by decide) (by omega) (inv_85 hS.1 _) (fun n6 hn6 en6 => ?_)
          refine w_load (.aload_n 0) 45 (by decide +kernel) rfl rfl ?_
          refine w_getR (k := 2) (r := 78) 48 (by decide +kernel) sh_76 rfl ?_
          refine w_pushN 27 50 (by decide +kernel) ?_
          refine w_load (.iload_n 1) 51 (by decide +kernel) rfl rfl ?_
          refine w_addN (27 + g) 52 (by decide +kernel) (by omega) ?_
          refine w_ialdN 53 (by decide +kernel) sh_78 (by omega) (by omega) ?_
          refine w_pushN 20 55 (by decide +kernel) ?_
          refine w_pure .iadd 56 (by decide +kernel) rfl rfl ?_
          refine w_pure .imul 57 (by decide +kernel) rfl rfl ?_
          refine w_goto 61 (by decide +kernel) ?_
          refine w_pure .iadd 62 (by decide +kernel) rfl rfl ?_
          refine w_topi (fun v7 ev7 => ?_)
          refine w_store (ls' := [.ref 76, .int (nI g), .int v7, .int (nI g3)]) (.istore_n 2) 63 (by decide +kernel) rfl rfl ?_
          refine w_iincN (z := 3) (g3 + 1) 66 (by decide +kernel) rfl (Nat.le_of_ble_eq_true rfl) rfl rfl ?_
          show Wp _ _ _ [.ref 76, .int (nI g), .int v7, .int (nI (g3 + 1))] _ _ _ _
          refine w_goto 4 (by decide +kernel) ?_
          exact ih_4 Nr3 _ (g3 + 1) hS (by omega) (by omega)
        · skip
          refine w_ieq 60 38 (by decide +kernel) (fun _ => ?_) (fun hz => absurd hz (by decide))
          refine w_pushN 0 61 (by decide +kernel) ?_
          refine w_pure .iadd 62 (by decide +kernel) rfl rfl ?_
          refine w_topi (fun v9 ev9 => ?_)
          refine w_store (ls' := [.ref 76, .int (nI g), .int v9, .int (nI g3)]) (.istore_n 2) 63 (by decide +kernel) rfl rfl ?_
          refine w_iincN (z := 3) (g3 + 1) 66 (by decide +kernel) rfl (Nat.le_of_ble_eq_true rfl) rfl rfl ?_
          show Wp _ _ _ [.ref 76, .int (nI g), .int v9, .int (nI (g3 + 1))] _ _ _ _
          refine w_goto 4 (by decide +kernel) ?_
          exact ih_4 Nr3 _ (g3 + 1) hS (by omega) (by omega)
  exact LP_4 _ N _ 0 hS (by omega) (Nat.lt_succ_self _)
-- X8_meanBy
set_option maxRecDepth 10000 in
theorem k_182 {d : Nat} {M : Mt} {L : Lt} {Q : Option Value → Mt → Lt → Prop} {g : Nat} {a : Int32} (hI : Inv M) (hg : g < 5) (hd : 5 ≤ d) (hq : ∀ (r : Int32) (N : Mt), St (fun i k => (i = 78 ∧ 22 ≤ k) ∨ i = 83 ∨ i = 84 ∨ (i = 76 ∧ (k = 7 ∨ k = 11))) M N → True → Q (some (.int r)) N L) : Wp d 182 0 [.ref 76, .int (nI g), .int a] [] M L Q := by
  refine (show ∀ N : Mt, N = M → St (fun i k => (i = 78 ∧ 22 ≤ k) ∨ i = 83 ∨ i = 84 ∨ (i = 76 ∧ (k = 7 ∨ k = 11))) M N → Wp d 182 0 [.ref 76, .int (nI g), .int a] [] N L Q from ?_) M rfl (St.rf hI)
  intro N hNM hS
  refine w_load (.aload_n 0) 1 (by decide +kernel) rfl rfl ?_
  refine w_pushN 0 2 (by decide +kernel) ?_
  refine w_pushN 2 3 (by decide +kernel) ?_
  refine w_callV2 160 8 4 6 (by decide +kernel) sh_76 (Nat.le_of_ble_eq_true rfl) rfl rfl (by decide) (by omega) ?_
  refine k_160 hS.1 (by omega) (by omega) (by omega) (fun Nr1 hTr1 hr1 => ?_)
  have hS := hS.tr hTr1 (by intro i k; first | exact rfl | exact fun h => h.elim | omega | (dsimp only; omega) | (simp only [Hs, Tl, Sc, isHs, isScr, isTs] at *; omega))
  dsimp only [Option.toList, List.nil_append]
  refine w_load (.aload_n 0) 7 (by decide +kernel) rfl rfl ?_
  refine w_getR (k := 2) (r := 78) 10 (by decide +kernel) sh_76 rfl ?_
  refine w_pushN 44 12 (by decide +kernel) ?_
  refine w_load (.iload_n 1) 13 (by decide +kernel) rfl rfl ?_
  refine w_addN (44 + g) 14 (by decide +kernel) (by omega) ?_
  refine w_load (.iload_n 2) 15 (by decide +kernel) rfl rfl ?_
  refine w_iastE 16 (by decide +kernel) sh_78 (by omega) (by omega) hS (rg_78 (fun h1 h2 => by first | omega | exact Or.inl rfl | exact Or.inr ⟨_, by omega, rfl⟩ | exact inv_78 hS.1 _ (by omega) (by omega) | exact inv_82 hS.1 _ (by omega) (by omega) | exact inv_89 hS.1 _ (by omega) (by omega))) (by first | exact rfl | omega | (dsimp only; omega) | (simp only [Hs, Tl, Sc, isHs, isScr, isTs] at *; omega)) (fun Nq2 hS hq2 oq2 mq2 => ?_)
  refine w_load (.aload_n 0) 17 (by decide +kernel) rfl rfl ?_
  refine w_load (.iload_n 1) 18 (by decide +kernel) rfl rfl ?_
  refine w_callV1 181 8 4 21 (by decide +kernel) sh_76 (Nat.le_of_ble_eq_true rfl) rfl (by decide) (by omega) ?_
  refine k_181 hS.1 (by omega) (by omega) (fun r3 Nr3 hTr3 hr3 => ?_)
  have hS := hS.tr hTr3 (by intro i k; first | exact rfl | exact fun h => h.elim | omega | (dsimp only; omega) | (simp only [Hs, Tl, Sc, isHs, isScr, isTs] at *; omega))
  dsimp only [Option.toList, List.cons_append, List.nil_append]
  exact w_ret (by decide +kernel) (hq _ Nr3 hS trivial)
-- X8_mean
set_option maxRecDepth 10000 in
theorem k_183 {d : Nat} {M : Mt} {L : Lt} {Q : Option Value → Mt → Lt → Prop} {g : Int32} {a : Int32} (hI : Inv M)  (hd : 6 ≤ d) (hq : ∀ (r : Int32) (N : Mt), St (fun i k => (i = 78 ∧ 22 ≤ k) ∨ i = 83 ∨ i = 84 ∨ (i = 76 ∧ (k = 7 ∨ k = 11))) M N → True → Q (some (.int r)) N L) : Wp d 183 0 [.ref 76, .int g, .int a] [] M L Q := by
  refine (show ∀ N : Mt, N = M → St (fun i k => (i = 78 ∧ 22 ≤ k) ∨ i = 83 ∨ i = 84 ∨ (i = 76 ∧ (k = 7 ∨ k = 11))) M N → Wp d 183 0 [.ref 76, .int g, .int a] [] N L Q from ?_) M rfl (St.rf hI)
  intro N hNM hS
  refine w_load (.aload_n 0) 1 (by decide +kernel) rfl rfl ?_
  refine w_load (.iload_n 1) 2 (by decide +kernel) rfl rfl ?_
  refine w_callV1 150 8 2 5 (by decide +kernel) sh_76 (Nat.le_of_ble_eq_true rfl) rfl (by decide) (by omega) ?_
  obtain ⟨n1, hn1, en1⟩ := inv_g hS.1
  refine k_150 hS.1 (by omega) en1 (by omega) (fun r2 hr2 => ?_)
  dsimp only [Option.toList, List.cons_append, List.nil_append]
  rcases hr2 with ⟨rfl, k3, hk3, rfl⟩ | ⟨rfl, hnok3⟩
  · skip
    refine w_ine 10 8 (by decide +kernel) (fun _ => ?_) (fun hz => absurd hz (by decide))
    refine w_load (.iload_n 2) 11 (by decide +kernel) rfl rfl ?_
    refine w_pure .i2l 12 (by decide +kernel) rfl rfl ?_
    refine w_pushL (0) 13 (by decide +kernel) ?_
    refine w_pushL (3) 16 (by decide +kernel) ?_
    refine w_callSL 134 6 19 (by decide +kernel) (Nat.le_of_ble_eq_true rfl) rfl (by omega) ?_
    refine k_134 hS.1  (by omega) (fun r5 hr5 => ?_)
    dsimp only [Option.toList, List.cons_append, List.nil_append]
    rcases hr5 with ⟨rfl, hlok7, hhik7⟩ | ⟨rfl, hnok7⟩
    · skip
      obtain ⟨k7, hlk7, hhk7, rfl⟩ := in_k (lo := 0) (hi := 3) hlok7 hhik7 (by decide)
      refine w_ine 25 22 (by decide +kernel) (fun _ => ?_) (fun hz => absurd hz (by decide))
      refine w_load (.aload_n 0) 26 (by decide +kernel) rfl rfl ?_
      refine w_getR (k := 2) (r := 78) 29 (by decide +kernel) sh_76 rfl ?_
      refine w_pushN 15 31 (by decide +kernel) ?_
      refine w_ialdN 32 (by decide +kernel) sh_78 (by omega) (by omega) ?_
      refine w_load (.iload_n 1) 33 (by decide +kernel) rfl rfl ?_
      refine w_callS2 135 2 36 (by decide +kernel) (Nat.le_of_ble_eq_true rfl) rfl rfl (by decide) (by omega) ?_
      refine k_135 hS.1  (by omega) (fun r9 hr9 => ?_)
      dsimp only [Option.toList, List.cons_append, List.nil_append]
      rcases hr9 with ⟨rfl, hbr9⟩ | ⟨rfl, hbr9⟩
      · skip
        refine w_ieq 52 39 (by decide +kernel) (fun hz => absurd hz (by decide)) (fun _ => ?_)
        refine w_pushN 1000 42 (by decide +kernel) ?_
        refine w_load (.aload_n 0) 43 (by decide +kernel) rfl rfl ?_
        refine w_load (.iload_n 1) 44 (by decide +kernel) rfl rfl ?_
        refine w_load (.iload_n 2) 45 (by decide +kernel) rfl rfl ?_
        refine w_callV2 182 8 3 48 (by decide +kernel) sh_76 (Nat.le_of_ble_eq_true rfl) rfl rfl (by decide) (by omega) ?_
        refine k_182 hS.1 (by omega) (by omega) (fun r11 Nr11 hTr11 hr11 => ?_)
        have kn12 := (hTr11.2 (76) 0 (by (try dsimp only); omega)).trans en1
        have hS := hS.tr hTr11 (by intro i k; first | exact rfl | exact fun h => h.elim | omega | (dsimp only; omega) | (simp only [Hs, Tl, Sc, isHs, isScr, isTs] at *; omega))
        dsimp only [Option.toList, List.cons_append, List.nil_append]
        refine w_pure .iadd 49 (by decide +kernel) rfl rfl ?_
        refine w_goto 54 (by decide +kernel) ?_
        exact w_ret (by decide +kernel) (hq _ Nr11 hS trivial)
      · skip
        refine w_ieq 52 39 (by decide +kernel) (fun _ => ?_) (fun hz => absurd hz (by decide))
        refine w_push (-3) 54 (by decide +kernel) ?_
        exact w_ret (by decide +kernel) (hq _ N hS trivial)
    · skip
      refine w_ine 25 22 (by decide +kernel) (fun hz => absurd hz (by decide)) (fun _ => ?_)
      refine w_push (-2) 24 (by decide +kernel) ?_
      exact w_ret (by decide +kernel) (hq _ N hS trivial)
  · skip
    refine w_ine 10 8 (by decide +kernel) (fun hz => absurd hz (by decide)) (fun _ => ?_)
    refine w_push (-1) 9 (by decide +kernel) ?_
    exact w_ret (by decide +kernel) (hq _ N hS trivial)
-- X8_toGive
set_option maxRecDepth 10000 in
theorem k_184 {d : Nat} {M : Mt} {L : Lt} {Q : Option Value → Mt → Lt → Prop} {g : Int32} (hI : Inv M)  (hd : 6 ≤ d) (hq : ∀ (r : Int32) (N : Mt), St (fun i k => (i = 78 ∧ 22 ≤ k) ∨ i = 83 ∨ i = 84 ∨ (i = 76 ∧ (k = 7 ∨ k = 11))) M N → True → Q (some (.int r)) N L) : Wp d 184 0 [.ref 76, .int g, .null, .null] [] M L Q := by
  refine (show ∀ N : Mt, N = M → St (fun i k => (i = 78 ∧ 22 ≤ k) ∨ i = 83 ∨ i = 84 ∨ (i = 76 ∧ (k = 7 ∨ k = 11))) M N → Wp d 184 0 [.ref 76, .int g, .null, .null] [] N L Q from ?_) M rfl (St.rf hI)
  intro N hNM hS
  refine w_load (.aload_n 0) 1 (by decide +kernel) rfl rfl ?_
  refine w_load (.iload_n 1) 2 (by decide +kernel) rfl rfl ?_
  refine w_callV1 150 8 2 5 (by decide +kernel) sh_76 (Nat.le_of_ble_eq_true rfl) rfl (by decide) (by omega) ?_
  obtain ⟨n1, hn1, en1⟩ := inv_g hS.1
  refine k_150 hS.1 (by omega) en1 (by omega) (fun r2 hr2 => ?_)
  dsimp only [Option.toList, List.cons_append, List.nil_append]
  rcases hr2 with ⟨rfl, k3, hk3, rfl⟩ | ⟨rfl, hnok3⟩
  · skip
    refine w_ine 10 8 (by decide +kernel) (fun _ => ?_) (fun hz => absurd hz (by decide))
    refine w_load (.aload_n 0) 11 (by decide +kernel) rfl rfl ?_
    refine w_getR (k := 2) (r := 78) 14 (by decide +kernel) sh_76 rfl ?_
    refine w_pushN 15 16 (by decide +kernel) ?_
    refine w_ialdN 17 (by decide +kernel) sh_78 (by omega) (by omega) ?_
    refine w_load (.iload_n 1) 18 (by decide +kernel) rfl rfl ?_
    refine w_callS2 135 2 21 (by decide +kernel) (Nat.le_of_ble_eq_true rfl) rfl rfl (by decide) (by omega) ?_
    refine k_135 hS.1  (by omega) (fun r5 hr5 => ?_)
    dsimp only [Option.toList, List.cons_append, List.nil_append]
    rcases hr5 with ⟨rfl, hbr5⟩ | ⟨rfl, hbr5⟩
    · skip
      refine w_ine 27 24 (by decide +kernel) (fun _ => ?_) (fun hz => absurd hz (by decide))
      refine w_pushN 0 28 (by decide +kernel) ?_
      refine w_store (ls' := [.ref 76, .int (nI k3), .int (nI 0), .null]) (.istore_n 2) 29 (by decide +kernel) rfl rfl ?_
      refine w_pushN 1 30 (by decide +kernel) ?_
      refine w_store (ls' := [.ref 76, .int (nI k3), .int (nI 0), .int (nI 1)]) (.istore_n 3) 31 (by decide +kernel) rfl rfl ?_
      have LP_31 : ∀ (kk : Nat) (N_31 : Mt) (x2_31 : Int32) (g3 : Nat), St (fun i k => (i = 78 ∧ 22 ≤ k) ∨ i = 83 ∨ i = 84 ∨ (i = 76 ∧ (k = 7 ∨ k = 11))) M N_31 → g3 ≤ 4 → 4 - g3 < kk → Wp d 184 31 [.ref 76, .int (nI k3), .int x2_31, .int (nI g3)] [] N_31 L Q := by
        intro kk
        induction kk with
        | zero => intro N_31 x2_31 g3 hS hi0_31 hm_31; exact absurd hm_31 (Nat.not_lt_zero _)
        | succ kk ih_31 =>
          intro N_31 x2_31 g3 hS hi0_31 hm_31
          refine w_load (.iload_n 3) 32 (by decide +kernel) rfl rfl ?_
          refine w_pushN 4 33 (by decide +kernel) ?_
          refine w_cgeN 63 36 (by decide +kernel) (by omega) (by omega) (fun h7 => ?_) (fun h7 => ?_)
          · skip
            refine w_load (.iload_n 2) 64 (by decide +kernel) rfl rfl ?_
            exact w_ret (by decide +kernel) (hq _ N_31 hS trivial)
          · skip
            refine w_load (.aload_n 0) 37 (by decide +kernel) rfl rfl ?_
            refine w_load (.iload_n 1) 38 (by decide +kernel) rfl rfl ?_
            refine w_load (.iload_n 3) 39 (by decide +kernel) rfl rfl ?_
            refine w_callV2 182 8 3 42 (by decide +kernel) sh_76 (Nat.le_of_ble_eq_true rfl) rfl rfl (by decide) (by omega) ?_
            refine k_182 hS.1 (by omega) (by omega) (fun r8 Nr8 hTr8 hr8 => ?_)
            have hS := hS.tr hTr8 (by intro i k; first | exact rfl | exact fun h => h.elim | omega | (dsimp only; omega) | (simp only [Hs, Tl, Sc, isHs, isScr, isTs] at *; omega))
            dsimp only [Option.toList, List.cons_append, List.nil_append]
            refine w_load (.aload_n 0) 43 (by decide +kernel) rfl rfl ?_
            refine w_load (.iload_n 1) 44 (by decide +kernel) rfl rfl ?_
            refine w_load (.iload_n 2) 45 (by decide +kernel) rfl rfl ?_
            refine w_callV2 182 8 3 48 (by decide +kernel) sh_76 (Nat.le_of_ble_eq_true rfl) rfl rfl (by decide) (by omega) ?_
            refine k_182 hS.1 (by omega) (by omega) (fun r9 Nr9 hTr9 hr9 => ?_)
            have hS := hS.tr hTr9 (by intro i k; first | exact rfl | exact fun h => h.elim | omega | (dsimp only; omega) | (simp only [Hs, Tl, Sc, isHs, isScr, isTs] at *; omega))
            dsimp only [Option.toList, List.cons_append, List.nil_append]
            refine w_cle 55 51 (by decide +kernel) (fun h10 => ?_) (fun h10 => ?_)
            · skip
              refine w_load (.iload_n 2) 56 (by decide +kernel) rfl rfl ?_
              refine w_store (ls' := [.ref 76, .int (nI k3), .int x2_31, .int (nI g3)]) (.istore_n 2) 57 (by decide +kernel) rfl rfl ?_
              refine w_iincN (z := 3) (g3 + 1) 60 (by decide +kernel) rfl (Nat.le_of_ble_eq_true rfl) rfl rfl ?_
              show Wp _ _ _ [.ref 76, .int (nI k3), .int x2_31, .int (nI (g3 + 1))] _ _ _ _
              refine w_goto 31 (by decide +kernel) ?_
              exact ih_31 Nr9 _ (g3 + 1) hS (by omega) (by omega)
            · skip
              refine w_load (.iload_n 3) 52 (by decide +kernel) rfl rfl ?_
              refine w_goto 56 (by decide +kernel) ?_
              refine w_store (ls' := [.ref 76, .int (nI k3), .int (nI g3), .int (nI g3)]) (.istore_n 2) 57 (by decide +kernel) rfl rfl ?_
              refine w_iincN (z := 3) (g3 + 1) 60 (by decide +kernel) rfl (Nat.le_of_ble_eq_true rfl) rfl rfl ?_
              show Wp _ _ _ [.ref 76, .int (nI k3), .int (nI g3), .int (nI (g3 + 1))] _ _ _ _
              refine w_goto 31 (by decide +kernel) ?_
              exact ih_31 Nr9 _ (g3 + 1) hS (by omega) (by omega)
      exact LP_31 _ N _ 1 hS (by omega) (Nat.lt_succ_self _)
    · skip
      refine w_ine 27 24 (by decide +kernel) (fun hz => absurd hz (by decide)) (fun _ => ?_)
      refine w_push (-3) 26 (by decide +kernel) ?_
      exact w_ret (by decide +kernel) (hq _ N hS trivial)
  · skip
    refine w_ine 10 8 (by decide +kernel) (fun hz => absurd hz (by decide)) (fun _ => ?_)
    refine w_push (-1) 9 (by decide +kernel) ?_
    exact w_ret (by decide +kernel) (hq _ N hS trivial)
-- X8_meanWith
set_option maxRecDepth 10000 in
theorem k_185 {d : Nat} {M : Mt} {L : Lt} {Q : Option Value → Mt → Lt → Prop} {g o w : Nat} {a : Int32} {b : Int32} (hI : Inv M) (hg : g < 5) (ho : o < 5) (hw : w < 5) (hd : 5 ≤ d) (hq : ∀ (r : Int32) (N : Mt), St (fun i k => (i = 78 ∧ 22 ≤ k) ∨ i = 83 ∨ i = 84 ∨ (i = 76 ∧ (k = 7 ∨ k = 11))) M N → True → Q (some (.int r)) N L) : Wp d 185 0 [.ref 76, .int (nI g), .int a, .int (nI o), .int b, .int (nI w)] [] M L Q := by
  refine (show ∀ N : Mt, N = M → St (fun i k => (i = 78 ∧ 22 ≤ k) ∨ i = 83 ∨ i = 84 ∨ (i = 76 ∧ (k = 7 ∨ k = 11))) M N → Wp d 185 0 [.ref 76, .int (nI g), .int a, .int (nI o), .int b, .int (nI w)] [] N L Q from ?_) M rfl (St.rf hI)
  intro N hNM hS
  refine w_load (.aload_n 0) 1 (by decide +kernel) rfl rfl ?_
  refine w_pushN 0 2 (by decide +kernel) ?_
  refine w_pushN 2 3 (by decide +kernel) ?_
  refine w_callV2 160 8 4 6 (by decide +kernel) sh_76 (Nat.le_of_ble_eq_true rfl) rfl rfl (by decide) (by omega) ?_
  refine k_160 hS.1 (by omega) (by omega) (by omega) (fun Nr1 hTr1 hr1 => ?_)
  have hS := hS.tr hTr1 (by intro i k; first | exact rfl | exact fun h => h.elim | omega | (dsimp only; omega) | (simp only [Hs, Tl, Sc, isHs, isScr, isTs] at *; omega))
  dsimp only [Option.toList, List.nil_append]
  refine w_load (.aload_n 0) 7 (by decide +kernel) rfl rfl ?_
  refine w_getR (k := 2) (r := 78) 10 (by decide +kernel) sh_76 rfl ?_
  refine w_pushN 44 12 (by decide +kernel) ?_
  refine w_load (.iload_n 1) 13 (by decide +kernel) rfl rfl ?_
  refine w_addN (44 + g) 14 (by decide +kernel) (by omega) ?_
  refine w_load (.iload_n 2) 15 (by decide +kernel) rfl rfl ?_
  refine w_iastE 16 (by decide +kernel) sh_78 (by omega) (by omega) hS (rg_78 (fun h1 h2 => by first | omega | exact Or.inl rfl | exact Or.inr ⟨_, by omega, rfl⟩ | exact inv_78 hS.1 _ (by omega) (by omega) | exact inv_82 hS.1 _ (by omega) (by omega) | exact inv_89 hS.1 _ (by omega) (by omega))) (by first | exact rfl | omega | (dsimp only; omega) | (simp only [Hs, Tl, Sc, isHs, isScr, isTs] at *; omega)) (fun Nq2 hS hq2 oq2 mq2 => ?_)
  refine w_load (.aload_n 0) 17 (by decide +kernel) rfl rfl ?_
  refine w_getR (k := 2) (r := 78) 20 (by decide +kernel) sh_76 rfl ?_
  refine w_pushN 44 22 (by decide +kernel) ?_
  refine w_load (.iload_n 3) 23 (by decide +kernel) rfl rfl ?_
  refine w_addN (44 + o) 24 (by decide +kernel) (by omega) ?_
  refine w_load (.iload 4) 26 (by decide +kernel) rfl rfl ?_
  refine w_iastE 27 (by decide +kernel) sh_78 (by omega) (by omega) hS (rg_78 (fun h1 h2 => by first | omega | exact Or.inl rfl | exact Or.inr ⟨_, by omega, rfl⟩ | exact inv_78 hS.1 _ (by omega) (by omega) | exact inv_82 hS.1 _ (by omega) (by omega) | exact inv_89 hS.1 _ (by omega) (by omega))) (by first | exact rfl | omega | (dsimp only; omega) | (simp only [Hs, Tl, Sc, isHs, isScr, isTs] at *; omega)) (fun Nq3 hS hq3 oq3 mq3 => ?_)
  refine w_load (.aload_n 0) 28 (by decide +kernel) rfl rfl ?_
  refine w_load (.iload 5) 30 (by decide +kernel) rfl rfl ?_
  refine w_callV1 181 8 4 33 (by decide +kernel) sh_76 (Nat.le_of_ble_eq_true rfl) rfl (by decide) (by omega) ?_
  refine k_181 hS.1 (by omega) (by omega) (fun r4 Nr4 hTr4 hr4 => ?_)
  have hS := hS.tr hTr4 (by intro i k; first | exact rfl | exact fun h => h.elim | omega | (dsimp only; omega) | (simp only [Hs, Tl, Sc, isHs, isScr, isTs] at *; omega))
  dsimp only [Option.toList, List.cons_append, List.nil_append]
  exact w_ret (by decide +kernel) (hq _ Nr4 hS trivial)
-- X8_rests
set_option maxRecDepth 10000 in
theorem k_186 {d : Nat} {M : Mt} {L : Lt} {Q : Option Value → Mt → Lt → Prop} {g : Int32} {o : Int32} {a : Int32} (hI : Inv M)  (hd : 6 ≤ d) (hq : ∀ (r : Int32) (N : Mt), St (fun i k => (i = 78 ∧ 22 ≤ k) ∨ i = 83 ∨ i = 84 ∨ (i = 76 ∧ (k = 7 ∨ k = 11))) M N → True → Q (some (.int r)) N L) : Wp d 186 0 [.ref 76, .int g, .int o, .int a, .null, .null, .null, .null, .null, .null, .null] [] M L Q := by
  refine (show ∀ N : Mt, N = M → St (fun i k => (i = 78 ∧ 22 ≤ k) ∨ i = 83 ∨ i = 84 ∨ (i = 76 ∧ (k = 7 ∨ k = 11))) M N → Wp d 186 0 [.ref 76, .int g, .int o, .int a, .null, .null, .null, .null, .null, .null, .null] [] N L Q from ?_) M rfl (St.rf hI)
  intro N hNM hS
  refine w_load (.aload_n 0) 1 (by decide +kernel) rfl rfl ?_
  refine w_load (.iload_n 1) 2 (by decide +kernel) rfl rfl ?_
  refine w_callV1 150 8 2 5 (by decide +kernel) sh_76 (Nat.le_of_ble_eq_true rfl) rfl (by decide) (by omega) ?_
  obtain ⟨n1, hn1, en1⟩ := inv_g hS.1
  refine k_150 hS.1 (by omega) en1 (by omega) (fun r2 hr2 => ?_)
  dsimp only [Option.toList, List.cons_append, List.nil_append]
  rcases hr2 with ⟨rfl, k3, hk3, rfl⟩ | ⟨rfl, hnok3⟩
  · skip
    refine w_ieq 16 8 (by decide +kernel) (fun hz => absurd hz (by decide)) (fun _ => ?_)
    refine w_load (.aload_n 0) 9 (by decide +kernel) rfl rfl ?_
    refine w_load (.iload_n 2) 10 (by decide +kernel) rfl rfl ?_
    refine w_callV1 150 8 2 13 (by decide +kernel) sh_76 (Nat.le_of_ble_eq_true rfl) rfl (by decide) (by omega) ?_
    refine k_150 hS.1 (by omega) en1 (by omega) (fun r5 hr5 => ?_)
    dsimp only [Option.toList, List.cons_append, List.nil_append]
    rcases hr5 with ⟨rfl, k6, hk6, rfl⟩ | ⟨rfl, hnok6⟩
    · skip
      refine w_ine 18 16 (by decide +kernel) (fun _ => ?_) (fun hz => absurd hz (by decide))
      refine w_load (.iload_n 1) 19 (by decide +kernel) rfl rfl ?_
      refine w_load (.iload_n 2) 20 (by decide +kernel) rfl rfl ?_
      refine w_ceqN 33 23 (by decide +kernel) (by omega) (by omega) (fun h8 => ?_) (fun h8 => ?_)
      · skip
        refine w_push (-2) 35 (by decide +kernel) ?_
        exact w_ret (by decide +kernel) (hq _ N hS trivial)
      · skip
        refine w_load (.iload_n 3) 24 (by decide +kernel) rfl rfl ?_
        refine w_pure .i2l 25 (by decide +kernel) rfl rfl ?_
        refine w_pushL (0) 26 (by decide +kernel) ?_
        refine w_pushL (1) 27 (by decide +kernel) ?_
        refine w_callSL 134 6 30 (by decide +kernel) (Nat.le_of_ble_eq_true rfl) rfl (by omega) ?_
        refine k_134 hS.1  (by omega) (fun r9 hr9 => ?_)
        dsimp only [Option.toList, List.cons_append, List.nil_append]
        rcases hr9 with ⟨rfl, hlok11, hhik11⟩ | ⟨rfl, hnok11⟩
        · skip
          obtain ⟨k11, hlk11, hhk11, rfl⟩ := in_k (lo := 0) (hi := 1) hlok11 hhik11 (by decide)
          refine w_ine 36 33 (by decide +kernel) (fun _ => ?_) (fun hz => absurd hz (by decide))
          refine w_load (.aload_n 0) 37 (by decide +kernel) rfl rfl ?_
          refine w_getR (k := 2) (r := 78) 40 (by decide +kernel) sh_76 rfl ?_
          refine w_pushN 15 42 (by decide +kernel) ?_
          refine w_ialdN 43 (by decide +kernel) sh_78 (by omega) (by omega) ?_
          refine w_load (.iload_n 1) 44 (by decide +kernel) rfl rfl ?_
          refine w_callS2 135 2 47 (by decide +kernel) (Nat.le_of_ble_eq_true rfl) rfl rfl (by decide) (by omega) ?_
          refine k_135 hS.1  (by omega) (fun r13 hr13 => ?_)
          dsimp only [Option.toList, List.cons_append, List.nil_append]
          rcases hr13 with ⟨rfl, hbr13⟩ | ⟨rfl, hbr13⟩
          · skip
            refine w_ieq 64 50 (by decide +kernel) (fun hz => absurd hz (by decide)) (fun _ => ?_)
            refine w_load (.aload_n 0) 51 (by decide +kernel) rfl rfl ?_
            refine w_getR (k := 2) (r := 78) 54 (by decide +kernel) sh_76 rfl ?_
            refine w_pushN 15 56 (by decide +kernel) ?_
            refine w_ialdN 57 (by decide +kernel) sh_78 (by omega) (by omega) ?_
            refine w_load (.iload_n 2) 58 (by decide +kernel) rfl rfl ?_
            refine w_callS2 135 2 61 (by decide +kernel) (Nat.le_of_ble_eq_true rfl) rfl rfl (by decide) (by omega) ?_
            refine k_135 hS.1  (by omega) (fun r15 hr15 => ?_)
            dsimp only [Option.toList, List.cons_append, List.nil_append]
            rcases hr15 with ⟨rfl, hbr15⟩ | ⟨rfl, hbr15⟩
            · skip
              refine w_ine 67 64 (by decide +kernel) (fun _ => ?_) (fun hz => absurd hz (by decide))
              refine w_pushN 0 68 (by decide +kernel) ?_
              refine w_store (ls' := [.ref 76, .int (nI k3), .int (nI k6), .int (nI k11), .int (nI 0), .null, .null, .null, .null, .null, .null]) (.istore 4) 70 (by decide +kernel) rfl rfl ?_
              refine w_push (-9) 72 (by decide +kernel) ?_
              refine w_store (ls' := [.ref 76, .int (nI k3), .int (nI k6), .int (nI k11), .int (nI 0), .int (-9), .null, .null, .null, .null, .null]) (.istore 5) 74 (by decide +kernel) rfl rfl ?_
              refine w_pushN 0 75 (by decide +kernel) ?_
              refine w_store (ls' := [.ref 76, .int (nI k3), .int (nI k6), .int (nI k11), .int (nI 0), .int (-9), .int (nI 0), .null, .null, .null, .null]) (.istore 6) 77 (by decide +kernel) rfl rfl ?_
              have LP_77 : ∀ (kk : Nat) (N_77 : Mt) (x4_77 : Int32) (x5_77 : Int32) (g6 : Nat), St (fun i k => (i = 78 ∧ 22 ≤ k) ∨ i = 83 ∨ i = 84 ∨ (i = 76 ∧ (k = 7 ∨ k = 11))) M N_77 → g6 ≤ 16 → 16 - g6 < kk → Wp d 186 77 [.ref 76, .int (nI k3), .int (nI k6), .int (nI k11), .int x4_77, .int x5_77, .int (nI g6), .null, .null, .null, .null] [] N_77 L Q := by
                intro kk
                induction kk with
                | zero => intro N_77 x4_77 x5_77 g6 hS hi0_77 hm_77; exact absurd hm_77 (Nat.not_lt_zero _)
                | succ kk ih_77 =>
                  intro N_77 x4_77 x5_77 g6 hS hi0_77 hm_77
                  refine w_load (.iload 6) 79 (by decide +kernel) rfl rfl ?_
                  refine w_pushN 16 81 (by decide +kernel) ?_
                  refine w_cgeN 222 84 (by decide +kernel) (by omega) (by omega) (fun h17 => ?_) (fun h17 => ?_)
                  · skip
                    refine w_load (.iload_n 3) 223 (by decide +kernel) rfl rfl ?_
                    refine w_ineN 231 226 (by decide +kernel) (by omega) (fun h18 => ?_) (fun h18 => ?_)
                    · skip
                      refine w_load (.iload 5) 233 (by decide +kernel) rfl rfl ?_
                      exact w_ret (by decide +kernel) (hq _ N_77 hS trivial)
                    · skip
                      refine w_load (.iload 4) 228 (by decide +kernel) rfl rfl ?_
                      refine w_goto 233 (by decide +kernel) ?_
                      exact w_ret (by decide +kernel) (hq _ N_77 hS trivial)
                  · skip
                    refine w_load (.iload 6) 86 (by decide +kernel) rfl rfl ?_
                    refine w_pushN 4 87 (by decide +kernel) ?_
                    refine w_divN (g6 / 4) 88 (by decide +kernel) (by decide) (by decide) (by omega) rfl ?_
                    refine w_store (ls' := [.ref 76, .int (nI k3), .int (nI k6), .int (nI k11), .int x4_77, .int x5_77, .int (nI g6), .int (nI ((g6 / 4))), .null, .null, .null]) (.istore 7) 90 (by decide +kernel) rfl rfl ?_
                    refine w_load (.iload 6) 92 (by decide +kernel) rfl rfl ?_
                    refine w_pushN 4 93 (by decide +kernel) ?_
                    refine w_remN (g6 % 4) 94 (by decide +kernel) (by decide) (by decide) (by omega) rfl ?_
                    refine w_store (ls' := [.ref 76, .int (nI k3), .int (nI k6), .int (nI k11), .int x4_77, .int x5_77, .int (nI g6), .int (nI ((g6 / 4))), .int (nI ((g6 % 4))), .null, .null]) (.istore 8) 96 (by decide +kernel) rfl rfl ?_
                    refine w_pushN 1 97 (by decide +kernel) ?_
                    refine w_store (ls' := [.ref 76, .int (nI k3), .int (nI k6), .int (nI k11), .int x4_77, .int x5_77, .int (nI g6), .int (nI ((g6 / 4))), .int (nI ((g6 % 4))), .int (nI 1), .null]) (.istore 9) 99 (by decide +kernel) rfl rfl ?_
                    refine w_pushN 0 100 (by decide +kernel) ?_
                    refine w_store (ls' := [.ref 76, .int (nI k3), .int (nI k6), .int (nI k11), .int x4_77, .int x5_77, .int (nI g6), .int (nI ((g6 / 4))), .int (nI ((g6 % 4))), .int (nI 1), .int (nI 0)]) (.istore 10) 102 (by decide +kernel) rfl rfl ?_
                    have LP_102 : ∀ (kk : Nat) (N_102 : Mt) (x9_102 : Int32) (g10 : Nat), St (fun i k => (i = 78 ∧ 22 ≤ k) ∨ i = 83 ∨ i = 84 ∨ (i = 76 ∧ (k = 7 ∨ k = 11))) M N_102 → g10 ≤ 4 → 4 - g10 < kk → Wp d 186 102 [.ref 76, .int (nI k3), .int (nI k6), .int (nI k11), .int x4_77, .int x5_77, .int (nI g6), .int (nI ((g6 / 4))), .int (nI ((g6 % 4))), .int x9_102, .int (nI g10)] [] N_102 L Q := by
                      intro kk
                      induction kk with
                      | zero => intro N_102 x9_102 g10 hS hi0_102 hm_102; exact absurd hm_102 (Nat.not_lt_zero _)
                      | succ kk ih_102 =>
                        intro N_102 x9_102 g10 hS hi0_102 hm_102
                        refine w_load (.iload 10) 104 (by decide +kernel) rfl rfl ?_
                        refine w_pushN 4 105 (by decide +kernel) ?_
                        refine w_cgeN 176 108 (by decide +kernel) (by omega) (by omega) (fun h19 => ?_) (fun h19 => ?_)
                        · skip
                          refine w_load (.iload 9) 178 (by decide +kernel) rfl rfl ?_
                          refine w_ieq 197 181 (by decide +kernel) (fun h20 => ?_) (fun h20 => ?_)
                          · skip
                            refine w_load (.iload 5) 199 (by decide +kernel) rfl rfl ?_
                            refine w_store (ls' := [.ref 76, .int (nI k3), .int (nI k6), .int (nI k11), .int x4_77, .int x5_77, .int (nI g6), .int (nI ((g6 / 4))), .int (nI ((g6 % 4))), .int x9_102, .int (nI g10)]) (.istore 5) 201 (by decide +kernel) rfl rfl ?_
                            refine w_load (.iload 4) 203 (by decide +kernel) rfl rfl ?_
                            refine w_load (.iload 9) 205 (by decide +kernel) rfl rfl ?_
                            refine w_ieq 212 208 (by decide +kernel) (fun h21 => ?_) (fun h21 => ?_)
                            · skip
                              refine w_pushN 0 213 (by decide +kernel) ?_
                              refine w_pure .iadd 214 (by decide +kernel) rfl rfl ?_
                              refine w_topi (fun v22 ev22 => ?_)
                              refine w_store (ls' := [.ref 76, .int (nI k3), .int (nI k6), .int (nI k11), .int v22, .int x5_77, .int (nI g6), .int (nI ((g6 / 4))), .int (nI ((g6 % 4))), .int x9_102, .int (nI g10)]) (.istore 4) 216 (by decide +kernel) rfl rfl ?_
                              refine w_iincN (z := 6) (g6 + 1) 219 (by decide +kernel) rfl (Nat.le_of_ble_eq_true rfl) rfl rfl ?_
                              show Wp _ _ _ [.ref 76, .int (nI k3), .int (nI k6), .int (nI k11), .int v22, .int x5_77, .int (nI (g6 + 1)), .int (nI ((g6 / 4))), .int (nI ((g6 % 4))), .int x9_102, .int (nI g10)] _ _ _ _
                              refine w_goto 77 (by decide +kernel) ?_
                              refine Wp.forget (ls := [.ref 76, .int (nI k3), .int (nI k6), .int (nI k11), .int v22, .int x5_77, .int (nI (g6 + 1)), .null, .null, .null, .null]) ⟨Or.inl rfl, Or.inl rfl, Or.inl rfl, Or.inl rfl, Or.inl rfl, Or.inl rfl, Or.inl rfl, Or.inr ⟨rfl, rfl⟩, Or.inr ⟨rfl, rfl⟩, Or.inr ⟨rfl, rfl⟩, Or.inr ⟨rfl, rfl⟩, trivial⟩ ?_
                              exact ih_77 N_102 _ _ (g6 + 1) hS (by omega) (by omega)
                            · skip
                              refine w_pushN 1 209 (by decide +kernel) ?_
                              refine w_goto 213 (by decide +kernel) ?_
                              refine w_pure .iadd 214 (by decide +kernel) rfl rfl ?_
                              refine w_topi (fun v23 ev23 => ?_)
                              refine w_store (ls' := [.ref 76, .int (nI k3), .int (nI k6), .int (nI k11), .int v23, .int x5_77, .int (nI g6), .int (nI ((g6 / 4))), .int (nI ((g6 % 4))), .int x9_102, .int (nI g10)]) (.istore 4) 216 (by decide +kernel) rfl rfl ?_
                              refine w_iincN (z := 6) (g6 + 1) 219 (by decide +kernel) rfl (Nat.le_of_ble_eq_true rfl) rfl rfl ?_
                              show Wp _ _ _ [.ref 76, .int (nI k3), .int (nI k6), .int (nI k11), .int v23, .int x5_77, .int (nI (g6 + 1)), .int (nI ((g6 / 4))), .int (nI ((g6 % 4))), .int x9_102, .int (nI g10)] _ _ _ _
                              refine w_goto 77 (by decide +kernel) ?_
                              refine Wp.forget (ls := [.ref 76, .int (nI k3), .int (nI k6), .int (nI k11), .int v23, .int x5_77, .int (nI (g6 + 1)), .null, .null, .null, .null]) ⟨Or.inl rfl, Or.inl rfl, Or.inl rfl, Or.inl rfl, Or.inl rfl, Or.inl rfl, Or.inl rfl, Or.inr ⟨rfl, rfl⟩, Or.inr ⟨rfl, rfl⟩, Or.inr ⟨rfl, rfl⟩, Or.inr ⟨rfl, rfl⟩, trivial⟩ ?_
                              exact ih_77 N_102 _ _ (g6 + 1) hS (by omega) (by omega)
                          · skip
                            refine w_load (.iload 4) 183 (by decide +kernel) rfl rfl ?_
                            refine w_ine 197 186 (by decide +kernel) (fun h24 => ?_) (fun h24 => ?_)
                            · skip
                              refine w_load (.iload 5) 199 (by decide +kernel) rfl rfl ?_
                              refine w_store (ls' := [.ref 76, .int (nI k3), .int (nI k6), .int (nI k11), .int x4_77, .int x5_77, .int (nI g6), .int (nI ((g6 / 4))), .int (nI ((g6 % 4))), .int x9_102, .int (nI g10)]) (.istore 5) 201 (by decide +kernel) rfl rfl ?_
                              refine w_load (.iload 4) 203 (by decide +kernel) rfl rfl ?_
                              refine w_load (.iload 9) 205 (by decide +kernel) rfl rfl ?_
                              refine w_ieq 212 208 (by decide +kernel) (fun h25 => ?_) (fun h25 => ?_)
                              · skip
                                refine w_pushN 0 213 (by decide +kernel) ?_
                                refine w_pure .iadd 214 (by decide +kernel) rfl rfl ?_
                                refine w_topi (fun v26 ev26 => ?_)
                                refine w_store (ls' := [.ref 76, .int (nI k3), .int (nI k6), .int (nI k11), .int v26, .int x5_77, .int (nI g6), .int (nI ((g6 / 4))), .int (nI ((g6 % 4))), .int x9_102, .int (nI g10)]) (.istore 4) 216 (by decide +kernel) rfl rfl ?_
                                refine w_iincN (z := 6) (g6 + 1) 219 (by decide +kernel) rfl (Nat.le_of_ble_eq_true rfl) rfl rfl ?_
                                show Wp _ _ _ [.ref 76, .int (nI k3), .int (nI k6), .int (nI k11), .int v26, .int x5_77, .int (nI (g6 + 1)), .int (nI ((g6 / 4))), .int (nI ((g6 % 4))), .int x9_102, .int (nI g10)] _ _ _ _
                                refine w_goto 77 (by decide +kernel) ?_
                                refine Wp.forget (ls := [.ref 76, .int (nI k3), .int (nI k6), .int (nI k11), .int v26, .int x5_77, .int (nI (g6 + 1)), .null, .null, .null, .null]) ⟨Or.inl rfl, Or.inl rfl, Or.inl rfl, Or.inl rfl, Or.inl rfl, Or.inl rfl, Or.inl rfl, Or.inr ⟨rfl, rfl⟩, Or.inr ⟨rfl, rfl⟩, Or.inr ⟨rfl, rfl⟩, Or.inr ⟨rfl, rfl⟩, trivial⟩ ?_
                                exact ih_77 N_102 _ _ (g6 + 1) hS (by omega) (by omega)
                              · skip
                                refine w_pushN 1 209 (by decide +kernel) ?_
                                refine w_goto 213 (by decide +kernel) ?_
                                refine w_pure .iadd 214 (by decide +kernel) rfl rfl ?_
                                refine w_topi (fun v27 ev27 => ?_)
                                refine w_store (ls' := [.ref 76, .int (nI k3), .int (nI k6), .int (nI k11), .int v27, .int x5_77, .int (nI g6), .int (nI ((g6 / 4))), .int (nI ((g6 % 4))), .int x9_102, .int (nI g10)]) (.istore 4) 216 (by decide +kernel) rfl rfl ?_
                                refine w_iincN (z := 6) (g6 + 1) 219 (by decide +kernel) rfl (Nat.le_of_ble_eq_true rfl) rfl rfl ?_
                                show Wp _ _ _ [.ref 76, .int (nI k3), .int (nI k6), .int (nI k11), .int v27, .int x5_77, .int (nI (g6 + 1)), .int (nI ((g6 / 4))), .int (nI ((g6 % 4))), .int x9_102, .int (nI g10)] _ _ _ _
                                refine w_goto 77 (by decide +kernel) ?_
                                refine Wp.forget (ls := [.ref 76, .int (nI k3), .int (nI k6), .int (nI k11), .int v27, .int x5_77, .int (nI (g6 + 1)), .null, .null, .null, .null]) ⟨Or.inl rfl, Or.inl rfl, Or.inl rfl, Or.inl rfl, Or.inl rfl, Or.inl rfl, Or.inl rfl, Or.inr ⟨rfl, rfl⟩, Or.inr ⟨rfl, rfl⟩, Or.inr ⟨rfl, rfl⟩, Or.inr ⟨rfl, rfl⟩, trivial⟩ ?_
                                exact ih_77 N_102 _ _ (g6 + 1) hS (by omega) (by omega)
                            · skip
                              refine w_pushN 10 188 (by decide +kernel) ?_
                              refine w_load (.iload 7) 190 (by decide +kernel) rfl rfl ?_
                              refine w_mulN (10 * ((g6 / 4))) 191 (by decide +kernel) rfl ?_
                              refine w_load (.iload 8) 193 (by decide +kernel) rfl rfl ?_
                              refine w_addN (10 * ((g6 / 4)) + (g6 % 4)) 194 (by decide +kernel) (by omega) ?_
                              refine w_goto 199 (by decide +kernel) ?_
                              refine w_store (ls' := [.ref 76, .int (nI k3), .int (nI k6), .int (nI k11), .int x4_77, .int (nI (10 * ((g6 / 4)) + (g6 % 4))), .int (nI g6), .int (nI ((g6 / 4))), .int (nI ((g6 % 4))), .int x9_102, .int (nI g10)]) (.istore 5) 201 (by decide +kernel) rfl rfl ?_
                              refine w_load (.iload 4) 203 (by decide +kernel) rfl rfl ?_
                              refine w_load (.iload 9) 205 (by decide +kernel) rfl rfl ?_
                              refine w_ieq 212 208 (by decide +kernel) (fun h28 => ?_) (fun h28 => ?_)
                              · skip
                                refine w_pushN 0 213 (by decide +kernel) ?_
                                refine w_pure .iadd 214 (by decide +kernel) rfl rfl ?_
                                refine w_topi (fun v29 ev29 => ?_)
                                refine w_store (ls' := [.ref 76, .int (nI k3), .int (nI k6), .int (nI k11), .int v29, .int (nI (10 * ((g6 / 4)) + (g6 % 4))), .int (nI g6), .int (nI ((g6 / 4))), .int (nI ((g6 % 4))), .int x9_102, .int (nI g10)]) (.istore 4) 216 (by decide +kernel) rfl rfl ?_
                                refine w_iincN (z := 6) (g6 + 1) 219 (by decide +kernel) rfl (Nat.le_of_ble_eq_true rfl) rfl rfl ?_
                                show Wp _ _ _ [.ref 76, .int (nI k3), .int (nI k6), .int (nI k11), .int v29, .int (nI (10 * ((g6 / 4)) + (g6 % 4))), .int (nI (g6 + 1)), .int (nI ((g6 / 4))), .int (nI ((g6 % 4))), .int x9_102, .int (nI g10)] _ _ _ _
                                refine w_goto 77 (by decide +kernel) ?_
                                refine Wp.forget (ls := [.ref 76, .int (nI k3), .int (nI k6), .int (nI k11), .int v29, .int (nI (10 * ((g6 / 4)) + (g6 % 4))), .int (nI (g6 + 1)), .null, .null, .null, .null]) ⟨Or.inl rfl, Or.inl rfl, Or.inl rfl, Or.inl rfl, Or.inl rfl, Or.inl rfl, Or.inl rfl, Or.inr ⟨rfl, rfl⟩, Or.inr ⟨rfl, rfl⟩, Or.inr ⟨rfl, rfl⟩, Or.inr ⟨rfl, rfl⟩, trivial⟩ ?_
                                exact ih_77 N_102 _ _ (g6 + 1) hS (by omega) (by omega)
                              · skip
                                refine w_pushN 1 209 (by decide +kernel) ?_
                                refine w_goto 213 (by decide +kernel) ?_
                                refine w_pure .iadd 214 (by decide +kernel) rfl rfl ?_
                                refine w_topi (fun v30 ev30 => ?_)
                                refine w_store (ls' := [.ref 76, .int (nI k3), .int (nI k6), .int (nI k11), .int v30, .int (nI (10 * ((g6 / 4)) + (g6 % 4))), .int (nI g6), .int (nI ((g6 / 4))), .int (nI ((g6 % 4))), .int x9_102, .int (nI g10)]) (.istore 4) 216 (by decide +kernel) rfl rfl ?_
                                refine w_iincN (z := 6) (g6 + 1) 219 (by decide +kernel) rfl (Nat.le_of_ble_eq_true rfl) rfl rfl ?_
                                show Wp _ _ _ [.ref 76, .int (nI k3), .int (nI k6), .int (nI k11), .int v30, .int (nI (10 * ((g6 / 4)) + (g6 % 4))), .int (nI (g6 + 1)), .int (nI ((g6 / 4))), .int (nI ((g6 % 4))), .int x9_102, .int (nI g10)] _ _ _ _
                                refine w_goto 77 (by decide +kernel) ?_
                                refine Wp.forget (ls := [.ref 76, .int (nI k3), .int (nI k6), .int (nI k11), .int v30, .int (nI (10 * ((g6 / 4)) + (g6 % 4))), .int (nI (g6 + 1)), .null, .null, .null, .null]) ⟨Or.inl rfl, Or.inl rfl, Or.inl rfl, Or.inl rfl, Or.inl rfl, Or.inl rfl, Or.inl rfl, Or.inr ⟨rfl, rfl⟩, Or.inr ⟨rfl, rfl⟩, Or.inr ⟨rfl, rfl⟩, Or.inr ⟨rfl, rfl⟩, trivial⟩ ?_
                                exact ih_77 N_102 _ _ (g6 + 1) hS (by omega) (by omega)
                        · skip
                          refine w_load (.iload 9) 110 (by decide +kernel) rfl rfl ?_
                          refine w_ieq 176 113 (by decide +kernel) (fun h31 => ?_) (fun h31 => ?_)
                          · skip
                            refine w_load (.iload 9) 178 (by decide +kernel) rfl rfl ?_
                            refine w_ieq 197 181 (by decide +kernel) (fun h32 => ?_) (fun h32 => ?_)
                            · skip
                              refine w_load (.iload 5) 199 (by decide +kernel) rfl rfl ?_
                              refine w_store (ls' := [.ref 76, .int (nI k3), .int (nI k6), .int (nI k11), .int x4_77, .int x5_77, .int (nI g6), .int (nI ((g6 / 4))), .int (nI ((g6 % 4))), .int x9_102, .int (nI g10)]) (.istore 5) 201 (by decide +kernel) rfl rfl ?_
                              refine w_load (.iload 4) 203 (by decide +kernel) rfl rfl ?_
                              refine w_load (.iload 9) 205 (by decide +kernel) rfl rfl ?_
                              refine w_ieq 212 208 (by decide +kernel) (fun h33 => ?_) (fun h33 => ?_)
                              · skip
                                refine w_pushN 0 213 (by decide +kernel) ?_
                                refine w_pure .iadd 214 (by decide +kernel) rfl rfl ?_
                                refine w_topi (fun v34 ev34 => ?_)
                                refine w_store (ls' := [.ref 76, .int (nI k3), .int (nI k6), .int (nI k11), .int v34, .int x5_77, .int (nI g6), .int (nI ((g6 / 4))), .int (nI ((g6 % 4))), .int x9_102, .int (nI g10)]) (.istore 4) 216 (by decide +kernel) rfl rfl ?_
                                refine w_iincN (z := 6) (g6 + 1) 219 (by decide +kernel) rfl (Nat.le_of_ble_eq_true rfl) rfl rfl ?_
                                show Wp _ _ _ [.ref 76, .int (nI k3), .int (nI k6), .int (nI k11), .int v34, .int x5_77, .int (nI (g6 + 1)), .int (nI ((g6 / 4))), .int (nI ((g6 % 4))), .int x9_102, .int (nI g10)] _ _ _ _
                                refine w_goto 77 (by decide +kernel) ?_
                                refine Wp.forget (ls := [.ref 76, .int (nI k3), .int (nI k6), .int (nI k11), .int v34, .int x5_77, .int (nI (g6 + 1)), .null, .null, .null, .null]) ⟨Or.inl rfl, Or.inl rfl, Or.inl rfl, Or.inl rfl, Or.inl rfl, Or.inl rfl, Or.inl rfl, Or.inr ⟨rfl, rfl⟩, Or.inr ⟨rfl, rfl⟩, Or.inr ⟨rfl, rfl⟩, Or.inr ⟨rfl, rfl⟩, trivial⟩ ?_
                                exact ih_77 N_102 _ _ (g6 + 1) hS (by omega) (by omega)
                              · skip
                                refine w_pushN 1 209 (by decide +kernel) ?_
                                refine w_goto 213 (by decide +kernel) ?_
                                refine w_pure .iadd 214 (by decide +kernel) rfl rfl ?_
                                refine w_topi (fun v35 ev35 => ?_)
                                refine w_store (ls' := [.ref 76, .int (nI k3), .int (nI k6), .int (nI k11), .int v35, .int x5_77, .int (nI g6), .int (nI ((g6 / 4))), .int (nI ((g6 % 4))), .int x9_102, .int (nI g10)]) (.istore 4) 216 (by decide +kernel) rfl rfl ?_
                                refine w_iincN (z := 6) (g6 + 1) 219 (by decide +kernel) rfl (Nat.le_of_ble_eq_true rfl) rfl rfl ?_
                                show Wp _ _ _ [.ref 76, .int (nI k3), .int (nI k6), .int (nI k11), .int v35, .int x5_77, .int (nI (g6 + 1)), .int (nI ((g6 / 4))), .int (nI ((g6 % 4))), .int x9_102, .int (nI g10)] _ _ _ _
                                refine w_goto 77 (by decide +kernel) ?_
                                refine Wp.forget (ls := [.ref 76, .int (nI k3), .int (nI k6), .int (nI k11), .int v35, .int x5_77, .int (nI (g6 + 1)), .null, .null, .null, .null]) ⟨Or.inl rfl, Or.inl rfl, Or.inl rfl, Or.inl rfl, Or.inl rfl, Or.inl rfl, Or.inl rfl, Or.inr ⟨rfl, rfl⟩, Or.inr ⟨rfl, rfl⟩, Or.inr ⟨rfl, rfl⟩, Or.inr ⟨rfl, rfl⟩, trivial⟩ ?_
                                exact ih_77 N_102 _ _ (g6 + 1) hS (by omega) (by omega)
                            · skip
                              refine w_load (.iload 4) 183 (by decide +kernel) rfl rfl ?_
                              refine w_ine 197 186 (by decide +kernel) (fun h36 => ?_) (fun h36 => ?_)
                              · skip
                                refine w_load (.iload 5) 199 (by decide +kernel) rfl rfl ?_
                                refine w_store (ls' := [.ref 76, .int (nI k3), .int (nI k6), .int (nI k11), .int x4_77, .int x5_77, .int (nI g6), .int (nI ((g6 / 4))), .int (nI ((g6 % 4))), .int x9_102, .int (nI g10)]) (.istore 5) 201 (by decide +kernel) rfl rfl ?_
                                refine w_load (.iload 4) 203 (by decide +kernel) rfl rfl ?_
                                refine w_load (.iload 9) 205 (by decide +kernel) rfl rfl ?_
                                refine w_ieq 212 208 (by decide +kernel) (fun h37 => ?_) (fun h37 => ?_)
                                · skip
                                  refine w_pushN 0 213 (by decide +kernel) ?_
                                  refine w_pure .iadd 214 (by decide +kernel) rfl rfl ?_
                                  refine w_topi (fun v38 ev38 => ?_)
                                  refine w_store (ls' := [.ref 76, .int (nI k3), .int (nI k6), .int (nI k11), .int v38, .int x5_77, .int (nI g6), .int (nI ((g6 / 4))), .int (nI ((g6 % 4))), .int x9_102, .int (nI g10)]) (.istore 4) 216 (by decide +kernel) rfl rfl ?_
                                  refine w_iincN (z := 6) (g6 + 1) 219 (by decide +kernel) rfl (Nat.le_of_ble_eq_true rfl) rfl rfl ?_
                                  show Wp _ _ _ [.ref 76, .int (nI k3), .int (nI k6), .int (nI k11), .int v38, .int x5_77, .int (nI (g6 + 1)), .int (nI ((g6 / 4))), .int (nI ((g6 % 4))), .int x9_102, .int (nI g10)] _ _ _ _
                                  refine w_goto 77 (by decide +kernel) ?_
                                  refine Wp.forget (ls := [.ref 76, .int (nI k3), .int (nI k6), .int (nI k11), .int v38, .int x5_77, .int (nI (g6 + 1)), .null, .null, .null, .null]) ⟨Or.inl rfl, Or.inl rfl, Or.inl rfl, Or.inl rfl, Or.inl rfl, Or.inl rfl, Or.inl rfl, Or.inr ⟨rfl, rfl⟩, Or.inr ⟨rfl, rfl⟩, Or.inr ⟨rfl, rfl⟩, Or.inr ⟨rfl, rfl⟩, trivial⟩ ?_
                                  exact ih_77 N_102 _ _ (g6 + 1) hS (by omega) (by omega)
                                · skip
                                  refine w_pushN 1 209 (by decide +kernel) ?_
                                  refine w_goto 213 (by decide +kernel) ?_
                                  refine w_pure .iadd 214 (by decide +kernel) rfl rfl ?_
                                  refine w_topi (fun v39 ev39 => ?_)
                                  refine w_store (ls' := [.ref 76, .int (nI k3), .int (nI k6), .int (nI k11), .int v39, .int x5_77, .int (nI g6), .int (nI ((g6 / 4))), .int (nI ((g6 % 4))), .int x9_102, .int (nI g10)]) (.istore 4) 216 (by decide +kernel) rfl rfl ?_
                                  refine w_iincN (z := 6) (g6 + 1) 219 (by decide +kernel) rfl (Nat.le_of_ble_eq_true rfl) rfl rfl ?_
                                  show Wp _ _ _ [.ref 76, .int (nI k3), .int (nI k6), .int (nI k11), .int v39, .int x5_77, .int (nI (g6 + 1)), .int (nI ((g6 / 4))), .int (nI ((g6 % 4))), .int x9_102, .int (nI g10)] _ _ _ _
                                  refine w_goto 77 (by decide +kernel) ?_
                                  refine Wp.forget (ls := [.ref 76, .int (nI k3), .int (nI k6), .int (nI k11), .int v39, .int x5_77, .int (nI (g6 + 1)), .null, .null, .null, .null]) ⟨Or.inl rfl, Or.inl rfl, Or.inl rfl, Or.inl rfl, Or.inl rfl, Or.inl rfl, Or.inl rfl, Or.inr ⟨rfl, rfl⟩, Or.inr ⟨rfl, rfl⟩, Or.inr ⟨rfl, rfl⟩, Or.inr ⟨rfl, rfl⟩, trivial⟩ ?_
                                  exact ih_77 N_102 _ _ (g6 + 1) hS (by omega) (by omega)
                              · skip
                                refine w_pushN 10 188 (by decide +kernel) ?_
                                refine w_load (.iload 7) 190 (by decide +kernel) rfl rfl ?_
                                refine w_mulN (10 * ((g6 / 4))) 191 (by decide +kernel) rfl ?_
                                refine w_load (.iload 8) 193 (by decide +kernel) rfl rfl ?_
                                refine w_addN (10 * ((g6 / 4)) + (g6 % 4)) 194 (by decide +kernel) (by omega) ?_
                                refine w_goto 199 (by decide +kernel) ?_
                                refine w_store (ls' := [.ref 76, .int (nI k3), .int (nI k6), .int (nI k11), .int x4_77, .int (nI (10 * ((g6 / 4)) + (g6 % 4))), .int (nI g6), .int (nI ((g6 / 4))), .int (nI ((g6 % 4))), .int x9_102, .int (nI g10)]) (.istore 5) 201 (by decide +kernel) rfl rfl ?_
                                refine w_load (.iload 4) 203 (by decide +kernel) rfl rfl ?_
                                refine w_load (.iload 9) 205 (by decide +kernel) rfl rfl ?_
                                refine w_ieq 212 208 (by decide +kernel) (fun h40 => ?_) (fun h40 => ?_)
                                · skip
                                  refine w_pushN 0 213 (by decide +kernel) ?_
                                  refine w_pure .iadd 214 (by decide +kernel) rfl rfl ?_
                                  refine w_topi (fun v41 ev41 => ?_)
                                  refine w_store (ls' := [.ref 76, .int (nI k3), .int (nI k6), .int (nI k11), .int v41, .int (nI (10 * ((g6 / 4)) + (g6 % 4))), .int (nI g6), .int (nI ((g6 / 4))), .int (nI ((g6 % 4))), .int x9_102, .int (nI g10)]) (.istore 4) 216 (by decide +kernel) rfl rfl ?_
                                  refine w_iincN (z := 6) (g6 + 1) 219 (by decide +kernel) rfl (Nat.le_of_ble_eq_true rfl) rfl rfl ?_
                                  show Wp _ _ _ [.ref 76, .int (nI k3), .int (nI k6), .int (nI k11), .int v41, .int (nI (10 * ((g6 / 4)) + (g6 % 4))), .int (nI (g6 + 1)), .int (nI ((g6 / 4))), .int (nI ((g6 % 4))), .int x9_102, .int (nI g10)] _ _ _ _
                                  refine w_goto 77 (by decide +kernel) ?_
                                  refine Wp.forget (ls := [.ref 76, .int (nI k3), .int (nI k6), .int (nI k11), .int v41, .int (nI (10 * ((g6 / 4)) + (g6 % 4))), .int (nI (g6 + 1)), .null, .null, .null, .null]) ⟨Or.inl rfl, Or.inl rfl, Or.inl rfl, Or.inl rfl, Or.inl rfl, Or.inl rfl, Or.inl rfl, Or.inr ⟨rfl, rfl⟩, Or.inr ⟨rfl, rfl⟩, Or.inr ⟨rfl, rfl⟩, Or.inr ⟨rfl, rfl⟩, trivial⟩ ?_
                                  exact ih_77 N_102 _ _ (g6 + 1) hS (by omega) (by omega)
                                · skip
                                  refine w_pushN 1 209 (by decide +kernel) ?_
                                  refine w_goto 213 (by decide +kernel) ?_
                                  refine w_pure .iadd 214 (by decide +kernel) rfl rfl ?_
                                  refine w_topi (fun v42 ev42 => ?_)
                                  refine w_store (ls' := [.ref 76, .int (nI k3), .int (nI k6), .int (nI k11), .int v42, .int (nI (10 * ((g6 / 4)) + (g6 % 4))), .int (nI g6), .int (nI ((g6 / 4))), .int (nI ((g6 % 4))), .int x9_102, .int (nI g10)]) (.istore 4) 216 (by decide +kernel) rfl rfl ?_
                                  refine w_iincN (z := 6) (g6 + 1) 219 (by decide +kernel) rfl (Nat.le_of_ble_eq_true rfl) rfl rfl ?_
                                  show Wp _ _ _ [.ref 76, .int (nI k3), .int (nI k6), .int (nI k11), .int v42, .int (nI (10 * ((g6 / 4)) + (g6 % 4))), .int (nI (g6 + 1)), .int (nI ((g6 / 4))), .int (nI ((g6 % 4))), .int x9_102, .int (nI g10)] _ _ _ _
                                  refine w_goto 77 (by decide +kernel) ?_
                                  refine Wp.forget (ls := [.ref 76, .int (nI k3), .int (nI k6), .int (nI k11), .int v42, .int (nI (10 * ((g6 / 4)) + (g6 % 4))), .int (nI (g6 + 1)), .null, .null, .null, .null]) ⟨Or.inl rfl, Or.inl rfl, Or.inl rfl, Or.inl rfl, Or.inl rfl, Or.inl rfl, Or.inl rfl, Or.inr ⟨rfl, rfl⟩, Or.inr ⟨rfl, rfl⟩, Or.inr ⟨rfl, rfl⟩, Or.inr ⟨rfl, rfl⟩, trivial⟩ ?_
                                  exact ih_77 N_102 _ _ (g6 + 1) hS (by omega) (by omega)
                          · skip
                            refine w_load (.aload_n 0) 114 (by decide +kernel) rfl rfl ?_
                            refine w_load (.iload_n 1) 115 (by decide +kernel) rfl rfl ?_
                            refine w_load (.iload 10) 117 (by decide +kernel) rfl rfl ?_
                            refine w_load (.iload_n 2) 118 (by decide +kernel) rfl rfl ?_
                            refine w_load (.iload 8) 120 (by decide +kernel) rfl rfl ?_
                            refine w_load (.iload_n 1) 121 (by decide +kernel) rfl rfl ?_
                            refine w_callV5 185 8 6 124 (by decide +kernel) sh_76 (Nat.le_of_ble_eq_true rfl) rfl rfl rfl rfl rfl (by decide) (by omega) ?_
                            refine k_185 hS.1 (by omega) (by omega) (by omega) (by omega) (fun r43 Nr43 hTr43 hr43 => ?_)
                            have hS := hS.tr hTr43 (by intro i k; first | exact rfl | exact fun h => h.elim | omega | (dsimp only; omega) | (simp only [Hs, Tl, Sc, isHs, isScr, isTs] at *; omega))
                            dsimp only [Option.toList, List.cons_append, List.nil_append]
                            refine w_load (.aload_n 0) 125 (by decide +kernel) rfl rfl ?_
                            refine w_load (.iload_n 1) 126 (by decide +kernel) rfl rfl ?_
                            refine w_load (.iload 7) 128 (by decide +kernel) rfl rfl ?_
                            refine w_load (.iload_n 2) 129 (by decide +kernel) rfl rfl ?_
                            refine w_load (.iload 8) 131 (by decide +kernel) rfl rfl ?_
                            refine w_load (.iload_n 1) 132 (by decide +kernel) rfl rfl ?_
                            refine w_callV5 185 8 6 135 (by decide +kernel) sh_76 (Nat.le_of_ble_eq_true rfl) rfl rfl rfl rfl rfl (by decide) (by omega) ?_
                            refine k_185 hS.1 (by omega) (by omega) (by omega) (by omega) (fun r44 Nr44 hTr44 hr44 => ?_)
                            have hS := hS.tr hTr44 (by intro i k; first | exact rfl | exact fun h => h.elim | omega | (dsimp only; omega) | (simp only [Hs, Tl, Sc, isHs, isScr, isTs] at *; omega))
                            dsimp only [Option.toList, List.cons_append, List.nil_append]
                            refine w_cgt 167 138 (by decide +kernel) (fun h45 => ?_) (fun h45 => ?_)
                            · skip
                              refine w_pushN 0 168 (by decide +kernel) ?_
                              refine w_store (ls' := [.ref 76, .int (nI k3), .int (nI k6), .int (nI k11), .int x4_77, .int x5_77, .int (nI g6), .int (nI ((g6 / 4))), .int (nI ((g6 % 4))), .int (nI 0), .int (nI g10)]) (.istore 9) 170 (by decide +kernel) rfl rfl ?_
                              refine w_iincN (z := 10) (g10 + 1) 173 (by decide +kernel) rfl (Nat.le_of_ble_eq_true rfl) rfl rfl ?_
                              show Wp _ _ _ [.ref 76, .int (nI k3), .int (nI k6), .int (nI k11), .int x4_77, .int x5_77, .int (nI g6), .int (nI ((g6 / 4))), .int (nI ((g6 % 4))), .int (nI 0), .int (nI (g10 + 1))] _ _ _ _
                              refine w_goto 102 (by decide +kernel) ?_
                              exact ih_102 Nr44 _ (g10 + 1) hS (by omega) (by omega)
                            · skip
                              refine w_load (.aload_n 0) 139 (by decide +kernel) rfl rfl ?_
                              refine w_load (.iload_n 1) 140 (by decide +kernel) rfl rfl ?_
                              refine w_load (.iload 7) 142 (by decide +kernel) rfl rfl ?_
                              refine w_load (.iload_n 2) 143 (by decide +kernel) rfl rfl ?_
                              refine w_load (.iload 10) 145 (by decide +kernel) rfl rfl ?_
                              refine w_load (.iload_n 2) 146 (by decide +kernel) rfl rfl ?_
                              refine w_callV5 185 8 6 149 (by decide +kernel) sh_76 (Nat.le_of_ble_eq_true rfl) rfl rfl rfl rfl rfl (by decide) (by omega) ?_
                              refine k_185 hS.1 (by omega) (by omega) (by omega) (by omega) (fun r46 Nr46 hTr46 hr46 => ?_)
                              have hS := hS.tr hTr46 (by intro i k; first | exact rfl | exact fun h => h.elim | omega | (dsimp only; omega) | (simp only [Hs, Tl, Sc, isHs, isScr, isTs] at *; omega))
                              dsimp only [Option.toList, List.cons_append, List.nil_append]
                              refine w_load (.aload_n 0) 150 (by decide +kernel) rfl rfl ?_
                              refine w_load (.iload_n 1) 151 (by decide +kernel) rfl rfl ?_
                              refine w_load (.iload 7) 153 (by decide +kernel) rfl rfl ?_
                              refine w_load (.iload_n 2) 154 (by decide +kernel) rfl rfl ?_
                              refine w_load (.iload 8) 156 (by decide +kernel) rfl rfl ?_
                              refine w_load (.iload_n 2) 157 (by decide +kernel) rfl rfl ?_
                              refine w_callV5 185 8 6 160 (by decide +kernel) sh_76 (Nat.le_of_ble_eq_true rfl) rfl rfl rfl rfl rfl (by decide) (by omega) ?_
                              refine k_185 hS.1 (by omega) (by omega) (by omega) (by omega) (fun r47 Nr47 hTr47 hr47 => ?_)
                              have hS := hS.tr hTr47 (by intro i k; first | exact rfl | exact fun h => h.elim | omega | (dsimp only; omega) | (simp only [Hs, Tl, Sc, isHs, isScr, isTs] at *; omega))
                              dsimp only [Option.toList, List.cons_append, List.nil_append]
                              refine w_cgt 167 163 (by decide +kernel) (fun h48 => ?_) (fun h48 => ?_)
                              · skip
                                refine w_pushN 0 168 (by decide +kernel) ?_
                                refine w_store (ls' := [.ref 76, .int (nI k3), .int (nI k6), .int (nI k11), .int x4_77, .int x5_77, .int (nI g6), .int (nI ((g6 / 4))), .int (nI ((g6 % 4))), .int (nI 0), .int (nI g10)]) (.istore 9) 170 (by decide +kernel) rfl rfl ?_
                                refine w_iincN (z := 10) (g10 + 1) 173 (by decide +kernel) rfl (Nat.le_of_ble_eq_true rfl) rfl rfl ?_
                                show Wp _ _ _ [.ref 76, .int (nI k3), .int (nI k6), .int (nI k11), .int x4_77, .int x5_77, .int (nI g6), .int (nI ((g6 / 4))), .int (nI ((g6 % 4))), .int (nI 0), .int (nI (g10 + 1))] _ _ _ _
                                refine w_goto 102 (by decide +kernel) ?_
                                exact ih_102 Nr47 _ (g10 + 1) hS (by omega) (by omega)
                              · skip
                                refine w_pushN 1 164 (by decide +kernel) ?_
                                refine w_goto 168 (by decide +kernel) ?_
                                refine w_store (ls' := [.ref 76, .int (nI k3), .int (nI k6), .int (nI k11), .int x4_77, .int x5_77, .int (nI g6), .int (nI ((g6 / 4))), .int (nI ((g6 % 4))), .int (nI 1), .int (nI g10)]) (.istore 9) 170 (by decide +kernel) rfl rfl ?_
                                refine w_iincN (z := 10) (g10 + 1) 173 (by decide +kernel) rfl (Nat.le_of_ble_eq_true rfl) rfl rfl ?_
                                show Wp _ _ _ [.ref 76, .int (nI k3), .int (nI k6), .int (nI k11), .int x4_77, .int x5_77, .int (nI g6), .int (nI ((g6 / 4))), .int (nI ((g6 % 4))), .int (nI 1), .int (nI (g10 + 1))] _ _ _ _
                                refine w_goto 102 (by decide +kernel) ?_
                                exact ih_102 Nr47 _ (g10 + 1) hS (by omega) (by omega)
                    exact LP_102 _ N_77 _ 0 hS (by omega) (Nat.lt_succ_self _)
              exact LP_77 _ N _ _ 0 hS (by omega) (Nat.lt_succ_self _)
            · skip
              refine w_ine 67 64 (by decide +kernel) (fun hz => absurd hz (by decide)) (fun _ => ?_)
              refine w_push (-3) 66 (by decide +kernel) ?_
              exact w_ret (by decide +kernel) (hq _ N hS trivial)
          · skip
            refine w_ieq 64 50 (by decide +kernel) (fun _ => ?_) (fun hz => absurd hz (by decide))
            refine w_push (-3) 66 (by decide +kernel) ?_
            exact w_ret (by decide +kernel) (hq _ N hS trivial)
        · skip
          refine w_ine 36 33 (by decide +kernel) (fun hz => absurd hz (by decide)) (fun _ => ?_)
          refine w_push (-2) 35 (by decide +kernel) ?_
          exact w_ret (by decide +kernel) (hq _ N hS trivial)
    · skip
      refine w_ine 18 16 (by decide +kernel) (fun hz => absurd hz (by decide)) (fun _ => ?_)
      refine w_push (-1) 17 (by decide +kernel) ?_
      exact w_ret (by decide +kernel) (hq _ N hS trivial)
  · skip
    refine w_ieq 16 8 (by decide +kernel) (fun _ => ?_) (fun hz => absurd hz (by decide))
    refine w_push (-1) 17 (by decide +kernel) ?_
    exact w_ret (by decide +kernel) (hq _ N hS trivial)
-- X8_note
set_option maxRecDepth 10000 in
theorem k_187 {d : Nat} {M : Mt} {L : Lt} {Q : Option Value → Mt → Lt → Prop} {g m : Nat} {a : Int32} (hI : Inv M) (hg : g < 5) (hm : m ≤ 6) (em : M 76 15 = nI m) (hd : 0 ≤ d) (hq : ∀ (r : Int32) (N : Mt), St (fun i k => i = 86 ∨ i = 87 ∨ (i = 76 ∧ k = 15)) M N → ((r = -4 ∧ m = 6 ∧ N = M) ∨ (r = nI (m + 1) ∧ m < 6 ∧ N = up2 (up2 (up2 M 86 m (nI g)) 87 m a) 76 15 (nI (m + 1)))) → Q (some (.int r)) N L) : Wp d 187 0 [.ref 76, .int (nI g), .int a] [] M L Q := by
  refine (show ∀ N : Mt, N = M → St (fun i k => i = 86 ∨ i = 87 ∨ (i = 76 ∧ k = 15)) M N → Wp d 187 0 [.ref 76, .int (nI g), .int a] [] N L Q from ?_) M rfl (St.rf hI)
  intro N hNM hS
  have kz0 : N (76) 15 = nI m := by rw [hNM]; exact em
  refine w_load (.aload_n 0) 1 (by decide +kernel) rfl rfl ?_
  refine w_getK (k := 15) 4 (by decide +kernel) sh_76 rfl kz0 ?_
  refine w_pushN 6 6 (by decide +kernel) ?_
  refine w_cneN 12 9 (by decide +kernel) (by omega) (by omega) (fun h1 => ?_) (fun h1 => ?_)
  · skip
    refine w_load (.aload_n 0) 13 (by decide +kernel) rfl rfl ?_
    refine w_getR (k := 16) (r := 86) 16 (by decide +kernel) sh_76 rfl ?_
    refine w_load (.aload_n 0) 17 (by decide +kernel) rfl rfl ?_
    refine w_getK (k := 15) 20 (by decide +kernel) sh_76 rfl kz0 ?_
    refine w_load (.iload_n 1) 21 (by decide +kernel) rfl rfl ?_
    refine w_iastE 22 (by decide +kernel) sh_86 (by omega) (by omega) hS (rg_86 (by omega)) (by first | exact rfl | omega | (dsimp only; omega) | (simp only [Hs, Tl, Sc, isHs, isScr, isTs] at *; omega)) (fun Nq2 hS hq2 oq2 mq2 => ?_)
    have kn3 := (oq2 (76) 15 (by first | omega | (simp only [Hs, Tl, Sc, isHs, isScr, isTs] at *; omega))).trans kz0
    refine w_load (.aload_n 0) 23 (by decide +kernel) rfl rfl ?_
    refine w_getR (k := 17) (r := 87) 26 (by decide +kernel) sh_76 rfl ?_
    refine w_load (.aload_n 0) 27 (by decide +kernel) rfl rfl ?_
    refine w_getK (k := 15) 30 (by decide +kernel) sh_76 rfl kn3 ?_
    refine w_load (.iload_n 2) 31 (by decide +kernel) rfl rfl ?_
    refine w_iastE 32 (by decide +kernel) sh_87 (by omega) (by omega) hS (Rg.free (by simp only [Hs, Tl, Sc, isScr, isHs, isTs] at *; omega)) (by first | exact rfl | omega | (dsimp only; omega) | (simp only [Hs, Tl, Sc, isHs, isScr, isTs] at *; omega)) (fun Nq4 hS hq4 oq4 mq4 => ?_)
    have kn5 := (oq4 (76) 15 (by first | omega | (simp only [Hs, Tl, Sc, isHs, isScr, isTs] at *; omega))).trans kn3
    have kn6 := (oq4 (86) m (by first | omega | (simp only [Hs, Tl, Sc, isHs, isScr, isTs] at *; omega))).trans hq2
    refine w_load (.aload_n 0) 33 (by decide +kernel) rfl rfl ?_
    refine w_pure .dup 34 (by decide +kernel) rfl rfl ?_
    refine w_getK (k := 15) 37 (by decide +kernel) sh_76 rfl kn5 ?_
    refine w_pushN 1 38 (by decide +kernel) ?_
    refine w_addN (m + 1) 39 (by decide +kernel) (by omega) ?_
    refine w_putE (k := 15) 42 (by decide +kernel) sh_76 rfl hS (rg_76n (B := 6) (by omega) (by decide)) (by first | exact rfl | omega | (dsimp only; omega) | (simp only [Hs, Tl, Sc, isHs, isScr, isTs] at *; omega)) (fun Nq7 hS hq7 oq7 mq7 => ?_)
    have kn8 := (oq7 (86) m (by first | omega | (simp only [Hs, Tl, Sc, isHs, isScr, isTs] at *; omega))).trans kn6
    refine w_load (.aload_n 0) 43 (by decide +kernel) rfl rfl ?_
    refine w_getK (k := 15) 46 (by decide +kernel) sh_76 rfl hq7 ?_
    exact w_ret (by decide +kernel) (hq _ Nq7 hS (by first | exact Or.inl ⟨rfl, by omega, hNM⟩ | exact Or.inr ⟨rfl, by omega, (by rw [mq7, mq4, mq2, hNM] <;> rfl)⟩))
  · skip
    refine w_push (-4) 11 (by decide +kernel) ?_
    exact w_ret (by decide +kernel) (hq _ N hS (by first | exact Or.inl ⟨rfl, by omega, hNM⟩ | exact Or.inr ⟨rfl, by omega, (by rw [hNM] <;> rfl)⟩))
-- X8_see
set_option maxRecDepth 10000 in
theorem k_188 {d : Nat} {M : Mt} {L : Lt} {Q : Option Value → Mt → Lt → Prop} {n m : Nat} {g : Int32} {a : Int32} (hI : Inv M) (hn : n ≤ 5) (en : M 76 0 = nI n) (hm : m ≤ 6) (em : M 76 15 = nI m) (hd : 2 ≤ d) (hq : ∀ (r : Int32) (N : Mt), St (fun i k => i = 86 ∨ i = 87 ∨ (i = 76 ∧ k = 15)) M N → ((r = -1 ∧ ¬ (∃ k, k < n ∧ g = nI k) ∧ N = M) ∨ ((∃ k, k < n ∧ g = nI k) ∧ ((r = -4 ∧ m = 6 ∧ N = M) ∨ (r = nI (m + 1) ∧ m < 6 ∧ N = up2 (up2 (up2 M 86 m g) 87 m (if a = 0 then nI 0 else nI 1)) 76 15 (nI (m + 1)))))) → Q (some (.int r)) N L) : Wp d 188 0 [.ref 76, .int g, .int a] [] M L Q := by
  refine (show ∀ N : Mt, N = M → St (fun i k => i = 86 ∨ i = 87 ∨ (i = 76 ∧ k = 15)) M N → Wp d 188 0 [.ref 76, .int g, .int a] [] N L Q from ?_) M rfl (St.rf hI)
  intro N hNM hS
  have kz0 : N (76) 0 = nI n := by rw [hNM]; exact en
  have kz1 : N (76) 15 = nI m := by rw [hNM]; exact em
  refine w_load (.aload_n 0) 1 (by decide +kernel) rfl rfl ?_
  refine w_load (.iload_n 1) 2 (by decide +kernel) rfl rfl ?_
  refine w_callV1 150 8 2 5 (by decide +kernel) sh_76 (Nat.le_of_ble_eq_true rfl) rfl (by decide) (by omega) ?_
  refine k_150 hS.1 (by omega) kz0 (by omega) (fun r1 hr1 => ?_)
  dsimp only [Option.toList, List.cons_append, List.nil_append]
  rcases hr1 with ⟨rfl, k2, hk2, rfl⟩ | ⟨rfl, hnok2⟩
  · skip
    refine w_ieq 25 8 (by decide +kernel) (fun hz => absurd hz (by decide)) (fun _ => ?_)
    refine w_load (.aload_n 0) 9 (by decide +kernel) rfl rfl ?_
    refine w_load (.iload_n 1) 10 (by decide +kernel) rfl rfl ?_
    refine w_load (.iload_n 2) 11 (by decide +kernel) rfl rfl ?_
    refine w_ieq 18 14 (by decide +kernel) (fun h4 => ?_) (fun h4 => ?_)
    · skip
      refine w_pushN 0 19 (by decide +kernel) ?_
      refine w_callV2 187 8 3 22 (by decide +kernel) sh_76 (Nat.le_of_ble_eq_true rfl) rfl rfl (by decide) (by omega) ?_
      refine k_187 hS.1 (by omega) (by omega) kz1 (by omega) (fun r5 Nr5 hTr5 hr5 => ?_)
      have kn6 := (hTr5.2 (76) 0 (by (try dsimp only); omega)).trans kz0
      have hS := hS.tr hTr5 (by intro i k; first | exact rfl | exact fun h => h.elim | omega | (dsimp only; omega) | (simp only [Hs, Tl, Sc, isHs, isScr, isTs] at *; omega))
      dsimp only [Option.toList, List.cons_append, List.nil_append]
      rcases hr5 with ⟨rfl, hm6, enote⟩ | ⟨rfl, hm6, enote⟩
      · skip
        refine w_goto 26 (by decide +kernel) ?_
        exact w_ret (by decide +kernel) (hq _ Nr5 hS (by first | exact Or.inl ⟨rfl, by assumption, (by first | exact hNM | exact enote.trans hNM)⟩ | exact Or.inr ⟨⟨_, by omega, rfl⟩, Or.inl ⟨rfl, by omega, (by first | exact hNM | exact enote.trans hNM)⟩⟩ | exact Or.inr ⟨⟨_, by omega, rfl⟩, Or.inr ⟨rfl, by omega, by first | (rw [enote, hNM] <;> rfl) | (rw [enote, hNM, if_pos (by assumption)] <;> rfl) | (rw [enote, hNM, if_neg (by assumption)] <;> rfl)⟩⟩))
      · skip
        refine w_goto 26 (by decide +kernel) ?_
        exact w_ret (by decide +kernel) (hq _ Nr5 hS (by first | exact Or.inl ⟨rfl, by assumption, (by first | exact hNM | exact enote.trans hNM)⟩ | exact Or.inr ⟨⟨_, by omega, rfl⟩, Or.inl ⟨rfl, by omega, (by first | exact hNM | exact enote.trans hNM)⟩⟩ | exact Or.inr ⟨⟨_, by omega, rfl⟩, Or.inr ⟨rfl, by omega, by first | (rw [enote, hNM] <;> rfl) | (rw [enote, hNM, if_pos (by assumption)] <;> rfl) | (rw [enote, hNM, if_neg (by assumption)] <;> rfl)⟩⟩))
    · skip
      refine w_pushN 1 15 (by decide +kernel) ?_
      refine w_goto 19 (by decide +kernel) ?_
      refine w_callV2 187 8 3 22 (by decide +kernel) sh_76 (Nat.le_of_ble_eq_true rfl) rfl rfl (by decide) (by omega) ?_
      refine k_187 hS.1 (by omega) (by omega) kz1 (by omega) (fun r7 Nr7 hTr7 hr7 => ?_)
      have kn8 := (hTr7.2 (76) 0 (by (try dsimp only); omega)).trans kz0
      have hS := hS.tr hTr7 (by intro i k; first | exact rfl | exact fun h => h.elim | omega | (dsimp only; omega) | (simp only [Hs, Tl, Sc, isHs, isScr, isTs] at *; omega))
      dsimp only [Option.toList, List.cons_append, List.nil_append]
      rcases hr7 with ⟨rfl, hm6, enote⟩ | ⟨rfl, hm6, enote⟩
      · skip
        refine w_goto 26 (by decide +kernel) ?_
        exact w_ret (by decide +kernel) (hq _ Nr7 hS (by first | exact Or.inl ⟨rfl, by assumption, (by first | exact hNM | exact enote.trans hNM)⟩ | exact Or.inr ⟨⟨_, by omega, rfl⟩, Or.inl ⟨rfl, by omega, (by first | exact hNM | exact enote.trans hNM)⟩⟩ | exact Or.inr ⟨⟨_, by omega, rfl⟩, Or.inr ⟨rfl, by omega, by first | (rw [enote, hNM] <;> rfl) | (rw [enote, hNM, if_pos (by assumption)] <;> rfl) | (rw [enote, hNM, if_neg (by assumption)] <;> rfl)⟩⟩))
      · skip
        refine w_goto 26 (by decide +kernel) ?_
        exact w_ret (by decide +kernel) (hq _ Nr7 hS (by first | exact Or.inl ⟨rfl, by assumption, (by first | exact hNM | exact enote.trans hNM)⟩ | exact Or.inr ⟨⟨_, by omega, rfl⟩, Or.inl ⟨rfl, by omega, (by first | exact hNM | exact enote.trans hNM)⟩⟩ | exact Or.inr ⟨⟨_, by omega, rfl⟩, Or.inr ⟨rfl, by omega, by first | (rw [enote, hNM] <;> rfl) | (rw [enote, hNM, if_pos (by assumption)] <;> rfl) | (rw [enote, hNM, if_neg (by assumption)] <;> rfl)⟩⟩))
  · skip
    refine w_ieq 25 8 (by decide +kernel) (fun _ => ?_) (fun hz => absurd hz (by decide))
    refine w_push (-1) 26 (by decide +kernel) ?_
    exact w_ret (by decide +kernel) (hq _ N hS (by first | exact Or.inl ⟨rfl, by assumption, (by first | exact hNM | exact enote.trans hNM)⟩ | exact Or.inr ⟨⟨_, by omega, rfl⟩, Or.inl ⟨rfl, by omega, (by first | exact hNM | exact enote.trans hNM)⟩⟩ | exact Or.inr ⟨⟨_, by omega, rfl⟩, Or.inr ⟨rfl, by omega, by first | (rw [enote, hNM] <;> rfl) | (rw [enote, hNM, if_pos (by assumption)] <;> rfl) | (rw [enote, hNM, if_neg (by assumption)] <;> rfl)⟩⟩))
-- X8_seeCoins
set_option maxRecDepth 10000 in
theorem k_189 {d : Nat} {M : Mt} {L : Lt} {Q : Option Value → Mt → Lt → Prop} {n m : Nat} {g : Int32} {a : Int32} (hI : Inv M) (hn : n ≤ 5) (en : M 76 0 = nI n) (hm : m ≤ 6) (em : M 76 15 = nI m) (hd : 2 ≤ d) (hq : ∀ (r : Int32) (N : Mt), St (fun i k => i = 86 ∨ i = 87 ∨ (i = 76 ∧ k = 15)) M N → ((r = -1 ∧ ¬ (∃ k, k < n ∧ g = nI k) ∧ N = M) ∨ ((∃ k, k < n ∧ g = nI k) ∧ ((r = -2 ∧ ¬ inR a (-50) 50 ∧ N = M) ∨ (inR a (-50) 50 ∧ ((r = -4 ∧ m = 6 ∧ N = M) ∨ (r = nI (m + 1) ∧ m < 6 ∧ N = up2 (up2 (up2 M 86 m g) 87 m (nI 100 + a)) 76 15 (nI (m + 1)))))))) → Q (some (.int r)) N L) : Wp d 189 0 [.ref 76, .int g, .int a] [] M L Q := by
  refine (show ∀ N : Mt, N = M → St (fun i k => i = 86 ∨ i = 87 ∨ (i = 76 ∧ k = 15)) M N → Wp d 189 0 [.ref 76, .int g, .int a] [] N L Q from ?_) M rfl (St.rf hI)
  intro N hNM hS
  have kz0 : N (76) 0 = nI n := by rw [hNM]; exact en
  have kz1 : N (76) 15 = nI m := by rw [hNM]; exact em
  refine w_load (.aload_n 0) 1 (by decide +kernel) rfl rfl ?_
  refine w_load (.iload_n 1) 2 (by decide +kernel) rfl rfl ?_
  refine w_callV1 150 8 2 5 (by decide +kernel) sh_76 (Nat.le_of_ble_eq_true rfl) rfl (by decide) (by omega) ?_
  refine k_150 hS.1 (by omega) kz0 (by omega) (fun r1 hr1 => ?_)
  dsimp only [Option.toList, List.cons_append, List.nil_append]
  rcases hr1 with ⟨rfl, k2, hk2, rfl⟩ | ⟨rfl, hnok2⟩
  · skip
    refine w_ine 10 8 (by decide +kernel) (fun _ => ?_) (fun hz => absurd hz (by decide))
    refine w_load (.iload_n 2) 11 (by decide +kernel) rfl rfl ?_
    refine w_pure .i2l 12 (by decide +kernel) rfl rfl ?_
    refine w_pushL (-50) 15 (by decide +kernel) ?_
    refine w_pushL (50) 18 (by decide +kernel) ?_
    refine w_callSL 134 6 21 (by decide +kernel) (Nat.le_of_ble_eq_true rfl) rfl (by omega) ?_
    refine k_134 hS.1  (by omega) (fun r4 hr4 => ?_)
    dsimp only [Option.toList, List.cons_append, List.nil_append]
    rcases hr4 with ⟨rfl, hlok5, hhik5⟩ | ⟨rfl, hnok5⟩
    · skip
      have hink5 := inR_in (lo := -50) (hi := 50) hlok5 hhik5 (by decide) (by decide)
      refine w_ieq 36 24 (by decide +kernel) (fun hz => absurd hz (by decide)) (fun _ => ?_)
      refine w_load (.aload_n 0) 25 (by decide +kernel) rfl rfl ?_
      refine w_load (.iload_n 1) 26 (by decide +kernel) rfl rfl ?_
      refine w_pushN 100 28 (by decide +kernel) ?_
      refine w_load (.iload_n 2) 29 (by decide +kernel) rfl rfl ?_
      refine w_pure .iadd 30 (by decide +kernel) rfl rfl ?_
      refine w_callV2 187 8 3 33 (by decide +kernel) sh_76 (Nat.le_of_ble_eq_true rfl) rfl rfl (by decide) (by omega) ?_
      refine k_187 hS.1 (by omega) (by omega) kz1 (by omega) (fun r7 Nr7 hTr7 hr7 => ?_)
      have kn8 := (hTr7.2 (76) 0 (by (try dsimp only); omega)).trans kz0
      have hS := hS.tr hTr7 (by intro i k; first | exact rfl | exact fun h => h.elim | omega | (dsimp only; omega) | (simp only [Hs, Tl, Sc, isHs, isScr, isTs] at *; omega))
      dsimp only [Option.toList, List.cons_append, List.nil_append]
      rcases hr7 with ⟨rfl, hm6, enote⟩ | ⟨rfl, hm6, enote⟩
      · skip
        refine w_goto 38 (by decide +kernel) ?_
        exact w_ret (by decide +kernel) (hq _ Nr7 hS (by first | exact Or.inl ⟨rfl, by assumption, (by first | exact hNM | exact enote.trans hNM)⟩ | exact Or.inr ⟨⟨_, by omega, rfl⟩, Or.inl ⟨rfl, by first | assumption | exact inR_lo (by assumption) (by decide) | exact inR_hi (by assumption) (by decide) | exact inR_nle (by assumption) (by decide), (by first | exact hNM | exact enote.trans hNM)⟩⟩ | exact Or.inr ⟨⟨_, by omega, rfl⟩, Or.inr ⟨by first | assumption | exact inR_of (by assumption) (by assumption) (by decide) (by decide) | exact inR_ofle (by assumption) (by assumption) (by decide) (by decide), Or.inl ⟨rfl, by omega, (by first | exact hNM | exact enote.trans hNM)⟩⟩⟩ | exact Or.inr ⟨⟨_, by omega, rfl⟩, Or.inr ⟨by first | assumption | exact inR_of (by assumption) (by assumption) (by decide) (by decide) | exact inR_ofle (by assumption) (by assumption) (by decide) (by decide), Or.inr ⟨rfl, by omega, by first | (rw [enote, hNM] <;> rfl) | (rw [enote, hNM, if_pos (by assumption)] <;> rfl) | (rw [enote, hNM, if_neg (by assumption)] <;> rfl)⟩⟩⟩))
      · skip
        refine w_goto 38 (by decide +kernel) ?_
        exact w_ret (by decide +kernel) (hq _ Nr7 hS (by first | exact Or.inl ⟨rfl, by assumption, (by first | exact hNM | exact enote.trans hNM)⟩ | exact Or.inr ⟨⟨_, by omega, rfl⟩, Or.inl ⟨rfl, by first | assumption | exact inR_lo (by assumption) (by decide) | exact inR_hi (by assumption) (by decide) | exact inR_nle (by assumption) (by decide), (by first | exact hNM | exact enote.trans hNM)⟩⟩ | exact Or.inr ⟨⟨_, by omega, rfl⟩, Or.inr ⟨by first | assumption | exact inR_of (by assumption) (by assumption) (by decide) (by decide) | exact inR_ofle (by assumption) (by assumption) (by decide) (by decide), Or.inl ⟨rfl, by omega, (by first | exact hNM | exact enote.trans hNM)⟩⟩⟩ | exact Or.inr ⟨⟨_, by omega, rfl⟩, Or.inr ⟨by first | assumption | exact inR_of (by assumption) (by assumption) (by decide) (by decide) | exact inR_ofle (by assumption) (by assumption) (by decide) (by decide), Or.inr ⟨rfl, by omega, by first | (rw [enote, hNM] <;> rfl) | (rw [enote, hNM, if_pos (by assumption)] <;> rfl) | (rw [enote, hNM, if_neg (by assumption)] <;> rfl)⟩⟩⟩))
    · skip
      have hink5 := inR_nin (lo := -50) (hi := 50) hnok5 (by decide) (by decide)
      refine w_ieq 36 24 (by decide +kernel) (fun _ => ?_) (fun hz => absurd hz (by decide))
      refine w_push (-2) 38 (by decide +kernel) ?_
      exact w_ret (by decide +kernel) (hq _ N hS (by first | exact Or.inl ⟨rfl, by assumption, (by first | exact hNM | exact enote.trans hNM)⟩ | exact Or.inr ⟨⟨_, by omega, rfl⟩, Or.inl ⟨rfl, by first | assumption | exact inR_lo (by assumption) (by decide) | exact inR_hi (by assumption) (by decide) | exact inR_nle (by assumption) (by decide), (by first | exact hNM | exact enote.trans hNM)⟩⟩ | exact Or.inr ⟨⟨_, by omega, rfl⟩, Or.inr ⟨by first | assumption | exact inR_of (by assumption) (by assumption) (by decide) (by decide) | exact inR_ofle (by assumption) (by assumption) (by decide) (by decide), Or.inl ⟨rfl, by omega, (by first | exact hNM | exact enote.trans hNM)⟩⟩⟩ | exact Or.inr ⟨⟨_, by omega, rfl⟩, Or.inr ⟨by first | assumption | exact inR_of (by assumption) (by assumption) (by decide) (by decide) | exact inR_ofle (by assumption) (by assumption) (by decide) (by decide), Or.inr ⟨rfl, by omega, by first | (rw [enote, hNM] <;> rfl) | (rw [enote, hNM, if_pos (by assumption)] <;> rfl) | (rw [enote, hNM, if_neg (by assumption)] <;> rfl)⟩⟩⟩))
  · skip
    refine w_ine 10 8 (by decide +kernel) (fun hz => absurd hz (by decide)) (fun _ => ?_)
    refine w_push (-1) 9 (by decide +kernel) ?_
    exact w_ret (by decide +kernel) (hq _ N hS (by first | exact Or.inl ⟨rfl, by assumption, (by first | exact hNM | exact enote.trans hNM)⟩ | exact Or.inr ⟨⟨_, by omega, rfl⟩, Or.inl ⟨rfl, by first | assumption | exact inR_lo (by assumption) (by decide) | exact inR_hi (by assumption) (by decide) | exact inR_nle (by assumption) (by decide), (by first | exact hNM | exact enote.trans hNM)⟩⟩ | exact Or.inr ⟨⟨_, by omega, rfl⟩, Or.inr ⟨by first | assumption | exact inR_of (by assumption) (by assumption) (by decide) (by decide) | exact inR_ofle (by assumption) (by assumption) (by decide) (by decide), Or.inl ⟨rfl, by omega, (by first | exact hNM | exact enote.trans hNM)⟩⟩⟩ | exact Or.inr ⟨⟨_, by omega, rfl⟩, Or.inr ⟨by first | assumption | exact inR_of (by assumption) (by assumption) (by decide) (by decide) | exact inR_ofle (by assumption) (by assumption) (by decide) (by decide), Or.inr ⟨rfl, by omega, by first | (rw [enote, hNM] <;> rfl) | (rw [enote, hNM, if_pos (by assumption)] <;> rfl) | (rw [enote, hNM, if_neg (by assumption)] <;> rfl)⟩⟩⟩))
-- X8_unsee
set_option maxRecDepth 10000 in
theorem k_190 {d : Nat} {M : Mt} {L : Lt} {Q : Option Value → Mt → Lt → Prop} {m : Nat}  (hI : Inv M) (hm : m ≤ 6) (em : M 76 15 = nI m) (hd : 0 ≤ d) (hq : ∀ (r : Int32) (N : Mt), St (fun i k => i = 86 ∨ i = 87 ∨ (i = 76 ∧ k = 15)) M N → (r = nI m ∧ N = up2 M 76 15 (nI 0)) → Q (some (.int r)) N L) : Wp d 190 0 [.ref 76, .null] [] M L Q := by
  refine (show ∀ N : Mt, N = M → St (fun i k => i = 86 ∨ i = 87 ∨ (i = 76 ∧ k = 15)) M N → Wp d 190 0 [.ref 76, .null] [] N L Q from ?_) M rfl (St.rf hI)
  intro N hNM hS
  have kz0 : N (76) 15 = nI m := by rw [hNM]; exact em
  refine w_load (.aload_n 0) 1 (by decide +kernel) rfl rfl ?_
  refine w_getK (k := 15) 4 (by decide +kernel) sh_76 rfl kz0 ?_
  refine w_store (ls' := [.ref 76, .int (nI m)]) (.istore_n 1) 5 (by decide +kernel) rfl rfl ?_
  refine w_load (.aload_n 0) 6 (by decide +kernel) rfl rfl ?_
  refine w_pushN 0 7 (by decide +kernel) ?_
  refine w_putE (k := 15) 10 (by decide +kernel) sh_76 rfl hS (rg_76n (B := 6) (by omega) (by decide)) (by first | exact rfl | omega | (dsimp only; omega) | (simp only [Hs, Tl, Sc, isHs, isScr, isTs] at *; omega)) (fun Nq1 hS hq1 oq1 mq1 => ?_)
  refine w_load (.iload_n 1) 11 (by decide +kernel) rfl rfl ?_
  exact w_ret (by decide +kernel) (hq _ Nq1 hS ⟨rfl, (by rw [mq1, hNM] <;> rfl)⟩)
-- X8_isSeen
set_option maxRecDepth 10000 in
theorem k_191 {d : Nat} {M : Mt} {L : Lt} {Q : Option Value → Mt → Lt → Prop} {t : Nat}  (hI : Inv M) (ht : t < 3) (hd : 4 ≤ d) (hq : ∀ (r : Int32) (N : Mt), St (fun i k => (i = 78 ∧ 22 ≤ k) ∨ i = 83 ∨ i = 84 ∨ (i = 76 ∧ (k = 7 ∨ k = 11))) M N → (r = 0 ∨ r = 1) → Q (some (.int r)) N L) : Wp d 191 0 [.ref 76, .int (nI t), .null, .null, .null, .null, .null] [] M L Q := by
  refine (show ∀ N : Mt, N = M → St (fun i k => (i = 78 ∧ 22 ≤ k) ∨ i = 83 ∨ i = 84 ∨ (i = 76 ∧ (k = 7 ∨ k = 11))) M N → Wp d 191 0 [.ref 76, .int (nI t), .null, .null, .null, .null, .null] [] N L Q from ?_) M rfl (St.rf hI)
  intro N hNM hS
  refine w_load (.aload_n 0) 1 (by decide +kernel) rfl rfl ?_
  refine w_pushN 0 2 (by decide +kernel) ?_
  refine w_pushN 1 3 (by decide +kernel) ?_
  refine w_callV2 160 8 4 6 (by decide +kernel) sh_76 (Nat.le_of_ble_eq_true rfl) rfl rfl (by decide) (by omega) ?_
  refine k_160 hS.1 (by omega) (by omega) (by omega) (fun Nr1 hTr1 hr1 => ?_)
  have hS := hS.tr hTr1 (by intro i k; first | exact rfl | exact fun h => h.elim | omega | (dsimp only; omega) | (simp only [Hs, Tl, Sc, isHs, isScr, isTs] at *; omega))
  dsimp only [Option.toList, List.nil_append]
  refine w_load (.aload_n 0) 7 (by decide +kernel) rfl rfl ?_
  refine w_pushN 1 8 (by decide +kernel) ?_
  refine w_load (.iload_n 1) 9 (by decide +kernel) rfl rfl ?_
  refine w_pushN 0 10 (by decide +kernel) ?_
  refine w_callV3 159 8 7 13 (by decide +kernel) sh_76 (Nat.le_of_ble_eq_true rfl) rfl rfl rfl (by decide) (by omega) ?_
  refine k_159 hS.1 (by omega) (by omega) (by omega) (fun r2 Nr2 hTr2 hr2 => ?_)
  have hS := hS.tr hTr2 (by intro i k; first | exact rfl | exact fun h => h.elim | omega | (dsimp only; omega) | (simp only [Hs, Tl, Sc, isHs, isScr, isTs] at *; omega))
  dsimp only [Option.toList, List.cons_append, List.nil_append]
  refine w_pure .pop 14 (by decide +kernel) rfl rfl ?_
  refine w_pushN 1 15 (by decide +kernel) ?_
  refine w_store (ls' := [.ref 76, .int (nI t), .int (nI 1), .null, .null, .null, .null]) (.istore_n 2) 16 (by decide +kernel) rfl rfl ?_
  refine w_pushN 0 17 (by decide +kernel) ?_
  refine w_store (ls' := [.ref 76, .int (nI t), .int (nI 1), .int (nI 0), .null, .null, .null]) (.istore_n 3) 18 (by decide +kernel) rfl rfl ?_
  have LP_18 : ∀ (kk : Nat) (N_18 : Mt) (x2_18 : Int32) (g3 : Nat), St (fun i k => (i = 78 ∧ 22 ≤ k) ∨ i = 83 ∨ i = 84 ∨ (i = 76 ∧ (k = 7 ∨ k = 11))) M N_18 → g3 ≤ 6 → (x2_18 = 0 ∨ x2_18 = 1) → 6 - g3 < kk → Wp d 191 18 [.ref 76, .int (nI t), .int x2_18, .int (nI g3), .null, .null, .null] [] N_18 L Q := by
    intro kk
    induction kk with
    | zero => intro N_18 x2_18 g3 hS hi0_18 hi1_18 hm_18; exact absurd hm_18 (Nat.not_lt_zero _)
    | succ kk ih_18 =>
      intro N_18 x2_18 g3 hS hi0_18 hi1_18 hm_18
      refine w_load (.iload_n 3) 19 (by decide +kernel) rfl rfl ?_
      refine w_load (.aload_n 0) 20 (by decide +kernel) rfl rfl ?_
      refine w_getN (B := 6) (k := 15) 23 (by decide +kernel) sh_76 rfl (inv_seen hS.1) (fun n3 hn3 en3 => ?_)
      refine w_cgeN 136 26 (by decide +kernel) (by omega) (by omega) (fun h4 => ?_) (fun h4 => ?_)
      · skip
        refine w_load (.iload_n 2) 137 (by decide +kernel) rfl rfl ?_
        exact w_retZ (by decide +kernel) (by assumption) (hq _ N_18 hS (by assumption))
      · skip
        refine w_load (.aload_n 0) 27 (by decide +kernel) rfl rfl ?_
        refine w_getR (k := 16) (r := 86) 30 (by decide +kernel) sh_76 rfl ?_
        refine w_load (.iload_n 3) 31 (by decide +kernel) rfl rfl ?_
        refine w_ialdC (B := 4) 32 (by decide +kernel) sh_86 (by decide) (by omega) (inv_86 hS.1 _) (fun n5 hn5 en5 => ?_)
        refine w_store (ls' := [.ref 76, .int (nI t), .int x2_18, .int (nI g3), .int (nI n5), .null, .null]) (.istore 4) 34 (by decide +kernel) rfl rfl ?_
        refine w_load (.aload_n 0) 35 (by decide +kernel) rfl rfl ?_
        refine w_getR (k := 17) (r := 87) 38 (by decide +kernel) sh_76 rfl ?_
        refine w_load (.iload_n 3) 39 (by decide +kernel) rfl rfl ?_
        refine w_ialdN 40 (by decide +kernel) sh_87 (by omega) (by omega) ?_
        refine w_topi (fun v6 ev6 => ?_)
        refine w_store (ls' := [.ref 76, .int (nI t), .int x2_18, .int (nI g3), .int (nI n5), .int v6, .null]) (.istore 5) 42 (by decide +kernel) rfl rfl ?_
        refine w_load (.iload 5) 44 (by decide +kernel) rfl rfl ?_
        refine w_pushN 2 45 (by decide +kernel) ?_
        refine w_cge 81 48 (by decide +kernel) (fun h7 => ?_) (fun h7 => ?_)
        · skip
          refine w_load (.aload_n 0) 82 (by decide +kernel) rfl rfl ?_
          refine w_getR (k := 2) (r := 78) 85 (by decide +kernel) sh_76 rfl ?_
          refine w_pushN 27 87 (by decide +kernel) ?_
          refine w_load (.iload 4) 89 (by decide +kernel) rfl rfl ?_
          refine w_addN (27 + n5) 90 (by decide +kernel) (by omega) ?_
          refine w_ialdN 91 (by decide +kernel) sh_78 (by omega) (by omega) ?_
          refine w_load (.iload 5) 93 (by decide +kernel) rfl rfl ?_
          refine w_pushN 100 95 (by decide +kernel) ?_
          refine w_pure .isub 96 (by decide +kernel) rfl rfl ?_
          refine w_cne 103 99 (by decide +kernel) (fun h8 => ?_) (fun h8 => ?_)
          · skip
            refine w_pushN 0 104 (by decide +kernel) ?_
            refine w_store (ls' := [.ref 76, .int (nI t), .int x2_18, .int (nI g3), .int (nI n5), .int v6, .int (nI 0)]) (.istore 6) 106 (by decide +kernel) rfl rfl ?_
            refine w_load (.iload_n 2) 107 (by decide +kernel) rfl rfl ?_
            refine w_ieq 128 110 (by decide +kernel) (fun h9 => ?_) (fun h9 => ?_)
            · skip
              refine w_pushN 0 129 (by decide +kernel) ?_
              refine w_store (ls' := [.ref 76, .int (nI t), .int (nI 0), .int (nI g3), .int (nI n5), .int v6, .int (nI 0)]) (.istore_n 2) 130 (by decide +kernel) rfl rfl ?_
              refine w_iincN (z := 3) (g3 + 1) 133 (by decide +kernel) rfl (Nat.le_of_ble_eq_true rfl) rfl rfl ?_
              show Wp _ _ _ [.ref 76, .int (nI t), .int (nI 0), .int (nI (g3 + 1)), .int (nI n5), .int v6, .int (nI 0)] _ _ _ _
              refine w_goto 18 (by decide +kernel) ?_
              refine Wp.forget (ls := [.ref 76, .int (nI t), .int (nI 0), .int (nI (g3 + 1)), .null, .null, .null]) ⟨Or.inl rfl, Or.inl rfl, Or.inl rfl, Or.inl rfl, Or.inr ⟨rfl, rfl⟩, Or.inr ⟨rfl, rfl⟩, Or.inr ⟨rfl, rfl⟩, trivial⟩ ?_
              exact ih_18 N_18 _ (g3 + 1) hS (by first | omega | exact Or.inl rfl | exact Or.inr rfl | assumption) (by first | omega | exact Or.inl rfl | exact Or.inr rfl | assumption) (by omega)
            · skip
              refine w_load (.aload_n 0) 111 (by decide +kernel) rfl rfl ?_
              refine w_load (.iload 4) 113 (by decide +kernel) rfl rfl ?_
              refine w_callV1 150 8 2 116 (by decide +kernel) sh_76 (Nat.le_of_ble_eq_true rfl) rfl (by decide) (by omega) ?_
              obtain ⟨n10, hn10, en10⟩ := inv_g hS.1
              refine k_150 hS.1 (by omega) en10 (by omega) (fun r11 hr11 => ?_)
              dsimp only [Option.toList, List.cons_append, List.nil_append]
              rcases hr11 with ⟨rfl, k12, hk12, ek12⟩ | ⟨rfl, hnok12⟩
              · skip
                refine w_ieq 124 119 (by decide +kernel) (fun hz => absurd hz (by decide)) (fun _ => ?_)
                refine w_load (.iload 6) 121 (by decide +kernel) rfl rfl ?_
                refine w_ieq 128 124 (by decide +kernel) (fun _ => ?_) (fun hz => absurd hz (by decide))
                refine w_pushN 0 129 (by decide +kernel) ?_
                refine w_store (ls' := [.ref 76, .int (nI t), .int (nI 0), .int (nI g3), .int (nI n5), .int v6, .int (nI 0)]) (.istore_n 2) 130 (by decide +kernel) rfl rfl ?_
                refine w_iincN (z := 3) (g3 + 1) 133 (by decide +kernel) rfl (Nat.le_of_ble_eq_true rfl) rfl rfl ?_
                show Wp _ _ _ [.ref 76, .int (nI t), .int (nI 0), .int (nI (g3 + 1)), .int (nI n5), .int v6, .int (nI 0)] _ _ _ _
                refine w_goto 18 (by decide +kernel) ?_
                refine Wp.forget (ls := [.ref 76, .int (nI t), .int (nI 0), .int (nI (g3 + 1)), .null, .null, .null]) ⟨Or.inl rfl, Or.inl rfl, Or.inl rfl, Or.inl rfl, Or.inr ⟨rfl, rfl⟩, Or.inr ⟨rfl, rfl⟩, Or.inr ⟨rfl, rfl⟩, trivial⟩ ?_
                exact ih_18 N_18 _ (g3 + 1) hS (by first | omega | exact Or.inl rfl | exact Or.inr rfl | assumption) (by first | omega | exact Or.inl rfl | exact Or.inr rfl | assumption) (by omega)
              · skip
                refine w_ieq 124 119 (by decide +kernel) (fun _ => ?_) (fun hz => absurd hz (by decide))
                refine w_pushN 1 125 (by decide +kernel) ?_
                refine w_goto 129 (by decide +kernel) ?_
                refine w_store (ls' := [.ref 76, .int (nI t), .int (nI 1), .int (nI g3), .int (nI n5), .int v6, .int (nI 0)]) (.istore_n 2) 130 (by decide +kernel) rfl rfl ?_
                refine w_iincN (z := 3) (g3 + 1) 133 (by decide +kernel) rfl (Nat.le_of_ble_eq_true rfl) rfl rfl ?_
                show Wp _ _ _ [.ref 76, .int (nI t), .int (nI 1), .int (nI (g3 + 1)), .int (nI n5), .int v6, .int (nI 0)] _ _ _ _
                refine w_goto 18 (by decide +kernel) ?_
                refine Wp.forget (ls := [.ref 76, .int (nI t), .int (nI 1), .int (nI (g3 + 1)), .null, .null, .null]) ⟨Or.inl rfl, Or.inl rfl, Or.inl rfl, Or.inl rfl, Or.inr ⟨rfl, rfl⟩, Or.inr ⟨rfl, rfl⟩, Or.inr ⟨rfl, rfl⟩, trivial⟩ ?_
                exact ih_18 N_18 _ (g3 + 1) hS (by first | omega | exact Or.inl rfl | exact Or.inr rfl | assumption) (by first | omega | exact Or.inl rfl | exact Or.inr rfl | assumption) (by omega)
          · skip
            refine w_pushN 1 100 (by decide +kernel) ?_
            refine w_goto 104 (by decide +kernel) ?_
            refine w_store (ls' := [.ref 76, .int (nI t), .int x2_18, .int (nI g3), .int (nI n5), .int v6, .int (nI 1)]) (.istore 6) 106 (by decide +kernel) rfl rfl ?_
            refine w_load (.iload_n 2) 107 (by decide +kernel) rfl rfl ?_
            refine w_ieq 128 110 (by decide +kernel) (fun h16 => ?_) (fun h16 => ?_)
            · skip
              refine w_pushN 0 129 (by decide +kernel) ?_
              refine w_store (ls' := [.ref 76, .int (nI t), .int (nI 0), .int (nI g3), .int (nI n5), .int v6, .int (nI 1)]) (.istore_n 2) 130 (by decide +kernel) rfl rfl ?_
              refine w_iincN (z := 3) (g3 + 1) 133 (by decide +kernel) rfl (Nat.le_of_ble_eq_true rfl) rfl rfl ?_
              show Wp _ _ _ [.ref 76, .int (nI t), .int (nI 0), .int (nI (g3 + 1)), .int (nI n5), .int v6, .int (nI 1)] _ _ _ _
              refine w_goto 18 (by decide +kernel) ?_
              refine Wp.forget (ls := [.ref 76, .int (nI t), .int (nI 0), .int (nI (g3 + 1)), .null, .null, .null]) ⟨Or.inl rfl, Or.inl rfl, Or.inl rfl, Or.inl rfl, Or.inr ⟨rfl, rfl⟩, Or.inr ⟨rfl, rfl⟩, Or.inr ⟨rfl, rfl⟩, trivial⟩ ?_
              exact ih_18 N_18 _ (g3 + 1) hS (by first | omega | exact Or.inl rfl | exact Or.inr rfl | assumption) (by first | omega | exact Or.inl rfl | exact Or.inr rfl | assumption) (by omega)
            · skip
              refine w_load (.aload_n 0) 111 (by decide +kernel) rfl rfl ?_
              refine w_load (.iload 4) 113 (by decide +kernel) rfl rfl ?_
              refine w_callV1 150 8 2 116 (by decide +kernel) sh_76 (Nat.le_of_ble_eq_true rfl) rfl (by decide) (by omega) ?_
              obtain ⟨n17, hn17, en17⟩ := inv_g hS.1
              refine k_150 hS.1 (by omega) en17 (by omega) (fun r18 hr18 => ?_)
              dsimp only [Option.toList, List.cons_append, List.nil_append]
              rcases hr18 with ⟨rfl, k19, hk19, ek19⟩ | ⟨rfl, hnok19⟩
              · skip
                refine w_ieq 124 119 (by decide +kernel) (fun hz => absurd hz (by decide)) (fun _ => ?_)
                refine w_load (.iload 6) 121 (by decide +kernel) rfl rfl ?_
                refine w_ieq 128 124 (by decide +kernel) (fun hz => absurd hz (by decide)) (fun _ => ?_)
                refine w_pushN 1 125 (by decide +kernel) ?_
                refine w_goto 129 (by decide +kernel) ?_
                refine w_store (ls' := [.ref 76, .int (nI t), .int (nI 1), .int (nI g3), .int (nI n5), .int v6, .int (nI 1)]) (.istore_n 2) 130 (by decide +kernel) rfl rfl ?_
                refine w_iincN (z := 3) (g3 + 1) 133 (by decide +kernel) rfl (Nat.le_of_ble_eq_true rfl) rfl rfl ?_
                show Wp _ _ _ [.ref 76, .int (nI t), .int (nI 1), .int (nI (g3 + 1)), .int (nI n5), .int v6, .int (nI 1)] _ _ _ _
                refine w_goto 18 (by decide +kernel) ?_
                refine Wp.forget (ls := [.ref 76, .int (nI t), .int (nI 1), .int (nI (g3 + 1)), .null, .null, .null]) ⟨Or.inl rfl, Or.inl rfl, Or.inl rfl, Or.inl rfl, Or.inr ⟨rfl, rfl⟩, Or.inr ⟨rfl, rfl⟩, Or.inr ⟨rfl, rfl⟩, trivial⟩ ?_
                exact ih_18 N_18 _ (g3 + 1) hS (by first | omega | exact Or.inl rfl | exact Or.inr rfl | assumption) (by first | omega | exact Or.inl rfl | exact Or.inr rfl | assumption) (by omega)
              · skip
                refine w_ieq 124 119 (by decide +kernel) (fun _ => ?_) (fun hz => absurd hz (by decide))
                refine w_pushN 1 125 (by decide +kernel) ?_
                refine w_goto 129 (by decide +kernel) ?_
                refine w_store (ls' := [.ref 76, .int (nI t), .int (nI 1), .int (nI g3), .int (nI n5), .int v6, .int (nI 1)]) (.istore_n 2) 130 (by decide +kernel) rfl rfl ?_
                refine w_iincN (z := 3) (g3 + 1) 133 (by decide +kernel) rfl (Nat.le_of_ble_eq_true rfl) rfl rfl ?_
                show Wp _ _ _ [.ref 76, .int (nI t), .int (nI 1), .int (nI (g3 + 1)), .int (nI n5), .int v6, .int (nI 1)] _ _ _ _
                refine w_goto 18 (by decide +kernel) ?_
                refine Wp.forget (ls := [.ref 76, .int (nI t), .int (nI 1), .int (nI (g3 + 1)), .null, .null, .null]) ⟨Or.inl rfl, Or.inl rfl, Or.inl rfl, Or.inl rfl, Or.inr ⟨rfl, rfl⟩, Or.inr ⟨rfl, rfl⟩, Or.inr ⟨rfl, rfl⟩, trivial⟩ ?_
                exact ih_18 N_18 _ (g3 + 1) hS (by first | omega | exact Or.inl rfl | exact Or.inr rfl | assumption) (by first | omega | exact Or.inl rfl | exact Or.inr rfl | assumption) (by omega)
        · skip
          refine w_load (.aload_n 0) 49 (by decide +kernel) rfl rfl ?_
          refine w_getR (k := 2) (r := 78) 52 (by decide +kernel) sh_76 rfl ?_
          refine w_pushN 37 54 (by decide +kernel) ?_
          refine w_ialdN 55 (by decide +kernel) sh_78 (by omega) (by omega) ?_
          refine w_load (.iload 4) 57 (by decide +kernel) rfl rfl ?_
          refine w_callS2 135 2 60 (by decide +kernel) (Nat.le_of_ble_eq_true rfl) rfl rfl (by decide) (by omega) ?_
          refine k_135 hS.1  (by omega) (fun r23 hr23 => ?_)
          dsimp only [Option.toList, List.cons_append, List.nil_append]
          rcases hr23 with ⟨rfl, hbr23⟩ | ⟨rfl, hbr23⟩
          · skip
            refine w_load (.iload 5) 62 (by decide +kernel) rfl rfl ?_
            refine w_ine 69 65 (by decide +kernel) (fun h24 => ?_) (fun h24 => ?_)
            · skip
              refine w_pushN 0 70 (by decide +kernel) ?_
              refine w_cne 77 73 (by decide +kernel) (fun _ => ?_) (fun hz => absurd hz (by decide))
              refine w_pushN 0 78 (by decide +kernel) ?_
              refine w_goto 104 (by decide +kernel) ?_
              refine w_store (ls' := [.ref 76, .int (nI t), .int x2_18, .int (nI g3), .int (nI n5), .int v6, .int (nI 0)]) (.istore 6) 106 (by decide +kernel) rfl rfl ?_
              refine w_load (.iload_n 2) 107 (by decide +kernel) rfl rfl ?_
              refine w_ieq 128 110 (by decide +kernel) (fun h26 => ?_) (fun h26 => ?_)
              · skip
                refine w_pushN 0 129 (by decide +kernel) ?_
                refine w_store (ls' := [.ref 76, .int (nI t), .int (nI 0), .int (nI g3), .int (nI n5), .int v6, .int (nI 0)]) (.istore_n 2) 130 (by decide +kernel) rfl rfl ?_
                refine w_iincN (z := 3) (g3 + 1) 133 (by decide +kernel) rfl (Nat.le_of_ble_eq_true rfl) rfl rfl ?_
                show Wp _ _ _ [.ref 76, .int (nI t), .int (nI 0), .int (nI (g3 + 1)), .int (nI n5), .int v6, .int (nI 0)] _ _ _ _
                refine w_goto 18 (by decide +kernel) ?_
                refine Wp.forget (ls := [.ref 76, .int (nI t), .int (nI 0), .int (nI (g3 + 1)), .null, .null, .null]) ⟨Or.inl rfl, Or.inl rfl, Or.inl rfl, Or.inl rfl, Or.inr ⟨rfl, rfl⟩, Or.inr ⟨rfl, rfl⟩, Or.inr ⟨rfl, rfl⟩, trivial⟩ ?_
                exact ih_18 N_18 _ (g3 + 1) hS (by first | omega | exact Or.inl rfl | exact Or.inr rfl | assumption) (by first | omega | exact Or.inl rfl | exact Or.inr rfl | assumption) (by omega)
              · skip
                refine w_load (.aload_n 0) 111 (by decide +kernel) rfl rfl ?_
                refine w_load (.iload 4) 113 (by decide +kernel) rfl rfl ?_
                refine w_callV1 150 8 2 116 (by decide +kernel) sh_76 (Nat.le_of_ble_eq_true rfl) rfl (by decide) (by omega) ?_
                obtain ⟨n27, hn27, en27⟩ := inv_g hS.1
                refine k_150 hS.1 (by omega) en27 (by omega) (fun r28 hr28 => ?_)
                dsimp only [Option.toList, List.cons_append, List.nil_append]
                rcases hr28 with ⟨rfl, k29, hk29, ek29⟩ | ⟨rfl, hnok29⟩
                · skip
                  refine w_ieq 124 119 (by decide +kernel) (fun hz => absurd hz (by decide)) (fun _ => ?_)
                  refine w_load (.iload 6) 121 (by decide +kernel) rfl rfl ?_
                  refine w_ieq 128 124 (by decide +kernel) (fun _ => ?_) (fun hz => absurd hz (by decide))
                  refine w_pushN 0 129 (by decide +kernel) ?_
                  refine w_store (ls' := [.ref 76, .int (nI t), .int (nI 0), .int (nI g3), .int (nI n5), .int v6, .int (nI 0)]) (.istore_n 2) 130 (by decide +kernel) rfl rfl ?_
                  refine w_iincN (z := 3) (g3 + 1) 133 (by decide +kernel) rfl (Nat.le_of_ble_eq_true rfl) rfl rfl ?_
                  show Wp _ _ _ [.ref 76, .int (nI t), .int (nI 0), .int (nI (g3 + 1)), .int (nI n5), .int v6, .int (nI 0)] _ _ _ _
                  refine w_goto 18 (by decide +kernel) ?_
                  refine Wp.forget (ls := [.ref 76, .int (nI t), .int (nI 0), .int (nI (g3 + 1)), .null, .null, .null]) ⟨Or.inl rfl, Or.inl rfl, Or.inl rfl, Or.inl rfl, Or.inr ⟨rfl, rfl⟩, Or.inr ⟨rfl, rfl⟩, Or.inr ⟨rfl, rfl⟩, trivial⟩ ?_
                  exact ih_18 N_18 _ (g3 + 1) hS (by first | omega | exact Or.inl rfl | exact Or.inr rfl | assumption) (by first | omega | exact Or.inl rfl | exact Or.inr rfl | assumption) (by omega)
                · skip
                  refine w_ieq 124 119 (by decide +kernel) (fun _ => ?_) (fun hz => absurd hz (by decide))
                  refine w_pushN 1 125 (by decide +kernel) ?_
                  refine w_goto 129 (by decide +kernel) ?_
                  refine w_store (ls' := [.ref 76, .int (nI t), .int (nI 1), .int (nI g3), .int (nI n5), .int v6, .int (nI 0)]) (.istore_n 2) 130 (by decide +kernel) rfl rfl ?_
                  refine w_iincN (z := 3) (g3 + 1) 133 (by decide +kernel) rfl (Nat.le_of_ble_eq_true rfl) rfl rfl ?_
                  show Wp _ _ _ [.ref 76, .int (nI t), .int (nI 1), .int (nI (g3 + 1)), .int (nI n5), .int v6, .int (nI 0)] _ _ _ _
                  refine w_goto 18 (by decide +kernel) ?_
                  refine Wp.forget (ls := [.ref 76, .int (nI t), .int (nI 1), .int (nI (g3 + 1)), .null, .null, .null]) ⟨Or.inl rfl, Or.inl rfl, Or.inl rfl, Or.inl rfl, Or.inr ⟨rfl, rfl⟩, Or.inr ⟨rfl, rfl⟩, Or.inr ⟨rfl, rfl⟩, trivial⟩ ?_
                  exact ih_18 N_18 _ (g3 + 1) hS (by first | omega | exact Or.inl rfl | exact Or.inr rfl | assumption) (by first | omega | exact Or.inl rfl | exact Or.inr rfl | assumption) (by omega)
            · skip
              refine w_pushN 1 66 (by decide +kernel) ?_
              refine w_goto 70 (by decide +kernel) ?_
              refine w_cne 77 73 (by decide +kernel) (fun hz => absurd hz (by decide)) (fun _ => ?_)
              refine w_pushN 1 74 (by decide +kernel) ?_
              refine w_goto 104 (by decide +kernel) ?_
              refine w_store (ls' := [.ref 76, .int (nI t), .int x2_18, .int (nI g3), .int (nI n5), .int v6, .int (nI 1)]) (.istore 6) 106 (by decide +kernel) rfl rfl ?_
              refine w_load (.iload_n 2) 107 (by decide +kernel) rfl rfl ?_
              refine w_ieq 128 110 (by decide +kernel) (fun h34 => ?_) (fun h34 => ?_)
              · skip
                refine w_pushN 0 129 (by decide +kernel) ?_
                refine w_store (ls' := [.ref 76, .int (nI t), .int (nI 0), .int (nI g3), .int (nI n5), .int v6, .int (nI 1)]) (.istore_n 2) 130 (by decide +kernel) rfl rfl ?_
                refine w_iincN (z := 3) (g3 + 1) 133 (by decide +kernel) rfl (Nat.le_of_ble_eq_true rfl) rfl rfl ?_
                show Wp _ _ _ [.ref 76, .int (nI t), .int (nI 0), .int (nI (g3 + 1)), .int (nI n5), .int v6, .int (nI 1)] _ _ _ _
                refine w_goto 18 (by decide +kernel) ?_
                refine Wp.forget (ls := [.ref 76, .int (nI t), .int (nI 0), .int (nI (g3 + 1)), .null, .null, .null]) ⟨Or.inl rfl, Or.inl rfl, Or.inl rfl, Or.inl rfl, Or.inr ⟨rfl, rfl⟩, Or.inr ⟨rfl, rfl⟩, Or.inr ⟨rfl, rfl⟩, trivial⟩ ?_
                exact ih_18 N_18 _ (g3 + 1) hS (by first | omega | exact Or.inl rfl | exact Or.inr rfl | assumption) (by first | omega | exact Or.inl rfl | exact Or.inr rfl | assumption) (by omega)
              · skip
                refine w_load (.aload_n 0) 111 (by decide +kernel) rfl rfl ?_
                refine w_load (.iload 4) 113 (by decide +kernel) rfl rfl ?_
                refine w_callV1 150 8 2 116 (by decide +kernel) sh_76 (Nat.le_of_ble_eq_true rfl) rfl (by decide) (by omega) ?_
                obtain ⟨n35, hn35, en35⟩ := inv_g hS.1
                refine k_150 hS.1 (by omega) en35 (by omega) (fun r36 hr36 => ?_)
                dsimp only [Option.toList, List.cons_append, List.nil_append]
                rcases hr36 with ⟨rfl, k37, hk37, ek37⟩ | ⟨rfl, hnok37⟩
                · skip
                  refine w_ieq 124 119 (by decide +kernel) (fun hz => absurd hz (by decide)) (fun _ => ?_)
                  refine w_load (.iload 6) 121 (by decide +kernel) rfl rfl ?_
                  refine w_ieq 128 124 (by decide +kernel) (fun hz => absurd hz (by decide)) (fun _ => ?_)
                  refine w_pushN 1 125 (by decide +kernel) ?_
                  refine w_goto 129 (by decide +kernel) ?_
                  refine w_store (ls' := [.ref 76, .int (nI t), .int (nI 1), .int (nI g3), .int (nI n5), .int v6, .int (nI 1)]) (.istore_n 2) 130 (by decide +kernel) rfl rfl ?_
                  refine w_iincN (z := 3) (g3 + 1) 133 (by decide +kernel) rfl (Nat.le_of_ble_eq_true rfl) rfl rfl ?_
                  show Wp _ _ _ [.ref 76, .int (nI t), .int (nI 1), .int (nI (g3 + 1)), .int (nI n5), .int v6, .int (nI 1)] _ _ _ _
                  refine w_goto 18 (by decide +kernel) ?_
                  refine Wp.forget (ls := [.ref 76, .int (nI t), .int (nI 1), .int (nI (g3 + 1)), .null, .null, .null]) ⟨Or.inl rfl, Or.inl rfl, Or.inl rfl, Or.inl rfl, Or.inr ⟨rfl, rfl⟩, Or.inr ⟨rfl, rfl⟩, Or.inr ⟨rfl, rfl⟩, trivial⟩ ?_
                  exact ih_18 N_18 _ (g3 + 1) hS (by first | omega | exact Or.inl rfl | exact Or.inr rfl | assumption) (by first | omega | exact Or.inl rfl | exact Or.inr rfl | assumption) (by omega)
                · skip
                  refine w_ieq 124 119 (by decide +kernel) (fun _ => ?_) (fun hz => absurd hz (by decide))
                  refine w_pushN 1 125 (by decide +kernel) ?_
                  refine w_goto 129 (by decide +kernel) ?_
                  refine w_store (ls' := [.ref 76, .int (nI t), .int (nI 1), .int (nI g3), .int (nI n5), .int v6, .int (nI 1)]) (.istore_n 2) 130 (by decide +kernel) rfl rfl ?_
                  refine w_iincN (z := 3) (g3 + 1) 133 (by decide +kernel) rfl (Nat.le_of_ble_eq_true rfl) rfl rfl ?_
                  show Wp _ _ _ [.ref 76, .int (nI t), .int (nI 1), .int (nI (g3 + 1)), .int (nI n5), .int v6, .int (nI 1)] _ _ _ _
                  refine w_goto 18 (by decide +kernel) ?_
                  refine Wp.forget (ls := [.ref 76, .int (nI t), .int (nI 1), .int (nI (g3 + 1)), .null, .null, .null]) ⟨Or.inl rfl, Or.inl rfl, Or.inl rfl, Or.inl rfl, Or.inr ⟨rfl, rfl⟩, Or.inr ⟨rfl, rfl⟩, Or.inr ⟨rfl, rfl⟩, trivial⟩ ?_
                  exact ih_18 N_18 _ (g3 + 1) hS (by first | omega | exact Or.inl rfl | exact Or.inr rfl | assumption) (by first | omega | exact Or.inl rfl | exact Or.inr rfl | assumption) (by omega)
          · skip
            refine w_load (.iload 5) 62 (by decide +kernel) rfl rfl ?_
            refine w_ine 69 65 (by decide +kernel) (fun h41 => ?_) (fun h41 => ?_)
            · skip
              refine w_pushN 0 70 (by decide +kernel) ?_
              refine w_cne 77 73 (by decide +kernel) (fun hz => absurd hz (by decide)) (fun _ => ?_)
              refine w_pushN 1 74 (by decide +kernel) ?_
              refine w_goto 104 (by decide +kernel) ?_
              refine w_store (ls' := [.ref 76, .int (nI t), .int x2_18, .int (nI g3), .int (nI n5), .int v6, .int (nI 1)]) (.istore 6) 106 (by decide +kernel) rfl rfl ?_
              refine w_load (.iload_n 2) 107 (by decide +kernel) rfl rfl ?_
              refine w_ieq 128 110 (by decide +kernel) (fun h43 => ?_) (fun h43 => ?_)
              · skip
                refine w_pushN 0 129 (by decide +kernel) ?_
                refine w_store (ls' := [.ref 76, .int (nI t), .int (nI 0), .int (nI g3), .int (nI n5), .int v6, .int (nI 1)]) (.istore_n 2) 130 (by decide +kernel) rfl rfl ?_
                refine w_iincN (z := 3) (g3 + 1) 133 (by decide +kernel) rfl (Nat.le_of_ble_eq_true rfl) rfl rfl ?_
                show Wp _ _ _ [.ref 76, .int (nI t), .int (nI 0), .int (nI (g3 + 1)), .int (nI n5), .int v6, .int (nI 1)] _ _ _ _
                refine w_goto 18 (by decide +kernel) ?_
                refine Wp.forget (ls := [.ref 76, .int (nI t), .int (nI 0), .int (nI (g3 + 1)), .null, .null, .null]) ⟨Or.inl rfl, Or.inl rfl, Or.inl rfl, Or.inl rfl, Or.inr ⟨rfl, rfl⟩, Or.inr ⟨rfl, rfl⟩, Or.inr ⟨rfl, rfl⟩, trivial⟩ ?_
                exact ih_18 N_18 _ (g3 + 1) hS (by first | omega | exact Or.inl rfl | exact Or.inr rfl | assumption) (by first | omega | exact Or.inl rfl | exact Or.inr rfl | assumption) (by omega)
              · skip
                refine w_load (.aload_n 0) 111 (by decide +kernel) rfl rfl ?_
                refine w_load (.iload 4) 113 (by decide +kernel) rfl rfl ?_
                refine w_callV1 150 8 2 116 (by decide +kernel) sh_76 (Nat.le_of_ble_eq_true rfl) rfl (by decide) (by omega) ?_
                obtain ⟨n44, hn44, en44⟩ := inv_g hS.1
                refine k_150 hS.1 (by omega) en44 (by omega) (fun r45 hr45 => ?_)
                dsimp only [Option.toList, List.cons_append, List.nil_append]
                rcases hr45 with ⟨rfl, k46, hk46, ek46⟩ | ⟨rfl, hnok46⟩
                · skip
                  refine w_ieq 124 119 (by decide +kernel) (fun hz => absurd hz (by decide)) (fun _ => ?_)
                  refine w_load (.iload 6) 121 (by decide +kernel) rfl rfl ?_
                  refine w_ieq 128 124 (by decide +kernel) (fun hz => absurd hz (by decide)) (fun _ => ?_)
                  refine w_pushN 1 125 (by decide +kernel) ?_
                  refine w_goto 129 (by decide +kernel) ?_
                  refine w_store (ls' := [.ref 76, .int (nI t), .int (nI 1), .int (nI g3), .int (nI n5), .int v6, .int (nI 1)]) (.istore_n 2) 130 (by decide +kernel) rfl rfl ?_
                  refine w_iincN (z := 3) (g3 + 1) 133 (by decide +kernel) rfl (Nat.le_of_ble_eq_true rfl) rfl rfl ?_
                  show Wp _ _ _ [.ref 76, .int (nI t), .int (nI 1), .int (nI (g3 + 1)), .int (nI n5), .int v6, .int (nI 1)] _ _ _ _
                  refine w_goto 18 (by decide +kernel) ?_
                  refine Wp.forget (ls := [.ref 76, .int (nI t), .int (nI 1), .int (nI (g3 + 1)), .null, .null, .null]) ⟨Or.inl rfl, Or.inl rfl, Or.inl rfl, Or.inl rfl, Or.inr ⟨rfl, rfl⟩, Or.inr ⟨rfl, rfl⟩, Or.inr ⟨rfl, rfl⟩, trivial⟩ ?_
                  exact ih_18 N_18 _ (g3 + 1) hS (by first | omega | exact Or.inl rfl | exact Or.inr rfl | assumption) (by first | omega | exact Or.inl rfl | exact Or.inr rfl | assumption) (by omega)
                · skip
                  refine w_ieq 124 119 (by decide +kernel) (fun _ => ?_) (fun hz => absurd hz (by decide))
                  refine w_pushN 1 125 (by decide +kernel) ?_
                  refine w_goto 129 (by decide +kernel) ?_
                  refine w_store (ls' := [.ref 76, .int (nI t), .int (nI 1), .int (nI g3), .int (nI n5), .int v6, .int (nI 1)]) (.istore_n 2) 130 (by decide +kernel) rfl rfl ?_
                  refine w_iincN (z := 3) (g3 + 1) 133 (by decide +kernel) rfl (Nat.le_of_ble_eq_true rfl) rfl rfl ?_
                  show Wp _ _ _ [.ref 76, .int (nI t), .int (nI 1), .int (nI (g3 + 1)), .int (nI n5), .int v6, .int (nI 1)] _ _ _ _
                  refine w_goto 18 (by decide +kernel) ?_
                  refine Wp.forget (ls := [.ref 76, .int (nI t), .int (nI 1), .int (nI (g3 + 1)), .null, .null, .null]) ⟨Or.inl rfl, Or.inl rfl, Or.inl rfl, Or.inl rfl, Or.inr ⟨rfl, rfl⟩, Or.inr ⟨rfl, rfl⟩, Or.inr ⟨rfl, rfl⟩, trivial⟩ ?_
                  exact ih_18 N_18 _ (g3 + 1) hS (by first | omega | exact Or.inl rfl | exact Or.inr rfl | assumption) (by first | omega | exact Or.inl rfl | exact Or.inr rfl | assumption) (by omega)
            · skip
              refine w_pushN 1 66 (by decide +kernel) ?_
              refine w_goto 70 (by decide +kernel) ?_
              refine w_cne 77 73 (by decide +kernel) (fun _ => ?_) (fun hz => absurd hz (by decide))
              refine w_pushN 0 78 (by decide +kernel) ?_
              refine w_goto 104 (by decide +kernel) ?_
              refine w_store (ls' := [.ref 76, .int (nI t), .int x2_18, .int (nI g3), .int (nI n5), .int v6, .int (nI 0)]) (.istore 6) 106 (by decide +kernel) rfl rfl ?_
              refine w_load (.iload_n 2) 107 (by decide +kernel) rfl rfl ?_
              refine w_ieq 128 110 (by decide +kernel) (fun h51 => ?_) (fun h51 => ?_)
              · skip
                refine w_pushN 0 129 (by decide +kernel) ?_
                refine w_store (ls' := [.ref 76, .int (nI t), .int (nI 0), .int (nI g3), .int (nI n5), .int v6, .int (nI 0)]) (.istore_n 2) 130 (by decide +kernel) rfl rfl ?_
                refine w_iincN (z := 3) (g3 + 1) 133 (by decide +kernel) rfl (Nat.le_of_ble_eq_true rfl) rfl rfl ?_
                show Wp _ _ _ [.ref 76, .int (nI t), .int (nI 0), .int (nI (g3 + 1)), .int (nI n5), .int v6, .int (nI 0)] _ _ _ _
                refine w_goto 18 (by decide +kernel) ?_
                refine Wp.forget (ls := [.ref 76, .int (nI t), .int (nI 0), .int (nI (g3 + 1)), .null, .null, .null]) ⟨Or.inl rfl, Or.inl rfl, Or.inl rfl, Or.inl rfl, Or.inr ⟨rfl, rfl⟩, Or.inr ⟨rfl, rfl⟩, Or.inr ⟨rfl, rfl⟩, trivial⟩ ?_
                exact ih_18 N_18 _ (g3 + 1) hS (by first | omega | exact Or.inl rfl | exact Or.inr rfl | assumption) (by first | omega | exact Or.inl rfl | exact Or.inr rfl | assumption) (by omega)
              · skip
                refine w_load (.aload_n 0) 111 (by decide +kernel) rfl rfl ?_
                refine w_load (.iload 4) 113 (by decide +kernel) rfl rfl ?_
                refine w_callV1 150 8 2 116 (by decide +kernel) sh_76 (Nat.le_of_ble_eq_true rfl) rfl (by decide) (by omega) ?_
                obtain ⟨n52, hn52, en52⟩ := inv_g hS.1
                refine k_150 hS.1 (by omega) en52 (by omega) (fun r53 hr53 => ?_)
                dsimp only [Option.toList, List.cons_append, List.nil_append]
                rcases hr53 with ⟨rfl, k54, hk54, ek54⟩ | ⟨rfl, hnok54⟩
                · skip
                  refine w_ieq 124 119 (by decide +kernel) (fun hz => absurd hz (by decide)) (fun _ => ?_)
                  refine w_load (.iload 6) 121 (by decide +kernel) rfl rfl ?_
                  refine w_ieq 128 124 (by decide +kernel) (fun _ => ?_) (fun hz => absurd hz (by decide))
                  refine w_pushN 0 129 (by decide +kernel) ?_
                  refine w_store (ls' := [.ref 76, .int (nI t), .int (nI 0), .int (nI g3), .int (nI n5), .int v6, .int (nI 0)]) (.istore_n 2) 130 (by decide +kernel) rfl rfl ?_
                  refine w_iincN (z := 3) (g3 + 1) 133 (by decide +kernel) rfl (Nat.le_of_ble_eq_true rfl) rfl rfl ?_
                  show Wp _ _ _ [.ref 76, .int (nI t), .int (nI 0), .int (nI (g3 + 1)), .int (nI n5), .int v6, .int (nI 0)] _ _ _ _
                  refine w_goto 18 (by decide +kernel) ?_
                  refine Wp.forget (ls := [.ref 76, .int (nI t), .int (nI 0), .int (nI (g3 + 1)), .null, .null, .null]) ⟨Or.inl rfl, Or.inl rfl, Or.inl rfl, Or.inl rfl, Or.inr ⟨rfl, rfl⟩, Or.inr ⟨rfl, rfl⟩, Or.inr ⟨rfl, rfl⟩, trivial⟩ ?_
                  exact ih_18 N_18 _ (g3 + 1) hS (by first | omega | exact Or.inl rfl | exact Or.inr rfl | assumption) (by first | omega | exact Or.inl rfl | exact Or.inr rfl | assumption) (by omega)
                · skip
                  refine w_ieq 124 119 (by decide +kernel) (fun _ => ?_) (fun hz => absurd hz (by decide))
                  refine w_pushN 1 125 (by decide +kernel) ?_
                  refine w_goto 129 (by decide +kernel) ?_
                  refine w_store (ls' := [.ref 76, .int (nI t), .int (nI 1), .int (nI g3), .int (nI n5), .int v6, .int (nI 0)]) (.istore_n 2) 130 (by decide +kernel) rfl rfl ?_
                  refine w_iincN (z := 3) (g3 + 1) 133 (by decide +kernel) rfl (Nat.le_of_ble_eq_true rfl) rfl rfl ?_
                  show Wp _ _ _ [.ref 76, .int (nI t), .int (nI 1), .int (nI (g3 + 1)), .int (nI n5), .int v6, .int (nI 0)] _ _ _ _
                  refine w_goto 18 (by decide +kernel) ?_
                  refine Wp.forget (ls := [.ref 76, .int (nI t), .int (nI 1), .int (nI (g3 + 1)), .null, .null, .null]) ⟨Or.inl rfl, Or.inl rfl, Or.inl rfl, Or.inl rfl, Or.inr ⟨rfl, rfl⟩, Or.inr ⟨rfl, rfl⟩, Or.inr ⟨rfl, rfl⟩, trivial⟩ ?_
                  exact ih_18 N_18 _ (g3 + 1) hS (by first | omega | exact Or.inl rfl | exact Or.inr rfl | assumption) (by first | omega | exact Or.inl rfl | exact Or.inr rfl | assumption) (by omega)
  exact LP_18 _ Nr2 _ 0 hS (by first | omega | exact Or.inr rfl) (by first | omega | exact Or.inr rfl) (Nat.lt_succ_self _)
-- X8_which
set_option maxRecDepth 10000 in
theorem k_192 {d : Nat} {M : Mt} {L : Lt} {Q : Option Value → Mt → Lt → Prop}  (hI : Inv M)  (hd : 5 ≤ d) (hq : ∀ (r : Int32) (N : Mt), St (fun i k => (i = 78 ∧ 22 ≤ k) ∨ i = 83 ∨ i = 84 ∨ (i = 76 ∧ (k = 7 ∨ k = 11))) M N → True → Q (some (.int r)) N L) : Wp d 192 0 [.ref 76] [] M L Q := by
  refine (show ∀ N : Mt, N = M → St (fun i k => (i = 78 ∧ 22 ≤ k) ∨ i = 83 ∨ i = 84 ∨ (i = 76 ∧ (k = 7 ∨ k = 11))) M N → Wp d 192 0 [.ref 76] [] N L Q from ?_) M rfl (St.rf hI)
  intro N hNM hS
  refine w_load (.aload_n 0) 1 (by decide +kernel) rfl rfl ?_
  refine w_pushN 0 2 (by decide +kernel) ?_
  refine w_callV1 191 8 7 5 (by decide +kernel) sh_76 (Nat.le_of_ble_eq_true rfl) rfl (by decide) (by omega) ?_
  refine k_191 hS.1 (by omega) (by omega) (fun r1 Nr1 hTr1 hr1 => ?_)
  have hS := hS.tr hTr1 (by intro i k; first | exact rfl | exact fun h => h.elim | omega | (dsimp only; omega) | (simp only [Hs, Tl, Sc, isHs, isScr, isTs] at *; omega))
  dsimp only [Option.toList, List.cons_append, List.nil_append]
  refine w_ieq 12 8 (by decide +kernel) (fun h2 => ?_) (fun h2 => ?_)
  · skip
    refine w_pushN 0 13 (by decide +kernel) ?_
    refine w_load (.aload_n 0) 14 (by decide +kernel) rfl rfl ?_
    refine w_pushN 1 15 (by decide +kernel) ?_
    refine w_callV1 191 8 7 18 (by decide +kernel) sh_76 (Nat.le_of_ble_eq_true rfl) rfl (by decide) (by omega) ?_
    refine k_191 hS.1 (by omega) (by omega) (fun r3 Nr3 hTr3 hr3 => ?_)
    have hS := hS.tr hTr3 (by intro i k; first | exact rfl | exact fun h => h.elim | omega | (dsimp only; omega) | (simp only [Hs, Tl, Sc, isHs, isScr, isTs] at *; omega))
    dsimp only [Option.toList, List.cons_append, List.nil_append]
    refine w_ieq 25 21 (by decide +kernel) (fun h4 => ?_) (fun h4 => ?_)
    · skip
      refine w_pushN 0 26 (by decide +kernel) ?_
      refine w_addN 0 27 (by decide +kernel) (by omega) ?_
      refine w_load (.aload_n 0) 28 (by decide +kernel) rfl rfl ?_
      refine w_pushN 2 29 (by decide +kernel) ?_
      refine w_callV1 191 8 7 32 (by decide +kernel) sh_76 (Nat.le_of_ble_eq_true rfl) rfl (by decide) (by omega) ?_
      refine k_191 hS.1 (by omega) (by omega) (fun r5 Nr5 hTr5 hr5 => ?_)
      have hS := hS.tr hTr5 (by intro i k; first | exact rfl | exact fun h => h.elim | omega | (dsimp only; omega) | (simp only [Hs, Tl, Sc, isHs, isScr, isTs] at *; omega))
      dsimp only [Option.toList, List.cons_append, List.nil_append]
      refine w_ieq 39 35 (by decide +kernel) (fun h6 => ?_) (fun h6 => ?_)
      · skip
        refine w_pushN 0 40 (by decide +kernel) ?_
        refine w_addN 0 41 (by decide +kernel) (by omega) ?_
        exact w_ret (by decide +kernel) (hq _ Nr5 hS trivial)
      · skip
        refine w_pushN 4 36 (by decide +kernel) ?_
        refine w_goto 40 (by decide +kernel) ?_
        refine w_addN 4 41 (by decide +kernel) (by omega) ?_
        exact w_ret (by decide +kernel) (hq _ Nr5 hS trivial)
    · skip
      refine w_pushN 2 22 (by decide +kernel) ?_
      refine w_goto 26 (by decide +kernel) ?_
      refine w_addN 2 27 (by decide +kernel) (by omega) ?_
      refine w_load (.aload_n 0) 28 (by decide +kernel) rfl rfl ?_
      refine w_pushN 2 29 (by decide +kernel) ?_
      refine w_callV1 191 8 7 32 (by decide +kernel) sh_76 (Nat.le_of_ble_eq_true rfl) rfl (by decide) (by omega) ?_
      refine k_191 hS.1 (by omega) (by omega) (fun r7 Nr7 hTr7 hr7 => ?_)
      have hS := hS.tr hTr7 (by intro i k; first | exact rfl | exact fun h => h.elim | omega | (dsimp only; omega) | (simp only [Hs, Tl, Sc, isHs, isScr, isTs] at *; omega))
      dsimp only [Option.toList, List.cons_append, List.nil_append]
      refine w_ieq 39 35 (by decide +kernel) (fun h8 => ?_) (fun h8 => ?_)
      · skip
        refine w_pushN 0 40 (by decide +kernel) ?_
        refine w_addN 2 41 (by decide +kernel) (by omega) ?_
        exact w_ret (by decide +kernel) (hq _ Nr7 hS trivial)
      · skip
        refine w_pushN 4 36 (by decide +kernel) ?_
        refine w_goto 40 (by decide +kernel) ?_
        refine w_addN 6 41 (by decide +kernel) (by omega) ?_
        exact w_ret (by decide +kernel) (hq _ Nr7 hS trivial)
  · skip
    refine w_pushN 1 9 (by decide +kernel) ?_
    refine w_goto 13 (by decide +kernel) ?_
    refine w_load (.aload_n 0) 14 (by decide +kernel) rfl rfl ?_
    refine w_pushN 1 15 (by decide +kernel) ?_
    refine w_callV1 191 8 7 18 (by decide +kernel) sh_76 (Nat.le_of_ble_eq_true rfl) rfl (by decide) (by omega) ?_
    refine k_191 hS.1 (by omega) (by omega) (fun r9 Nr9 hTr9 hr9 => ?_)
    have hS := hS.tr hTr9 (by intro i k; first | exact rfl | exact fun h => h.elim | omega | (dsimp only; omega) | (simp only [Hs, Tl, Sc, isHs, isScr, isTs] at *; omega))
    dsimp only [Option.toList, List.cons_append, List.nil_append]
    refine w_ieq 25 21 (by decide +kernel) (fun h10 => ?_) (fun h10 => ?_)
    · skip
      refine w_pushN 0 26 (by decide +kernel) ?_
      refine w_addN 1 27 (by decide +kernel) (by omega) ?_
      refine w_load (.aload_n 0) 28 (by decide +kernel) rfl rfl ?_
      refine w_pushN 2 29 (by decide +kernel) ?_
      refine w_callV1 191 8 7 32 (by decide +kernel) sh_76 (Nat.le_of_ble_eq_true rfl) rfl (by decide) (by omega) ?_
      refine k_191 hS.1 (by omega) (by omega) (fun r11 Nr11 hTr11 hr11 => ?_)
      have hS := hS.tr hTr11 (by intro i k; first | exact rfl | exact fun h => h.elim | omega | (dsimp only; omega) | (simp only [Hs, Tl, Sc, isHs, isScr, isTs] at *; omega))
      dsimp only [Option.toList, List.cons_append, List.nil_append]
      refine w_ieq 39 35 (by decide +kernel) (fun h12 => ?_) (fun h12 => ?_)
      · skip
        refine w_pushN 0 40 (by decide +kernel) ?_
        refine w_addN 1 41 (by decide +kernel) (by omega) ?_
        exact w_ret (by decide +kernel) (hq _ Nr11 hS trivial)
      · skip
        refine w_pushN 4 36 (by decide +kernel) ?_
        refine w_goto 40 (by decide +kernel) ?_
        refine w_addN 5 41 (by decide +kernel) (by omega) ?_
        exact w_ret (by decide +kernel) (hq _ Nr11 hS trivial)
    · skip
      refine w_pushN 2 22 (by decide +kernel) ?_
      refine w_goto 26 (by decide +kernel) ?_
      refine w_addN 3 27 (by decide +kernel) (by omega) ?_
      refine w_load (.aload_n 0) 28 (by decide +kernel) rfl rfl ?_
      refine w_pushN 2 29 (by decide +kernel) ?_
      refine w_callV1 191 8 7 32 (by decide +kernel) sh_76 (Nat.le_of_ble_eq_true rfl) rfl (by decide) (by omega) ?_
      refine k_191 hS.1 (by omega) (by omega) (fun r13 Nr13 hTr13 hr13 => ?_)
      have hS := hS.tr hTr13 (by intro i k; first | exact rfl | exact fun h => h.elim | omega | (dsimp only; omega) | (simp only [Hs, Tl, Sc, isHs, isScr, isTs] at *; omega))
      dsimp only [Option.toList, List.cons_append, List.nil_append]
      refine w_ieq 39 35 (by decide +kernel) (fun h14 => ?_) (fun h14 => ?_)
      · skip
        refine w_pushN 0 40 (by decide +kernel) ?_
        refine w_addN 3 41 (by decide +kernel) (by omega) ?_
        exact w_ret (by decide +kernel) (hq _ Nr13 hS trivial)
      · skip
        refine w_pushN 4 36 (by decide +kernel) ?_
        refine w_goto 40 (by decide +kernel) ?_
        refine w_addN 7 41 (by decide +kernel) (by omega) ?_
        exact w_ret (by decide +kernel) (hq _ Nr13 hS trivial)
-- X8_common
set_option maxRecDepth 10000 in
theorem k_193 {d : Nat} {M : Mt} {L : Lt} {Q : Option Value → Mt → Lt → Prop} {a b : Nat} (hI : Inv M) (ha : a ≤ 30) (hb : 0 < b) (hb2 : b ≤ 30) (hd : 0 ≤ d) (hq : ∀ (r : Int32), (∃ n, 0 < n ∧ n ≤ 30 ∧ r = nI n) → Q (some (.int r)) M L) : Wp d 193 0 [.int (nI a), .int (nI b), .null, .null, .null] [] M L Q := by
  refine w_load (.iload_n 0) 1 (by decide +kernel) rfl rfl ?_
  refine w_store (ls' := [.int (nI a), .int (nI b), .int (nI a), .null, .null]) (.istore_n 2) 2 (by decide +kernel) rfl rfl ?_
  refine w_load (.iload_n 1) 3 (by decide +kernel) rfl rfl ?_
  refine w_store (ls' := [.int (nI a), .int (nI b), .int (nI a), .int (nI b), .null]) (.istore_n 3) 4 (by decide +kernel) rfl rfl ?_
  have LP_4 : ∀ (kk : Nat) (g2 : Nat) (g3 : Nat), g2 ≤ 30 → g3 ≤ 30 → 0 < g2 + g3 → g3 < kk → Wp d 193 4 [.int (nI a), .int (nI b), .int (nI g2), .int (nI g3), .null] [] M L Q := by
    intro kk
    induction kk with
    | zero => intro g2 g3 hi0_4 hi1_4 hi2_4 hm_4; exact absurd hm_4 (Nat.not_lt_zero _)
    | succ kk ih_4 =>
      intro g2 g3 hi0_4 hi1_4 hi2_4 hm_4
      refine w_load (.iload_n 3) 5 (by decide +kernel) rfl rfl ?_
      refine w_ieqN 21 8 (by decide +kernel) (by omega) (fun h1 => ?_) (fun h1 => ?_)
      · skip
        refine w_load (.iload_n 2) 22 (by decide +kernel) rfl rfl ?_
        exact w_ret (by decide +kernel) (hq _ ⟨_, by omega, by omega, rfl⟩)
      · skip
        refine w_load (.iload_n 2) 9 (by decide +kernel) rfl rfl ?_
        refine w_load (.iload_n 3) 10 (by decide +kernel) rfl rfl ?_
        refine w_remN (g2 % g3) 11 (by decide +kernel) (by omega) (by omega) (by omega) rfl ?_
        refine w_store (ls' := [.int (nI a), .int (nI b), .int (nI g2), .int (nI g3), .int (nI ((g2 % g3)))]) (.istore 4) 13 (by decide +kernel) rfl rfl ?_
        refine w_load (.iload_n 3) 14 (by decide +kernel) rfl rfl ?_
        refine w_store (ls' := [.int (nI a), .int (nI b), .int (nI g3), .int (nI g3), .int (nI ((g2 % g3)))]) (.istore_n 2) 15 (by decide +kernel) rfl rfl ?_
        refine w_load (.iload 4) 17 (by decide +kernel) rfl rfl ?_
        refine w_store (ls' := [.int (nI a), .int (nI b), .int (nI g3), .int (nI ((g2 % g3))), .int (nI ((g2 % g3)))]) (.istore_n 3) 18 (by decide +kernel) rfl rfl ?_
        refine w_goto 4 (by decide +kernel) ?_
        refine Wp.forget (ls := [.int (nI a), .int (nI b), .int (nI g3), .int (nI ((g2 % g3))), .null]) ⟨Or.inl rfl, Or.inl rfl, Or.inl rfl, Or.inl rfl, Or.inr ⟨rfl, rfl⟩, trivial⟩ ?_
        have hml := Nat.mod_lt g2 (show 0 < g3 by omega)
        exact ih_4 g3 ((g2 % g3)) (by omega) (by omega) (by omega) (by omega)
  exact LP_4 _ a b (by omega) (by omega) (by omega) (Nat.lt_succ_self _)
-- X8_likely
set_option maxRecDepth 10000 in
theorem k_194 {d : Nat} {M : Mt} {L : Lt} {Q : Option Value → Mt → Lt → Prop} {a : Int32} {b : Int32} (hI : Inv M)  (hd : 6 ≤ d) (hq : ∀ (r : Int32) (N : Mt), St (fun i k => (i = 78 ∧ 22 ≤ k) ∨ i = 83 ∨ i = 84 ∨ (i = 76 ∧ (k = 7 ∨ k = 11))) M N → True → Q (some (.int r)) N L) : Wp d 194 0 [.ref 76, .int a, .int b, .null, .null, .null, .null] [] M L Q := by
  refine (show ∀ N : Mt, N = M → St (fun i k => (i = 78 ∧ 22 ≤ k) ∨ i = 83 ∨ i = 84 ∨ (i = 76 ∧ (k = 7 ∨ k = 11))) M N → Wp d 194 0 [.ref 76, .int a, .int b, .null, .null, .null, .null] [] N L Q from ?_) M rfl (St.rf hI)
  intro N hNM hS
  refine w_load (.iload_n 1) 1 (by decide +kernel) rfl rfl ?_
  refine w_callS1 142 1 4 (by decide +kernel) (Nat.le_of_ble_eq_true rfl) rfl (by decide) (by omega) ?_
  refine k_142 hS.1  (by omega) (fun r1 hr1 => ?_)
  dsimp only [Option.toList, List.cons_append, List.nil_append]
  rcases hr1 with ⟨rfl, k2, hk2, rfl⟩ | ⟨rfl, hnok2⟩
  · skip
    refine w_ine 9 7 (by decide +kernel) (fun _ => ?_) (fun hz => absurd hz (by decide))
    refine w_load (.aload_n 0) 10 (by decide +kernel) rfl rfl ?_
    refine w_callV0 192 8 1 13 (by decide +kernel) sh_76 (Nat.le_of_ble_eq_true rfl)  (by decide) (by omega) ?_
    refine k_192 hS.1  (by omega) (fun r4 Nr4 hTr4 hr4 => ?_)
    have hS := hS.tr hTr4 (by intro i k; first | exact rfl | exact fun h => h.elim | omega | (dsimp only; omega) | (simp only [Hs, Tl, Sc, isHs, isScr, isTs] at *; omega))
    dsimp only [Option.toList, List.cons_append, List.nil_append]
    refine w_store (ls' := [.ref 76, .int (nI k2), .int b, .int r4, .null, .null, .null]) (.istore_n 3) 14 (by decide +kernel) rfl rfl ?_
    refine w_pushN 0 15 (by decide +kernel) ?_
    refine w_store (ls' := [.ref 76, .int (nI k2), .int b, .int r4, .int (nI 0), .null, .null]) (.istore 4) 17 (by decide +kernel) rfl rfl ?_
    refine w_pushN 0 18 (by decide +kernel) ?_
    refine w_store (ls' := [.ref 76, .int (nI k2), .int b, .int r4, .int (nI 0), .int (nI 0), .null]) (.istore 5) 20 (by decide +kernel) rfl rfl ?_
    have LP_20 : ∀ (kk : Nat) (N_20 : Mt) (g4 : Nat) (g5 : Nat), St (fun i k => (i = 78 ∧ 22 ≤ k) ∨ i = 83 ∨ i = 84 ∨ (i = 76 ∧ (k = 7 ∨ k = 11))) M N_20 → g5 ≤ 3 → g4 ≤ 10 * g5 → 3 - g5 < kk → Wp d 194 20 [.ref 76, .int (nI k2), .int b, .int r4, .int (nI g4), .int (nI g5), .null] [] N_20 L Q := by
      intro kk
      induction kk with
      | zero => intro N_20 g4 g5 hS hi0_20 hi1_20 hm_20; exact absurd hm_20 (Nat.not_lt_zero _)
      | succ kk ih_20 =>
        intro N_20 g4 g5 hS hi0_20 hi1_20 hm_20
        refine w_load (.iload 5) 22 (by decide +kernel) rfl rfl ?_
        refine w_pushN 3 23 (by decide +kernel) ?_
        refine w_cgeN 57 26 (by decide +kernel) (by omega) (by omega) (fun h5 => ?_) (fun h5 => ?_)
        · skip
          refine w_load (.iload 4) 59 (by decide +kernel) rfl rfl ?_
          refine w_ineN 65 62 (by decide +kernel) (by omega) (fun h6 => ?_) (fun h6 => ?_)
          · skip
            refine w_load (.iload_n 3) 66 (by decide +kernel) rfl rfl ?_
            refine w_load (.iload_n 1) 67 (by decide +kernel) rfl rfl ?_
            refine w_callS2 135 2 70 (by decide +kernel) (Nat.le_of_ble_eq_true rfl) rfl rfl (by decide) (by omega) ?_
            refine k_135 hS.1  (by omega) (fun r7 hr7 => ?_)
            dsimp only [Option.toList, List.cons_append, List.nil_append]
            rcases hr7 with ⟨rfl, hbr7⟩ | ⟨rfl, hbr7⟩
            · skip
              refine w_ieq 82 73 (by decide +kernel) (fun hz => absurd hz (by decide)) (fun _ => ?_)
              refine w_load (.aload_n 0) 74 (by decide +kernel) rfl rfl ?_
              refine w_getR (k := 14) (r := 85) 77 (by decide +kernel) sh_76 rfl ?_
              refine w_load (.iload_n 1) 78 (by decide +kernel) rfl rfl ?_
              refine w_ialdC (B := 10) 79 (by decide +kernel) sh_85 (by decide) (by omega) (inv_85 hS.1 _) (fun n9 hn9 en9 => ?_)
              refine w_goto 83 (by decide +kernel) ?_
              refine w_store (ls' := [.ref 76, .int (nI k2), .int b, .int r4, .int (nI g4), .int (nI n9), .null]) (.istore 5) 85 (by decide +kernel) rfl rfl ?_
              refine w_load (.iload 5) 87 (by decide +kernel) rfl rfl ?_
              refine w_load (.iload 4) 89 (by decide +kernel) rfl rfl ?_
              refine w_callS2 193 5 92 (by decide +kernel) (Nat.le_of_ble_eq_true rfl) rfl rfl (by decide) (by omega) ?_
              refine k_193 hS.1 (by omega) (by omega) (by omega) (by omega) (fun r10 hr10 => ?_)
              dsimp only [Option.toList, List.cons_append, List.nil_append]
              rcases hr10 with ⟨nr10, hnr10, hmr10, rfl⟩
              · skip
                refine w_store (ls' := [.ref 76, .int (nI k2), .int b, .int r4, .int (nI g4), .int (nI n9), .int (nI nr10)]) (.istore 6) 94 (by decide +kernel) rfl rfl ?_
                refine w_load (.iload_n 2) 95 (by decide +kernel) rfl rfl ?_
                refine w_ieq 106 98 (by decide +kernel) (fun h11 => ?_) (fun h11 => ?_)
                · skip
                  refine w_load (.iload 4) 108 (by decide +kernel) rfl rfl ?_
                  refine w_load (.iload 6) 110 (by decide +kernel) rfl rfl ?_
                  refine w_div 111 (by decide +kernel) (nI_nz (by omega) (by omega)) ?_
                  exact w_ret (by decide +kernel) (hq _ N_20 hS trivial)
                · skip
                  refine w_load (.iload 5) 100 (by decide +kernel) rfl rfl ?_
                  refine w_load (.iload 6) 102 (by decide +kernel) rfl rfl ?_
                  refine w_div 103 (by decide +kernel) (nI_nz (by omega) (by omega)) ?_
                  refine w_goto 111 (by decide +kernel) ?_
                  exact w_ret (by decide +kernel) (hq _ N_20 hS trivial)
            · skip
              refine w_ieq 82 73 (by decide +kernel) (fun _ => ?_) (fun hz => absurd hz (by decide))
              refine w_pushN 0 83 (by decide +kernel) ?_
              refine w_store (ls' := [.ref 76, .int (nI k2), .int b, .int r4, .int (nI g4), .int (nI 0), .null]) (.istore 5) 85 (by decide +kernel) rfl rfl ?_
              refine w_load (.iload 5) 87 (by decide +kernel) rfl rfl ?_
              refine w_load (.iload 4) 89 (by decide +kernel) rfl rfl ?_
              refine w_callS2 193 5 92 (by decide +kernel) (Nat.le_of_ble_eq_true rfl) rfl rfl (by decide) (by omega) ?_
              refine k_193 hS.1 (by omega) (by omega) (by omega) (by omega) (fun r13 hr13 => ?_)
              dsimp only [Option.toList, List.cons_append, List.nil_append]
              rcases hr13 with ⟨nr13, hnr13, hmr13, rfl⟩
              · skip
                refine w_store (ls' := [.ref 76, .int (nI k2), .int b, .int r4, .int (nI g4), .int (nI 0), .int (nI nr13)]) (.istore 6) 94 (by decide +kernel) rfl rfl ?_
                refine w_load (.iload_n 2) 95 (by decide +kernel) rfl rfl ?_
                refine w_ieq 106 98 (by decide +kernel) (fun h14 => ?_) (fun h14 => ?_)
                · skip
                  refine w_load (.iload 4) 108 (by decide +kernel) rfl rfl ?_
                  refine w_load (.iload 6) 110 (by decide +kernel) rfl rfl ?_
                  refine w_div 111 (by decide +kernel) (nI_nz (by omega) (by omega)) ?_
                  exact w_ret (by decide +kernel) (hq _ N_20 hS trivial)
                · skip
                  refine w_load (.iload 5) 100 (by decide +kernel) rfl rfl ?_
                  refine w_load (.iload 6) 102 (by decide +kernel) rfl rfl ?_
                  refine w_div 103 (by decide +kernel) (nI_nz (by omega) (by omega)) ?_
                  refine w_goto 111 (by decide +kernel) ?_
                  exact w_ret (by decide +kernel) (hq _ N_20 hS trivial)
          · skip
            refine w_push (-3) 64 (by decide +kernel) ?_
            exact w_ret (by decide +kernel) (hq _ N_20 hS trivial)
        · skip
          refine w_load (.iload 4) 28 (by decide +kernel) rfl rfl ?_
          refine w_load (.iload_n 3) 29 (by decide +kernel) rfl rfl ?_
          refine w_load (.iload 5) 31 (by decide +kernel) rfl rfl ?_
          refine w_callS2 135 2 34 (by decide +kernel) (Nat.le_of_ble_eq_true rfl) rfl rfl (by decide) (by omega) ?_
          refine k_135 hS.1  (by omega) (fun r15 hr15 => ?_)
          dsimp only [Option.toList, List.cons_append, List.nil_append]
          rcases hr15 with ⟨rfl, hbr15⟩ | ⟨rfl, hbr15⟩
          · skip
            refine w_ieq 47 37 (by decide +kernel) (fun hz => absurd hz (by decide)) (fun _ => ?_)
            refine w_load (.aload_n 0) 38 (by decide +kernel) rfl rfl ?_
            refine w_getR (k := 14) (r := 85) 41 (by decide +kernel) sh_76 rfl ?_
            refine w_load (.iload 5) 43 (by decide +kernel) rfl rfl ?_
            refine w_ialdC (B := 10) 44 (by decide +kernel) sh_85 (by decide) (by omega) (inv_85 hS.1 _) (fun n17 hn17 en17 => ?_)
            refine w_goto 48 (by decide +kernel) ?_
            refine w_addN (g4 + n17) 49 (by decide +kernel) (by omega) ?_
            refine w_store (ls' := [.ref 76, .int (nI k2), .int b, .int r4, .int (nI (g4 + n17)), .int (nI g5), .null]) (.istore 4) 51 (by decide +kernel) rfl rfl ?_
            refine w_iincN (z := 5) (g5 + 1) 54 (by decide +kernel) rfl (Nat.le_of_ble_eq_true rfl) rfl rfl ?_
            show Wp _ _ _ [.ref 76, .int (nI k2), .int b, .int r4, .int (nI (g4 + n17)), .int (nI (g5 + 1)), .null] _ _ _ _
            refine w_goto 20 (by decide +kernel) ?_
            exact ih_20 N_20 (g4 + n17) (g5 + 1) hS (by omega) (by omega) (by omega)
          · skip
            refine w_ieq 47 37 (by decide +kernel) (fun _ => ?_) (fun hz => absurd hz (by decide))
            refine w_pushN 0 48 (by decide +kernel) ?_
            refine w_addN g4 49 (by decide +kernel) (by omega) ?_
            refine w_store (ls' := [.ref 76, .int (nI k2), .int b, .int r4, .int (nI g4), .int (nI g5), .null]) (.istore 4) 51 (by decide +kernel) rfl rfl ?_
            refine w_iincN (z := 5) (g5 + 1) 54 (by decide +kernel) rfl (Nat.le_of_ble_eq_true rfl) rfl rfl ?_
            show Wp _ _ _ [.ref 76, .int (nI k2), .int b, .int r4, .int (nI g4), .int (nI (g5 + 1)), .null] _ _ _ _
            refine w_goto 20 (by decide +kernel) ?_
            exact ih_20 N_20 g4 (g5 + 1) hS (by omega) (by omega) (by omega)
    exact LP_20 _ Nr4 0 0 hS (by omega) (by omega) (Nat.lt_succ_self _)
  · skip
    refine w_ine 9 7 (by decide +kernel) (fun hz => absurd hz (by decide)) (fun _ => ?_)
    refine w_push (-1) 8 (by decide +kernel) ?_
    exact w_ret (by decide +kernel) (hq _ N hS trivial)
-- X8_seed
set_option maxRecDepth 10000 in
theorem k_195 {d : Nat} {M : Mt} {L : Lt} {Q : Option Value → Mt → Lt → Prop} {v : Int64} (hI : Inv M)  (hd : 0 ≤ d) (hq : ∀ (r : Int64) (N : Mt) (L' : Lt), St (fun _ _ => False) M N → (r = L 76 ∧ L' = upL L 76 v) → Q (some (.long r)) N L') : Wp d 195 0 [.ref 76, .long v, .null, .null, .null] [] M L Q := by
  refine (show ∀ N : Mt, N = M → St (fun _ _ => False) M N → Wp d 195 0 [.ref 76, .long v, .null, .null, .null] [] N L Q from ?_) M rfl (St.rf hI)
  intro N hNM hS
  refine w_load (.aload_n 0) 1 (by decide +kernel) rfl rfl ?_
  refine w_getL (k := 18) 4 (by decide +kernel) sh_76 rfl ?_
  refine w_topl (fun v1 ev1 => ?_)
  refine w_store (ls' := [.ref 76, .long v, .null, .long v1, .null]) (.lstore_n 3) 5 (by decide +kernel) rfl rfl ?_
  refine w_load (.aload_n 0) 6 (by decide +kernel) rfl rfl ?_
  refine w_load (.lload_n 1) 7 (by decide +kernel) rfl rfl ?_
  refine w_putLE (k := 18) 10 (by decide +kernel) sh_76 rfl only76 (fun Lq2 mq2 => ?_)
  refine w_load (.lload_n 3) 11 (by decide +kernel) rfl rfl ?_
  exact w_retL (by decide +kernel) (hq _ N Lq2 hS ⟨by assumption, by assumption⟩)
-- X8_nights
set_option maxRecDepth 10000 in
theorem k_196 {d : Nat} {M : Mt} {L : Lt} {Q : Option Value → Mt → Lt → Prop} {a : Int32} (hI : Inv M)  (hd : 4 ≤ d) (hq : ∀ (r : Int32) (N : Mt) (L' : Lt), St (fun i k => (i = 78 ∧ 22 ≤ k) ∨ i = 83 ∨ i = 84 ∨ (i = 76 ∧ (k = 7 ∨ k = 11))) M N → ((¬ (∃ k, 1 ≤ k ∧ k ≤ 40 ∧ a = nI k) ∧ L' = L) ∨ (∃ k, 1 ≤ k ∧ k ≤ 40 ∧ a = nI k ∧ L' 76 = itS k (L 76) ∧ L' 0 = L 0)) → Q (some (.int r)) N L') : Wp d 196 0 [.ref 76, .int a, .null, .null] [] M L Q := by
  refine (show ∀ N : Mt, N = M → St (fun i k => (i = 78 ∧ 22 ≤ k) ∨ i = 83 ∨ i = 84 ∨ (i = 76 ∧ (k = 7 ∨ k = 11))) M N → Wp d 196 0 [.ref 76, .int a, .null, .null] [] N L Q from ?_) M rfl (St.rf hI)
  intro N hNM hS
  refine w_load (.iload_n 1) 1 (by decide +kernel) rfl rfl ?_
  refine w_pure .i2l 2 (by decide +kernel) rfl rfl ?_
  refine w_pushL (1) 3 (by decide +kernel) ?_
  refine w_pushL (40) 6 (by decide +kernel) ?_
  refine w_callSL 134 6 9 (by decide +kernel) (Nat.le_of_ble_eq_true rfl) rfl (by omega) ?_
  refine k_134 hS.1  (by omega) (fun r1 hr1 => ?_)
  dsimp only [Option.toList, List.cons_append, List.nil_append]
  rcases hr1 with ⟨rfl, hlok3, hhik3⟩ | ⟨rfl, hnok3⟩
  · skip
    obtain ⟨k3, hlk3, hhk3, rfl⟩ := in_k (lo := 1) (hi := 40) hlok3 hhik3 (by decide)
    refine w_ine 15 12 (by decide +kernel) (fun _ => ?_) (fun hz => absurd hz (by decide))
    refine w_load (.aload_n 0) 16 (by decide +kernel) rfl rfl ?_
    refine w_pushN 0 17 (by decide +kernel) ?_
    refine w_pushN 1 18 (by decide +kernel) ?_
    refine w_callV2 160 8 4 21 (by decide +kernel) sh_76 (Nat.le_of_ble_eq_true rfl) rfl rfl (by decide) (by omega) ?_
    refine k_160 hS.1 (by omega) (by omega) (by omega) (fun Nr5 hTr5 hr5 => ?_)
    have hS := hS.tr hTr5 (by intro i k; first | exact rfl | exact fun h => h.elim | omega | (dsimp only; omega) | (simp only [Hs, Tl, Sc, isHs, isScr, isTs] at *; omega))
    dsimp only [Option.toList, List.nil_append]
    refine w_pushN 0 22 (by decide +kernel) ?_
    refine w_store (ls' := [.ref 76, .int (nI k3), .int (nI 0), .null]) (.istore_n 2) 23 (by decide +kernel) rfl rfl ?_
    have LP_23 : ∀ (kk : Nat) (N_23 : Mt) (L_23 : Lt) (g2 : Nat), St (fun i k => (i = 78 ∧ 22 ≤ k) ∨ i = 83 ∨ i = 84 ∨ (i = 76 ∧ (k = 7 ∨ k = 11))) M N_23 → g2 ≤ 40 → L_23 76 = itS g2 (L 76) → L_23 0 = L 0 → g2 ≤ k3 → 40 - g2 < kk → Wp d 196 23 [.ref 76, .int (nI k3), .int (nI g2), .null] [] N_23 L_23 Q := by
      intro kk
      induction kk with
      | zero => intro N_23 L_23 g2 hS hi0_23 hi1_23 hi2_23 hi3_23 hm_23; exact absurd hm_23 (Nat.not_lt_zero _)
      | succ kk ih_23 =>
        intro N_23 L_23 g2 hS hi0_23 hi1_23 hi2_23 hi3_23 hm_23
        refine w_load (.iload_n 2) 24 (by decide +kernel) rfl rfl ?_
        refine w_load (.iload_n 1) 25 (by decide +kernel) rfl rfl ?_
        refine w_cgeN 106 28 (by decide +kernel) (by omega) (by omega) (fun h6 => ?_) (fun h6 => ?_)
        · skip
          refine w_load (.aload_n 0) 107 (by decide +kernel) rfl rfl ?_
          refine w_getR (k := 2) (r := 78) 110 (by decide +kernel) sh_76 rfl ?_
          refine w_pushN 37 112 (by decide +kernel) ?_
          refine w_ialdN 113 (by decide +kernel) sh_78 (by omega) (by omega) ?_
          exact w_ret (by decide +kernel) (hq _ N_23 L_23 hS (Or.inr ⟨_, by omega, by omega, rfl, it_end hi1_23 (by omega), hi2_23⟩))
        · skip
          refine w_load (.aload_n 0) 29 (by decide +kernel) rfl rfl ?_
          refine w_load (.aload_n 0) 30 (by decide +kernel) rfl rfl ?_
          refine w_getL (k := 18) 33 (by decide +kernel) sh_76 rfl ?_
          refine w_pushL (6364136223846793005) 36 (by decide +kernel) ?_
          refine w_pure .lmul 37 (by decide +kernel) rfl rfl ?_
          refine w_pushL (1442695040888963407) 40 (by decide +kernel) ?_
          refine w_pure .ladd 41 (by decide +kernel) rfl rfl ?_
          refine w_putLE (k := 18) 44 (by decide +kernel) sh_76 rfl only76 (fun Lq7 mq7 => ?_)
          have hl0 : Lq7 76 = itS (g2 + 1) (L 76) := by rw [mq7, upL_eq, hi1_23]; rfl
          have hl76 : Lq7 0 = L 0 := by rw [mq7, upL_ne (by decide)]; exact hi2_23
          refine w_load (.aload_n 0) 45 (by decide +kernel) rfl rfl ?_
          refine w_getL (k := 18) 48 (by decide +kernel) sh_76 rfl ?_
          refine w_pushN 33 50 (by decide +kernel) ?_
          refine w_pure .lushr 51 (by decide +kernel) rfl rfl ?_
          refine w_pushL (10) 54 (by decide +kernel) ?_
          refine w_lrem 55 (by decide +kernel) (by decide) ?_
          refine w_pure .l2i 56 (by decide +kernel) rfl rfl ?_
          refine w_topi (fun v8 ev8 => ?_)
          refine w_store (ls' := [.ref 76, .int (nI k3), .int (nI g2), .int v8]) (.istore_n 3) 57 (by decide +kernel) rfl rfl ?_
          refine w_load (.aload_n 0) 58 (by decide +kernel) rfl rfl ?_
          refine w_pushN 1 59 (by decide +kernel) ?_
          refine w_load (.iload_n 3) 60 (by decide +kernel) rfl rfl ?_
          refine w_load (.aload_n 0) 61 (by decide +kernel) rfl rfl ?_
          refine w_getR (k := 14) (r := 85) 64 (by decide +kernel) sh_76 rfl ?_
          refine w_pushN 0 65 (by decide +kernel) ?_
          refine w_ialdC (B := 10) 66 (by decide +kernel) sh_85 (by decide) (by omega) (inv_85 hS.1 _) (fun n9 hn9 en9 => ?_)
          refine w_cge 73 69 (by decide +kernel) (fun h10 => ?_) (fun h10 => ?_)
          · skip
            refine w_load (.iload_n 3) 74 (by decide +kernel) rfl rfl ?_
            refine w_load (.aload_n 0) 75 (by decide +kernel) rfl rfl ?_
            refine w_getR (k := 14) (r := 85) 78 (by decide +kernel) sh_76 rfl ?_
            refine w_pushN 0 79 (by decide +kernel) ?_
            refine w_ialdK 80 (by decide +kernel) sh_85 (by decide) (by omega) en9 ?_
            refine w_load (.aload_n 0) 81 (by decide +kernel) rfl rfl ?_
            refine w_getR (k := 14) (r := 85) 84 (by decide +kernel) sh_76 rfl ?_
            refine w_pushN 1 85 (by decide +kernel) ?_
            refine w_ialdC (B := 10) 86 (by decide +kernel) sh_85 (by decide) (by omega) (inv_85 hS.1 _) (fun n11 hn11 en11 => ?_)
            refine w_addN (n9 + n11) 87 (by decide +kernel) (by omega) ?_
            refine w_cge 94 90 (by decide +kernel) (fun h12 => ?_) (fun h12 => ?_)
            · skip
              refine w_pushN 2 95 (by decide +kernel) ?_
              refine w_pushN 0 96 (by decide +kernel) ?_
              refine w_callV3 159 8 7 99 (by decide +kernel) sh_76 (Nat.le_of_ble_eq_true rfl) rfl rfl rfl (by decide) (by omega) ?_
              refine k_159 hS.1 (by omega) (by omega) (by omega) (fun r13 Nr13 hTr13 hr13 => ?_)
              have hS := hS.tr hTr13 (by intro i k; first | exact rfl | exact fun h => h.elim | omega | (dsimp only; omega) | (simp only [Hs, Tl, Sc, isHs, isScr, isTs] at *; omega))
              dsimp only [Option.toList, List.cons_append, List.nil_append]
              refine w_pure .pop 100 (by decide +kernel) rfl rfl ?_
              refine w_iincN (z := 2) (g2 + 1) 103 (by decide +kernel) rfl (Nat.le_of_ble_eq_true rfl) rfl rfl ?_
              show Wp _ _ _ [.ref 76, .int (nI k3), .int (nI (g2 + 1)), .int v8] _ _ _ _
              refine w_goto 23 (by decide +kernel) ?_
              refine Wp.forget (ls := [.ref 76, .int (nI k3), .int (nI (g2 + 1)), .null]) ⟨Or.inl rfl, Or.inl rfl, Or.inl rfl, Or.inr ⟨rfl, rfl⟩, trivial⟩ ?_
              exact ih_23 Nr13 Lq7 (g2 + 1) hS (by first | omega | assumption) (by first | omega | assumption) (by first | omega | assumption) (by first | omega | assumption) (by omega)
            · skip
              refine w_pushN 1 91 (by decide +kernel) ?_
              refine w_goto 95 (by decide +kernel) ?_
              refine w_pushN 0 96 (by decide +kernel) ?_
              refine w_callV3 159 8 7 99 (by decide +kernel) sh_76 (Nat.le_of_ble_eq_true rfl) rfl rfl rfl (by decide) (by omega) ?_
              refine k_159 hS.1 (by omega) (by omega) (by omega) (fun r14 Nr14 hTr14 hr14 => ?_)
              have hS := hS.tr hTr14 (by intro i k; first | exact rfl | exact fun h => h.elim | omega | (dsimp only; omega) | (simp only [Hs, Tl, Sc, isHs, isScr, isTs] at *; omega))
              dsimp only [Option.toList, List.cons_append, List.nil_append]
              refine w_pure .pop 100 (by decide +kernel) rfl rfl ?_
              refine w_iincN (z := 2) (g2 + 1) 103 (by decide +kernel) rfl (Nat.le_of_ble_eq_true rfl) rfl rfl ?_
              show Wp _ _ _ [.ref 76, .int (nI k3), .int (nI (g2 + 1)), .int v8] _ _ _ _
              refine w_goto 23 (by decide +kernel) ?_
              refine Wp.forget (ls := [.ref 76, .int (nI k3), .int (nI (g2 + 1)), .null]) ⟨Or.inl rfl, Or.inl rfl, Or.inl rfl, Or.inr ⟨rfl, rfl⟩, trivial⟩ ?_
              exact ih_23 Nr14 Lq7 (g2 + 1) hS (by first | omega | assumption) (by first | omega | assumption) (by first | omega | assumption) (by first | omega | assumption) (by omega)
          · skip
            refine w_pushN 0 70 (by decide +kernel) ?_
            refine w_goto 95 (by decide +kernel) ?_
            refine w_pushN 0 96 (by decide +kernel) ?_
            refine w_callV3 159 8 7 99 (by decide +kernel) sh_76 (Nat.le_of_ble_eq_true rfl) rfl rfl rfl (by decide) (by omega) ?_
            refine k_159 hS.1 (by omega) (by omega) (by omega) (fun r15 Nr15 hTr15 hr15 => ?_)
            have hS := hS.tr hTr15 (by intro i k; first | exact rfl | exact fun h => h.elim | omega | (dsimp only; omega) | (simp only [Hs, Tl, Sc, isHs, isScr, isTs] at *; omega))
            dsimp only [Option.toList, List.cons_append, List.nil_append]
            refine w_pure .pop 100 (by decide +kernel) rfl rfl ?_
            refine w_iincN (z := 2) (g2 + 1) 103 (by decide +kernel) rfl (Nat.le_of_ble_eq_true rfl) rfl rfl ?_
            show Wp _ _ _ [.ref 76, .int (nI k3), .int (nI (g2 + 1)), .int v8] _ _ _ _
            refine w_goto 23 (by decide +kernel) ?_
            refine Wp.forget (ls := [.ref 76, .int (nI k3), .int (nI (g2 + 1)), .null]) ⟨Or.inl rfl, Or.inl rfl, Or.inl rfl, Or.inr ⟨rfl, rfl⟩, trivial⟩ ?_
            exact ih_23 Nr15 Lq7 (g2 + 1) hS (by first | omega | assumption) (by first | omega | assumption) (by first | omega | assumption) (by first | omega | assumption) (by omega)
    exact LP_23 _ Nr5 L 0 hS (by first | omega | rfl) (by first | omega | rfl) (by first | omega | rfl) (by first | omega | rfl) (Nat.lt_succ_self _)
  · skip
    refine w_ine 15 12 (by decide +kernel) (fun hz => absurd hz (by decide)) (fun _ => ?_)
    refine w_push (-2) 14 (by decide +kernel) ?_
    exact w_ret (by decide +kernel) (hq _ N L hS (Or.inl ⟨in_no1 (by assumption) (by decide) (by decide), rfl⟩))
-- X8_count
set_option maxRecDepth 10000 in
theorem k_199 {d : Nat} {M : Mt} {L : Lt} {Q : Option Value → Mt → Lt → Prop} {a : Int32} (hI : Inv M)  (hd : 1 ≤ d) (hq : ∀ (r : Int32), True → Q (some (.int r)) M L) : Wp d 199 0 [.ref 76, .int a, .null, .null, .null] [] M L Q := by
  refine w_pushN 0 1 (by decide +kernel) ?_
  refine w_store (ls' := [.ref 76, .int a, .int (nI 0), .null, .null]) (.istore_n 2) 2 (by decide +kernel) rfl rfl ?_
  refine w_pushN 0 3 (by decide +kernel) ?_
  refine w_store (ls' := [.ref 76, .int a, .int (nI 0), .int (nI 0), .null]) (.istore_n 3) 4 (by decide +kernel) rfl rfl ?_
  refine w_pushN 0 5 (by decide +kernel) ?_
  refine w_store (ls' := [.ref 76, .int a, .int (nI 0), .int (nI 0), .int (nI 0)]) (.istore 4) 7 (by decide +kernel) rfl rfl ?_
  have LP_7 : ∀ (kk : Nat) (x2_7 : Int32) (x3_7 : Int32) (g4 : Nat), g4 ≤ 5 → 5 - g4 < kk → Wp d 199 7 [.ref 76, .int a, .int x2_7, .int x3_7, .int (nI g4)] [] M L Q := by
    intro kk
    induction kk with
    | zero => intro x2_7 x3_7 g4 hi0_7 hm_7; exact absurd hm_7 (Nat.not_lt_zero _)
    | succ kk ih_7 =>
      intro x2_7 x3_7 g4 hi0_7 hm_7
      refine w_load (.iload 4) 9 (by decide +kernel) rfl rfl ?_
      refine w_load (.aload_n 0) 10 (by decide +kernel) rfl rfl ?_
      refine w_getN (B := 5) (k := 0) 13 (by decide +kernel) sh_76 rfl (inv_g hI) (fun n1 hn1 en1 => ?_)
      refine w_cgeN 79 16 (by decide +kernel) (by omega) (by omega) (fun h2 => ?_) (fun h2 => ?_)
      · skip
        refine w_load (.iload_n 1) 80 (by decide +kernel) rfl rfl ?_
        refine w_tab (show insAt 199 80 = some (.tableswitch 123 0 9 #[56, 61, 66, 74, 82, 84, 90, 95, 100, 102]) by decide +kernel) (fun h3 => ⟨203, rfl, ?_⟩) (fun z4 h3 h3b => ?_)
        · skip
          refine w_push (-2) 205 (by decide +kernel) ?_
          exact w_ret (by decide +kernel) (hq _ trivial)
        · rcases (by omega : z4 = 0 ∨ z4 = 1 ∨ z4 = 2 ∨ z4 = 3 ∨ z4 = 4 ∨ z4 = 5 ∨ z4 = 6 ∨ z4 = 7 ∨ z4 = 8 ∨ z4 = 9) with rfl | rfl | rfl | rfl | rfl | rfl | rfl | rfl | rfl | rfl
          · refine ⟨_, 136, rfl, rfl, ?_⟩
            refine w_load (.aload_n 0) 137 (by decide +kernel) rfl rfl ?_
            refine w_getN (B := 24) (k := 4) 140 (by decide +kernel) sh_76 rfl (inv_len hI) (fun n5 hn5 en5 => ?_)
            exact w_ret (by decide +kernel) (hq _ trivial)
          · refine ⟨_, 141, rfl, rfl, ?_⟩
            refine w_load (.aload_n 0) 142 (by decide +kernel) rfl rfl ?_
            refine w_getK (k := 0) 145 (by decide +kernel) sh_76 rfl en1 ?_
            exact w_ret (by decide +kernel) (hq _ trivial)
          · refine ⟨_, 146, rfl, rfl, ?_⟩
            refine w_load (.aload_n 0) 147 (by decide +kernel) rfl rfl ?_
            refine w_getR (k := 2) (r := 78) 150 (by decide +kernel) sh_76 rfl ?_
            refine w_pushN 16 152 (by decide +kernel) ?_
            refine w_ialdN 153 (by decide +kernel) sh_78 (by omega) (by omega) ?_
            exact w_ret (by decide +kernel) (hq _ trivial)
          · refine ⟨_, 154, rfl, rfl, ?_⟩
            refine w_load (.aload_n 0) 155 (by decide +kernel) rfl rfl ?_
            refine w_getR (k := 2) (r := 78) 158 (by decide +kernel) sh_76 rfl ?_
            refine w_pushN 15 160 (by decide +kernel) ?_
            refine w_ialdN 161 (by decide +kernel) sh_78 (by omega) (by omega) ?_
            exact w_ret (by decide +kernel) (hq _ trivial)
          · refine ⟨_, 162, rfl, rfl, ?_⟩
            refine w_load (.iload_n 2) 163 (by decide +kernel) rfl rfl ?_
            exact w_ret (by decide +kernel) (hq _ trivial)
          · refine ⟨_, 164, rfl, rfl, ?_⟩
            refine w_load (.aload_n 0) 165 (by decide +kernel) rfl rfl ?_
            refine w_pushN 0 166 (by decide +kernel) ?_
            refine w_callV1 166 8 4 169 (by decide +kernel) sh_76 (Nat.le_of_ble_eq_true rfl) rfl (by decide) (by omega) ?_
            refine k_166 hI (by omega) (by omega) (fun r6 hr6 => ?_)
            dsimp only [Option.toList, List.cons_append, List.nil_append]
            exact w_ret (by decide +kernel) (hq _ trivial)
          · refine ⟨_, 170, rfl, rfl, ?_⟩
            refine w_load (.aload_n 0) 171 (by decide +kernel) rfl rfl ?_
            refine w_getI (k := 8) 174 (by decide +kernel) sh_76 rfl ?_
            exact w_ret (by decide +kernel) (hq _ trivial)
          · refine ⟨_, 175, rfl, rfl, ?_⟩
            refine w_load (.aload_n 0) 176 (by decide +kernel) rfl rfl ?_
            refine w_getN (B := 6) (k := 15) 179 (by decide +kernel) sh_76 rfl (inv_seen hI) (fun n7 hn7 en7 => ?_)
            exact w_ret (by decide +kernel) (hq _ trivial)
          · refine ⟨_, 180, rfl, rfl, ?_⟩
            refine w_load (.iload_n 3) 181 (by decide +kernel) rfl rfl ?_
            exact w_ret (by decide +kernel) (hq _ trivial)
          · refine ⟨_, 182, rfl, rfl, ?_⟩
            refine w_load (.aload_n 0) 183 (by decide +kernel) rfl rfl ?_
            refine w_getR (k := 6) (r := 81) 186 (by decide +kernel) sh_76 rfl ?_
            refine w_pushN 0 187 (by decide +kernel) ?_
            refine w_ialdC (B := 24) 188 (by decide +kernel) sh_81 (by decide) (by omega) (inv_81 hI _) (fun n8 hn8 en8 => ?_)
            refine w_load (.aload_n 0) 189 (by decide +kernel) rfl rfl ?_
            refine w_getR (k := 6) (r := 81) 192 (by decide +kernel) sh_76 rfl ?_
            refine w_pushN 1 193 (by decide +kernel) ?_
            refine w_ialdC (B := 24) 194 (by decide +kernel) sh_81 (by decide) (by omega) (inv_81 hI _) (fun n9 hn9 en9 => ?_)
            refine w_addN (n8 + n9) 195 (by decide +kernel) (by omega) ?_
            refine w_load (.aload_n 0) 196 (by decide +kernel) rfl rfl ?_
            refine w_getR (k := 6) (r := 81) 199 (by decide +kernel) sh_76 rfl ?_
            refine w_pushN 2 200 (by decide +kernel) ?_
            refine w_ialdC (B := 24) 201 (by decide +kernel) sh_81 (by decide) (by omega) (inv_81 hI _) (fun n10 hn10 en10 => ?_)
            refine w_addN (n8 + n9 + n10) 202 (by decide +kernel) (by omega) ?_
            exact w_ret (by decide +kernel) (hq _ trivial)
      · skip
        refine w_load (.iload_n 2) 17 (by decide +kernel) rfl rfl ?_
        refine w_load (.aload_n 0) 18 (by decide +kernel) rfl rfl ?_
        refine w_getR (k := 2) (r := 78) 21 (by decide +kernel) sh_76 rfl ?_
        refine w_pushN 10 23 (by decide +kernel) ?_
        refine w_load (.iload 4) 25 (by decide +kernel) rfl rfl ?_
        refine w_addN (10 + g4) 26 (by decide +kernel) (by omega) ?_
        refine w_ialdN 27 (by decide +kernel) sh_78 (by omega) (by omega) ?_
        refine w_push (-9) 29 (by decide +kernel) ?_
        refine w_ceq 39 32 (by decide +kernel) (fun h11 => ?_) (fun h11 => ?_)
        · skip
          refine w_pushN 0 40 (by decide +kernel) ?_
          refine w_pure .ior 41 (by decide +kernel) rfl rfl ?_
          refine w_topi (fun v12 ev12 => ?_)
          refine w_store (ls' := [.ref 76, .int a, .int v12, .int x3_7, .int (nI g4)]) (.istore_n 2) 42 (by decide +kernel) rfl rfl ?_
          refine w_load (.iload_n 3) 43 (by decide +kernel) rfl rfl ?_
          refine w_load (.aload_n 0) 44 (by decide +kernel) rfl rfl ?_
          refine w_getR (k := 2) (r := 78) 47 (by decide +kernel) sh_76 rfl ?_
          refine w_pushN 15 49 (by decide +kernel) ?_
          refine w_ialdN 50 (by decide +kernel) sh_78 (by omega) (by omega) ?_
          refine w_load (.iload 4) 52 (by decide +kernel) rfl rfl ?_
          refine w_callS2 135 2 55 (by decide +kernel) (Nat.le_of_ble_eq_true rfl) rfl rfl (by decide) (by omega) ?_
          refine k_135 hI  (by omega) (fun r13 hr13 => ?_)
          dsimp only [Option.toList, List.cons_append, List.nil_append]
          rcases hr13 with ⟨rfl, hbr13⟩ | ⟨rfl, hbr13⟩
          · skip
            refine w_ieq 70 58 (by decide +kernel) (fun hz => absurd hz (by decide)) (fun _ => ?_)
            refine w_pushN 1 59 (by decide +kernel) ?_
            refine w_load (.aload_n 0) 60 (by decide +kernel) rfl rfl ?_
            refine w_getR (k := 2) (r := 78) 63 (by decide +kernel) sh_76 rfl ?_
            refine w_load (.iload 4) 65 (by decide +kernel) rfl rfl ?_
            refine w_ialdN 66 (by decide +kernel) sh_78 (by omega) (by omega) ?_
            refine w_pure .ishl 67 (by decide +kernel) rfl rfl ?_
            refine w_goto 71 (by decide +kernel) ?_
            refine w_pure .ior 72 (by decide +kernel) rfl rfl ?_
            refine w_topi (fun v15 ev15 => ?_)
            refine w_store (ls' := [.ref 76, .int a, .int v12, .int v15, .int (nI g4)]) (.istore_n 3) 73 (by decide +kernel) rfl rfl ?_
            refine w_iincN (z := 4) (g4 + 1) 76 (by decide +kernel) rfl (Nat.le_of_ble_eq_true rfl) rfl rfl ?_
            show Wp _ _ _ [.ref 76, .int a, .int v12, .int v15, .int (nI (g4 + 1))] _ _ _ _
            refine w_goto 7 (by decide +kernel) ?_
            exact ih_7 _ _ (g4 + 1) (by omega) (by omega)
          · skip
            refine w_ieq 70 58 (by decide +kernel) (fun _ => ?_) (fun hz => absurd hz (by decide))
            refine w_pushN 0 71 (by decide +kernel) ?_
            refine w_pure .ior 72 (by decide +kernel) rfl rfl ?_
            refine w_topi (fun v17 ev17 => ?_)
            refine w_store (ls' := [.ref 76, .int a, .int v12, .int v17, .int (nI g4)]) (.istore_n 3) 73 (by decide +kernel) rfl rfl ?_
            refine w_iincN (z := 4) (g4 + 1) 76 (by decide +kernel) rfl (Nat.le_of_ble_eq_true rfl) rfl rfl ?_
            show Wp _ _ _ [.ref 76, .int a, .int v12, .int v17, .int (nI (g4 + 1))] _ _ _ _
            refine w_goto 7 (by decide +kernel) ?_
            exact ih_7 _ _ (g4 + 1) (by omega) (by omega)
        · skip
          refine w_pushN 1 33 (by decide +kernel) ?_
          refine w_load (.iload 4) 35 (by decide +kernel) rfl rfl ?_
          refine w_pure .ishl 36 (by decide +kernel) rfl rfl ?_
          refine w_goto 40 (by decide +kernel) ?_
          refine w_pure .ior 41 (by decide +kernel) rfl rfl ?_
          refine w_topi (fun v18 ev18 => ?_)
          refine w_store (ls' := [.ref 76, .int a, .int v18, .int x3_7, .int (nI g4)]) (.istore_n 2) 42 (by decide +kernel) rfl rfl ?_
          refine w_load (.iload_n 3) 43 (by decide +kernel) rfl rfl ?_
          refine w_load (.aload_n 0) 44 (by decide +kernel) rfl rfl ?_
          refine w_getR (k := 2) (r := 78) 47 (by decide +kernel) sh_76 rfl ?_
          refine w_pushN 15 49 (by decide +kernel) ?_
          refine w_ialdN 50 (by decide +kernel) sh_78 (by omega) (by omega) ?_
          refine w_load (.iload 4) 52 (by decide +kernel) rfl rfl ?_
          refine w_callS2 135 2 55 (by decide +kernel) (Nat.le_of_ble_eq_true rfl) rfl rfl (by decide) (by omega) ?_
          refine k_135 hI  (by omega) (fun r19 hr19 => ?_)
          dsimp only [Option.toList, List.cons_append, List.nil_append]
          rcases hr19 with ⟨rfl, hbr19⟩ | ⟨rfl, hbr19⟩
          · skip
            refine w_ieq 70 58 (by decide +kernel) (fun hz => absurd hz (by decide)) (fun _ => ?_)
            refine w_pushN 1 59 (by decide +kernel) ?_
            refine w_load (.aload_n 0) 60 (by decide +kernel) rfl rfl ?_
            refine w_getR (k := 2) (r := 78) 63 (by decide +kernel) sh_76 rfl ?_
            refine w_load (.iload 4) 65 (by decide +kernel) rfl rfl ?_
            refine w_ialdN 66 (by decide +kernel) sh_78 (by omega) (by omega) ?_
            refine w_pure .ishl 67 (by decide +kernel) rfl rfl ?_
            refine w_goto 71 (by decide +kernel) ?_
            refine w_pure .ior 72 (by decide +kernel) rfl rfl ?_
            refine w_topi (fun v21 ev21 => ?_)
            refine w_store (ls' := [.ref 76, .int a, .int v18, .int v21, .int (nI g4)]) (.istore_n 3) 73 (by decide +kernel) rfl rfl ?_
            refine w_iincN (z := 4) (g4 + 1) 76 (by decide +kernel) rfl (Nat.le_of_ble_eq_true rfl) rfl rfl ?_
            show Wp _ _ _ [.ref 76, .int a, .int v18, .int v21, .int (nI (g4 + 1))] _ _ _ _
            refine w_goto 7 (by decide +kernel) ?_
            exact ih_7 _ _ (g4 + 1) (by omega) (by omega)
          · skip
            refine w_ieq 70 58 (by decide +kernel) (fun _ => ?_) (fun hz => absurd hz (by decide))
            refine w_pushN 0 71 (by decide +kernel) ?_
            refine w_pure .ior 72 (by decide +kernel) rfl rfl ?_
            refine w_topi (fun v23 ev23 => ?_)
            refine w_store (ls' := [.ref 76, .int a, .int v18, .int v23, .int (nI g4)]) (.istore_n 3) 73 (by decide +kernel) rfl rfl ?_
            refine w_iincN (z := 4) (g4 + 1) 76 (by decide +kernel) rfl (Nat.le_of_ble_eq_true rfl) rfl rfl ?_
            show Wp _ _ _ [.ref 76, .int a, .int v18, .int v23, .int (nI (g4 + 1))] _ _ _ _
            refine w_goto 7 (by decide +kernel) ?_
            exact ih_7 _ _ (g4 + 1) (by omega) (by omega)
  exact LP_7 _ _ _ 0 (by omega) (Nat.lt_succ_self _)
