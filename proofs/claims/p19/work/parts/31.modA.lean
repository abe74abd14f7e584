-- X8_in
set_option maxRecDepth 10000 in
theorem k_134 {d : Nat} {M : Mt} {L : Lt} {Q : Option Value → Mt → Lt → Prop} {x y z : Int64} (hI : Inv M)  (hd : 0 ≤ d) (hq : ∀ (r : Int32), ((r = 1 ∧ y ≤ x ∧ x ≤ z) ∨ (r = 0 ∧ ¬ (y ≤ x ∧ x ≤ z))) → Q (some (.int r)) M L) : Wp d 134 0 [.long x, .null, .long y, .null, .long z, .null] [] M L Q := by
  refine w_load (.lload_n 0) 1 (by decide +kernel) rfl rfl ?_
  refine w_load (.lload_n 2) 2 (by decide +kernel) rfl rfl ?_
  refine w_pure .lcmp 3 (by decide +kernel) rfl rfl ?_
  refine w_ilt 17 6 (by decide +kernel) (fun h1 => ?_) (fun h1 => ?_)
  · skip
    refine w_pushN 0 18 (by decide +kernel) ?_
    exact w_retZ (by decide +kernel) (Or.inl rfl) (hq _ (Or.inr ⟨rfl, by first | exact fun hz => cmp_lt' (by assumption) hz.1 | exact fun hz => cmp_gt' (by assumption) hz.2⟩))
  · skip
    refine w_load (.lload_n 0) 7 (by decide +kernel) rfl rfl ?_
    refine w_load (.lload 4) 9 (by decide +kernel) rfl rfl ?_
    refine w_pure .lcmp 10 (by decide +kernel) rfl rfl ?_
    refine w_igt 17 13 (by decide +kernel) (fun h2 => ?_) (fun h2 => ?_)
    · skip
      refine w_pushN 0 18 (by decide +kernel) ?_
      exact w_retZ (by decide +kernel) (Or.inl rfl) (hq _ (Or.inr ⟨rfl, by first | exact fun hz => cmp_lt' (by assumption) hz.1 | exact fun hz => cmp_gt' (by assumption) hz.2⟩))
    · skip
      refine w_pushN 1 14 (by decide +kernel) ?_
      refine w_goto 18 (by decide +kernel) ?_
      exact w_retZ (by decide +kernel) (Or.inr rfl) (hq _ (Or.inl ⟨rfl, cmp_lt (by assumption), cmp_gt (by assumption)⟩))
-- X8_has
set_option maxRecDepth 10000 in
theorem k_135 {d : Nat} {M : Mt} {L : Lt} {Q : Option Value → Mt → Lt → Prop} {a : Int32} {k : Nat} (hI : Inv M)  (hd : 0 ≤ d) (hq : ∀ (r : Int32), ((r = 1 ∧ hb a k) ∨ (r = 0 ∧ ¬ hb a k)) → Q (some (.int r)) M L) : Wp d 135 0 [.int a, .int (nI k)] [] M L Q := by
  refine w_load (.iload_n 0) 1 (by decide +kernel) rfl rfl ?_
  refine w_load (.iload_n 1) 2 (by decide +kernel) rfl rfl ?_
  refine w_pure .ishr 3 (by decide +kernel) rfl rfl ?_
  refine w_pushN 1 4 (by decide +kernel) ?_
  refine w_pure .iand 5 (by decide +kernel) rfl rfl ?_
  refine w_pushN 1 6 (by decide +kernel) ?_
  refine w_cne 13 9 (by decide +kernel) (fun h1 => ?_) (fun h1 => ?_)
  · skip
    refine w_pushN 0 14 (by decide +kernel) ?_
    exact w_retZ (by decide +kernel) (Or.inl rfl) (hq _ (Or.inr ⟨rfl, h1⟩))
  · skip
    refine w_pushN 1 10 (by decide +kernel) ?_
    refine w_goto 14 (by decide +kernel) ?_
    exact w_retZ (by decide +kernel) (Or.inr rfl) (hq _ (Or.inl ⟨rfl, h1⟩))
-- X8_ones
set_option maxRecDepth 10000 in
theorem k_136 {d : Nat} {M : Mt} {L : Lt} {Q : Option Value → Mt → Lt → Prop} {a : Int32} (hI : Inv M)  (hd : 0 ≤ d) (hq : ∀ (r : Int32), (∃ n, n ≤ 8 ∧ r = nI n) → Q (some (.int r)) M L) : Wp d 136 0 [.int a, .null, .null] [] M L Q := by
  refine w_pushN 0 1 (by decide +kernel) ?_
  refine w_store (ls' := [.int a, .int (nI 0), .null]) (.istore_n 1) 2 (by decide +kernel) rfl rfl ?_
  refine w_pushN 0 3 (by decide +kernel) ?_
  refine w_store (ls' := [.int a, .int (nI 0), .int (nI 0)]) (.istore_n 2) 4 (by decide +kernel) rfl rfl ?_
  have LP_4 : ∀ (kk : Nat) (g1 : Nat) (g2 : Nat), g2 ≤ 8 → g1 ≤ g2 → 8 - g2 < kk → Wp d 136 4 [.int a, .int (nI g1), .int (nI g2)] [] M L Q := by
    intro kk
    induction kk with
    | zero => intro g1 g2 hi0_4 hi1_4 hm_4; exact absurd hm_4 (Nat.not_lt_zero _)
    | succ kk ih_4 =>
      intro g1 g2 hi0_4 hi1_4 hm_4
      refine w_load (.iload_n 2) 5 (by decide +kernel) rfl rfl ?_
      refine w_pushN 8 7 (by decide +kernel) ?_
      refine w_cgeN 24 10 (by decide +kernel) (by omega) (by omega) (fun h1 => ?_) (fun h1 => ?_)
      · skip
        refine w_load (.iload_n 1) 25 (by decide +kernel) rfl rfl ?_
        exact w_ret (by decide +kernel) (hq _ ⟨_, by omega, rfl⟩)
      · skip
        refine w_load (.iload_n 1) 11 (by decide +kernel) rfl rfl ?_
        refine w_load (.iload_n 0) 12 (by decide +kernel) rfl rfl ?_
        refine w_load (.iload_n 2) 13 (by decide +kernel) rfl rfl ?_
        refine w_pure .ishr 14 (by decide +kernel) rfl rfl ?_
        refine w_pushN 1 15 (by decide +kernel) ?_
        refine w_and1 16 (by decide +kernel) (fun b2 hb2 => ?_)
        refine w_addN (g1 + b2) 17 (by decide +kernel) (by omega) ?_
        refine w_store (ls' := [.int a, .int (nI (g1 + b2)), .int (nI g2)]) (.istore_n 1) 18 (by decide +kernel) rfl rfl ?_
        refine w_iincN (z := 2) (g2 + 1) 21 (by decide +kernel) rfl (Nat.le_of_ble_eq_true rfl) rfl rfl ?_
        show Wp _ _ _ [.int a, .int (nI (g1 + b2)), .int (nI (g2 + 1))] _ _ _ _
        refine w_goto 4 (by decide +kernel) ?_
        exact ih_4 (g1 + b2) (g2 + 1) (by omega) (by omega) (by omega)
  exact LP_4 _ 0 0 (by omega) (by omega) (Nat.lt_succ_self _)
-- X8_write
set_option maxRecDepth 10000 in
theorem k_137 {d : Nat} {M : Mt} {L : Lt} {Q : Option Value → Mt → Lt → Prop} {n : Nat} {a : Int32} (hI : Inv M) (hn : n ≤ 24) (en : M 76 4 = nI n) (hd : 1 ≤ d) (hq : ∀ (r : Int32) (N : Mt), St (fun i k => i = 79 ∨ (i = 76 ∧ k = 4)) M N → ((r = -2 ∧ ¬ (∃ k, k < 256 ∧ a = nI k) ∧ N = M) ∨ ((∃ k, k < 256 ∧ a = nI k) ∧ ((r = -4 ∧ n = 24 ∧ N = M) ∨ (r = nI (n + 1) ∧ n < 24 ∧ N = up2 (up2 M 79 n a) 76 4 (nI (n + 1)))))) → Q (some (.int r)) N L) : Wp d 137 0 [.ref 76, .int a] [] M L Q := by
  refine (show ∀ N : Mt, N = M → St (fun i k => i = 79 ∨ (i = 76 ∧ k = 4)) M N → Wp d 137 0 [.ref 76, .int a] [] N L Q from ?_) M rfl (St.rf hI)
  intro N hNM hS
  have kz0 : N (76) 4 = nI n := by rw [hNM]; exact en
  refine w_load (.iload_n 1) 1 (by decide +kernel) rfl rfl ?_
  refine w_pure .i2l 2 (by decide +kernel) rfl rfl ?_
  refine w_pushL (0) 3 (by decide +kernel) ?_
  refine w_pushL (255) 6 (by decide +kernel) ?_
  refine w_callSL 134 6 9 (by decide +kernel) (Nat.le_of_ble_eq_true rfl) rfl (by omega) ?_
  refine k_134 hS.1  (by omega) (fun r1 hr1 => ?_)
  dsimp only [Option.toList, List.cons_append, List.nil_append]
  rcases hr1 with ⟨rfl, hlok3, hhik3⟩ | ⟨rfl, hnok3⟩
  · skip
    obtain ⟨k3, hlk3, hhk3, rfl⟩ := in_k (lo := 0) (hi := 255) hlok3 hhik3 (by decide)
    refine w_ine 15 12 (by decide +kernel) (fun _ => ?_) (fun hz => absurd hz (by decide))
    refine w_load (.aload_n 0) 16 (by decide +kernel) rfl rfl ?_
    refine w_getK (k := 4) 19 (by decide +kernel) sh_76 rfl kz0 ?_
    refine w_pushN 24 21 (by decide +kernel) ?_
    refine w_cneN 27 24 (by decide +kernel) (by omega) (by omega) (fun h5 => ?_) (fun h5 => ?_)
    · skip
      refine w_load (.aload_n 0) 28 (by decide +kernel) rfl rfl ?_
      refine w_getR (k := 3) (r := 79) 31 (by decide +kernel) sh_76 rfl ?_
      refine w_load (.aload_n 0) 32 (by decide +kernel) rfl rfl ?_
      refine w_getK (k := 4) 35 (by decide +kernel) sh_76 rfl kz0 ?_
      refine w_load (.iload_n 1) 36 (by decide +kernel) rfl rfl ?_
      refine w_iastE 37 (by decide +kernel) sh_79 (by omega) (by omega) hS (Rg.free (by simp only [Hs, Tl, Sc, isScr, isHs, isTs] at *; omega)) (by first | exact rfl | omega | (dsimp only; omega) | (simp only [Hs, Tl, Sc, isHs, isScr, isTs] at *; omega)) (fun Nq6 hS hq6 oq6 mq6 => ?_)
      have kn7 := (oq6 (76) 4 (by first | omega | (simp only [Hs, Tl, Sc, isHs, isScr, isTs] at *; omega))).trans kz0
      refine w_load (.aload_n 0) 38 (by decide +kernel) rfl rfl ?_
      refine w_pure .dup 39 (by decide +kernel) rfl rfl ?_
      refine w_getK (k := 4) 42 (by decide +kernel) sh_76 rfl kn7 ?_
      refine w_pushN 1 43 (by decide +kernel) ?_
      refine w_addN (n + 1) 44 (by decide +kernel) (by omega) ?_
      refine w_putE (k := 4) 47 (by decide +kernel) sh_76 rfl hS (rg_76n (B := 24) (by omega) (by decide)) (by first | exact rfl | omega | (dsimp only; omega) | (simp only [Hs, Tl, Sc, isHs, isScr, isTs] at *; omega)) (fun Nq8 hS hq8 oq8 mq8 => ?_)
      refine w_load (.aload_n 0) 48 (by decide +kernel) rfl rfl ?_
      refine w_getK (k := 4) 51 (by decide +kernel) sh_76 rfl hq8 ?_
      exact w_ret (by decide +kernel) (hq _ Nq8 hS (Or.inr ⟨⟨_, by omega, rfl⟩, Or.inr ⟨rfl, by omega, (by rw [mq8, mq6, hNM] <;> rfl)⟩⟩))
    · skip
      refine w_push (-4) 26 (by decide +kernel) ?_
      exact w_ret (by decide +kernel) (hq _ N hS (Or.inr ⟨⟨_, by omega, rfl⟩, Or.inl ⟨rfl, by omega, hNM⟩⟩))
  · skip
    refine w_ine 15 12 (by decide +kernel) (fun hz => absurd hz (by decide)) (fun _ => ?_)
    refine w_push (-2) 14 (by decide +kernel) ?_
    exact w_ret (by decide +kernel) (hq _ N hS (Or.inl ⟨rfl, by first | assumption | exact in_no (by assumption) (by decide), hNM⟩))
-- X8_wipe
set_option maxRecDepth 10000 in
theorem k_138 {d : Nat} {M : Mt} {L : Lt} {Q : Option Value → Mt → Lt → Prop} {n : Nat}  (hI : Inv M) (hn : n ≤ 24) (en : M 76 4 = nI n) (hd : 0 ≤ d) (hq : ∀ (r : Int32) (N : Mt), St (fun i k => i = 76 ∧ k = 4) M N → (r = nI n ∧ N = up2 M 76 4 (nI 0)) → Q (some (.int r)) N L) : Wp d 138 0 [.ref 76, .null] [] M L Q := by
  refine (show ∀ N : Mt, N = M → St (fun i k => i = 76 ∧ k = 4) M N → Wp d 138 0 [.ref 76, .null] [] N L Q from ?_) M rfl (St.rf hI)
  intro N hNM hS
  have kz0 : N (76) 4 = nI n := by rw [hNM]; exact en
  refine w_load (.aload_n 0) 1 (by decide +kernel) rfl rfl ?_
  refine w_getK (k := 4) 4 (by decide +kernel) sh_76 rfl kz0 ?_
  refine w_store (ls' := [.ref 76, .int (nI n)]) (.istore_n 1) 5 (by decide +kernel) rfl rfl ?_
  refine w_load (.aload_n 0) 6 (by decide +kernel) rfl rfl ?_
  refine w_pushN 0 7 (by decide +kernel) ?_
  refine w_putE (k := 4) 10 (by decide +kernel) sh_76 rfl hS (rg_76n (B := 24) (by omega) (by decide)) (by first | exact rfl | omega | (dsimp only; omega) | (simp only [Hs, Tl, Sc, isHs, isScr, isTs] at *; omega)) (fun Nq1 hS hq1 oq1 mq1 => ?_)
  refine w_load (.iload_n 1) 11 (by decide +kernel) rfl rfl ?_
  exact w_ret (by decide +kernel) (hq _ Nq1 hS ⟨rfl, (by rw [mq1, hNM] <;> rfl)⟩)
-- X8_fits
set_option maxRecDepth 10000 in
theorem k_139 {d : Nat} {M : Mt} {L : Lt} {Q : Option Value → Mt → Lt → Prop} {p : Nat}  (hI : Inv M) (hp : p < 24) (hd : 1 ≤ d) (hq : ∀ (r : Int32), ((r = 1 ∧ fitI p (M 79 p)) ∨ (r = 0 ∧ ¬ fitI p (M 79 p))) → Q (some (.int r)) M L) : Wp d 139 0 [.ref 76, .int (nI p), .null] [] M L Q := by
  refine w_load (.aload_n 0) 1 (by decide +kernel) rfl rfl ?_
  refine w_getR (k := 3) (r := 79) 4 (by decide +kernel) sh_76 rfl ?_
  refine w_load (.iload_n 1) 5 (by decide +kernel) rfl rfl ?_
  refine w_ialdN 6 (by decide +kernel) sh_79 (by omega) (by omega) ?_
  refine w_topi (fun v1 ev1 => ?_)
  refine w_store (ls' := [.ref 76, .int (nI p), .int v1]) (.istore_n 2) 7 (by decide +kernel) rfl rfl ?_
  refine w_load (.iload_n 1) 8 (by decide +kernel) rfl rfl ?_
  refine w_ineN 23 11 (by decide +kernel) (by omega) (fun h2 => ?_) (fun h2 => ?_)
  · skip
    refine w_load (.iload_n 1) 24 (by decide +kernel) rfl rfl ?_
    refine w_pushN 20 26 (by decide +kernel) ?_
    refine w_cleN 31 29 (by decide +kernel) (by omega) (by omega) (fun h3 => ?_) (fun h3 => ?_)
    · skip
      refine w_load (.iload_n 1) 32 (by decide +kernel) rfl rfl ?_
      refine w_pushN 1 33 (by decide +kernel) ?_
      refine w_subN (p - 1) 34 (by decide +kernel) (by omega) rfl ?_
      refine w_pushN 4 35 (by decide +kernel) ?_
      refine w_remN (((p - 1)) % 4) 36 (by decide +kernel) (by decide) (by decide) (by omega) rfl ?_
      refine w_tab (show insAt 139 36 = some (.tableswitch 64 0 2 #[28, 40, 52]) by decide +kernel) (fun h4 => ⟨100, rfl, ?_⟩) (fun z5 h4 h4b => ?_)
      · skip
        rw [nI_toInt (by omega)] at h4
        refine w_load (.iload_n 2) 101 (by decide +kernel) rfl rfl ?_
        refine w_pure .i2l 102 (by decide +kernel) rfl rfl ?_
        refine w_pushL (48) 105 (by decide +kernel) ?_
        refine w_pushL (51) 108 (by decide +kernel) ?_
        refine w_callSL 134 6 111 (by decide +kernel) (Nat.le_of_ble_eq_true rfl) rfl (by omega) ?_
        refine k_134 hI  (by omega) (fun r6 hr6 => ?_)
        dsimp only [Option.toList, List.cons_append, List.nil_append]
        rcases hr6 with ⟨rfl, hlok7, hhik7⟩ | ⟨rfl, hnok7⟩
        · skip
          have hink7 := inR_in (lo := 48) (hi := 51) hlok7 hhik7 (by decide) (by decide)
          exact w_retZ (by decide +kernel) (Or.inr rfl) (hq _ (Or.inl ⟨rfl, by rw [← ev1]; unfold fitI; (repeat' split) <;> first | omega | assumption⟩))
        · skip
          have hink7 := inR_nin (lo := 48) (hi := 51) hnok7 (by decide) (by decide)
          exact w_retZ (by decide +kernel) (Or.inl rfl) (hq _ (Or.inr ⟨rfl, fun hf => by rw [← ev1] at hf; unfold fitI at hf; (repeat' (split at hf)) <;> first | omega | exact absurd hf (by assumption) | exact hf⟩))
      · rw [nI_toInt (by omega)] at h4
        rcases (by omega : z5 = 0 ∨ z5 = 1 ∨ z5 = 2) with rfl | rfl | rfl
        · refine ⟨_, 64, rfl, rfl, ?_⟩
          refine w_load (.iload_n 2) 65 (by decide +kernel) rfl rfl ?_
          refine w_pushN 71 67 (by decide +kernel) ?_
          refine w_cne 74 70 (by decide +kernel) (fun h8 => ?_) (fun h8 => ?_)
          · skip
            refine w_pushN 0 75 (by decide +kernel) ?_
            exact w_retZ (by decide +kernel) (Or.inl rfl) (hq _ (Or.inr ⟨rfl, fun hf => by rw [← ev1] at hf; unfold fitI at hf; (repeat' (split at hf)) <;> first | omega | exact absurd hf (by assumption) | exact hf⟩))
          · skip
            refine w_pushN 1 71 (by decide +kernel) ?_
            refine w_goto 75 (by decide +kernel) ?_
            exact w_retZ (by decide +kernel) (Or.inr rfl) (hq _ (Or.inl ⟨rfl, by rw [← ev1]; unfold fitI; (repeat' split) <;> first | omega | assumption⟩))
        · refine ⟨_, 76, rfl, rfl, ?_⟩
          refine w_load (.iload_n 2) 77 (by decide +kernel) rfl rfl ?_
          refine w_pure .i2l 78 (by decide +kernel) rfl rfl ?_
          refine w_pushL (97) 81 (by decide +kernel) ?_
          refine w_pushL (100) 84 (by decide +kernel) ?_
          refine w_callSL 134 6 87 (by decide +kernel) (Nat.le_of_ble_eq_true rfl) rfl (by omega) ?_
          refine k_134 hI  (by omega) (fun r9 hr9 => ?_)
          dsimp only [Option.toList, List.cons_append, List.nil_append]
          rcases hr9 with ⟨rfl, hlok10, hhik10⟩ | ⟨rfl, hnok10⟩
          · skip
            have hink10 := inR_in (lo := 97) (hi := 100) hlok10 hhik10 (by decide) (by decide)
            exact w_retZ (by decide +kernel) (Or.inr rfl) (hq _ (Or.inl ⟨rfl, by rw [← ev1]; unfold fitI; (repeat' split) <;> first | omega | assumption⟩))
          · skip
            have hink10 := inR_nin (lo := 97) (hi := 100) hnok10 (by decide) (by decide)
            exact w_retZ (by decide +kernel) (Or.inl rfl) (hq _ (Or.inr ⟨rfl, fun hf => by rw [← ev1] at hf; unfold fitI at hf; (repeat' (split at hf)) <;> first | omega | exact absurd hf (by assumption) | exact hf⟩))
        · refine ⟨_, 88, rfl, rfl, ?_⟩
          refine w_load (.iload_n 2) 89 (by decide +kernel) rfl rfl ?_
          refine w_pure .i2l 90 (by decide +kernel) rfl rfl ?_
          refine w_pushL (48) 93 (by decide +kernel) ?_
          refine w_pushL (57) 96 (by decide +kernel) ?_
          refine w_callSL 134 6 99 (by decide +kernel) (Nat.le_of_ble_eq_true rfl) rfl (by omega) ?_
          refine k_134 hI  (by omega) (fun r11 hr11 => ?_)
          dsimp only [Option.toList, List.cons_append, List.nil_append]
          rcases hr11 with ⟨rfl, hlok12, hhik12⟩ | ⟨rfl, hnok12⟩
          · skip
            have hink12 := inR_in (lo := 48) (hi := 57) hlok12 hhik12 (by decide) (by decide)
            exact w_retZ (by decide +kernel) (Or.inr rfl) (hq _ (Or.inl ⟨rfl, by rw [← ev1]; unfold fitI; (repeat' split) <;> first | omega | assumption⟩))
          · skip
            have hink12 := inR_nin (lo := 48) (hi := 57) hnok12 (by decide) (by decide)
            exact w_retZ (by decide +kernel) (Or.inl rfl) (hq _ (Or.inr ⟨rfl, fun hf => by rw [← ev1] at hf; unfold fitI at hf; (repeat' (split at hf)) <;> first | omega | exact absurd hf (by assumption) | exact hf⟩))
    · skip
      refine w_pushN 0 30 (by decide +kernel) ?_
      exact w_retZ (by decide +kernel) (Or.inl rfl) (hq _ (Or.inr ⟨rfl, fun hf => by rw [← ev1] at hf; unfold fitI at hf; (repeat' (split at hf)) <;> first | omega | exact absurd hf (by assumption) | exact hf⟩))
  · skip
    refine w_load (.iload_n 2) 12 (by decide +kernel) rfl rfl ?_
    refine w_pushN 73 14 (by decide +kernel) ?_
    refine w_cne 21 17 (by decide +kernel) (fun h13 => ?_) (fun h13 => ?_)
    · skip
      refine w_pushN 0 22 (by decide +kernel) ?_
      exact w_retZ (by decide +kernel) (Or.inl rfl) (hq _ (Or.inr ⟨rfl, fun hf => by rw [← ev1] at hf; unfold fitI at hf; (repeat' (split at hf)) <;> first | omega | exact absurd hf (by assumption) | exact hf⟩))
    · skip
      refine w_pushN 1 18 (by decide +kernel) ?_
      refine w_goto 22 (by decide +kernel) ?_
      exact w_retZ (by decide +kernel) (Or.inr rfl) (hq _ (Or.inl ⟨rfl, by rw [← ev1]; unfold fitI; (repeat' split) <;> first | omega | assumption⟩))
-- X8_fault
set_option maxRecDepth 10000 in
theorem k_140 {d : Nat} {M : Mt} {L : Lt} {Q : Option Value → Mt → Lt → Prop} {n : Nat}  (hI : Inv M) (hn : n ≤ 24) (en : M 76 4 = nI n) (hd : 2 ≤ d) (hq : ∀ (r : Int32), FT fitI (M 79) n r (if n % 4 = 1 then -9 else nI n) → Q (some (.int r)) M L) : Wp d 140 0 [.ref 76, .null] [] M L Q := by
  refine w_pushN 0 1 (by decide +kernel) ?_
  refine w_store (ls' := [.ref 76, .int (nI 0)]) (.istore_n 1) 2 (by decide +kernel) rfl rfl ?_
  have LP_2 : ∀ (kk : Nat) (g1 : Nat), g1 ≤ 24 → (∀ i, i < g1 → fitI i (M 79 i)) → 24 - g1 < kk → Wp d 140 2 [.ref 76, .int (nI g1)] [] M L Q := by
    intro kk
    induction kk with
    | zero => intro g1 hi0_2 hi1_2 hm_2; exact absurd hm_2 (Nat.not_lt_zero _)
    | succ kk ih_2 =>
      intro g1 hi0_2 hi1_2 hm_2
      refine w_load (.iload_n 1) 3 (by decide +kernel) rfl rfl ?_
      refine w_load (.aload_n 0) 4 (by decide +kernel) rfl rfl ?_
      refine w_getK (k := 4) 7 (by decide +kernel) sh_76 rfl en ?_
      refine w_cgeN 26 10 (by decide +kernel) (by omega) (by omega) (fun h1 => ?_) (fun h1 => ?_)
      · skip
        refine w_load (.aload_n 0) 27 (by decide +kernel) rfl rfl ?_
        refine w_getK (k := 4) 30 (by decide +kernel) sh_76 rfl en ?_
        refine w_ileN 49 33 (by decide +kernel) (by omega) (fun h2 => ?_) (fun h2 => ?_)
        · skip
          refine w_load (.aload_n 0) 50 (by decide +kernel) rfl rfl ?_
          refine w_getK (k := 4) 53 (by decide +kernel) sh_76 rfl en ?_
          exact w_ret (by decide +kernel) (hq _ (by first | exact Or.inl ⟨_, by omega, rfl, by assumption, by assumption⟩ | (refine Or.inr ⟨fun i hi => hi1_2 i (by omega), ?_⟩; first | rw [if_pos (by omega)] | rw [if_neg (by omega)])))
        · skip
          refine w_load (.aload_n 0) 34 (by decide +kernel) rfl rfl ?_
          refine w_getK (k := 4) 37 (by decide +kernel) sh_76 rfl en ?_
          refine w_pushN 1 38 (by decide +kernel) ?_
          refine w_subN (n - 1) 39 (by decide +kernel) (by omega) rfl ?_
          refine w_pushN 4 40 (by decide +kernel) ?_
          refine w_remN (((n - 1)) % 4) 41 (by decide +kernel) (by decide) (by decide) (by omega) rfl ?_
          refine w_ineN 49 44 (by decide +kernel) (by omega) (fun h3 => ?_) (fun h3 => ?_)
          · skip
            refine w_load (.aload_n 0) 50 (by decide +kernel) rfl rfl ?_
            refine w_getK (k := 4) 53 (by decide +kernel) sh_76 rfl en ?_
            exact w_ret (by decide +kernel) (hq _ (by first | exact Or.inl ⟨_, by omega, rfl, by assumption, by assumption⟩ | (refine Or.inr ⟨fun i hi => hi1_2 i (by omega), ?_⟩; first | rw [if_pos (by omega)] | rw [if_neg (by omega)])))
          · skip
            refine w_push (-9) 46 (by decide +kernel) ?_
            refine w_goto 53 (by decide +kernel) ?_
            exact w_ret (by decide +kernel) (hq _ (by first | exact Or.inl ⟨_, by omega, rfl, by assumption, by assumption⟩ | (refine Or.inr ⟨fun i hi => hi1_2 i (by omega), ?_⟩; first | rw [if_pos (by omega)] | rw [if_neg (by omega)])))
      · skip
        refine w_load (.aload_n 0) 11 (by decide +kernel) rfl rfl ?_
        refine w_load (.iload_n 1) 12 (by decide +kernel) rfl rfl ?_
        refine w_callV1 139 8 3 15 (by decide +kernel) sh_76 (Nat.le_of_ble_eq_true rfl) rfl (by decide) (by omega) ?_
        refine k_139 hI (by omega) (by omega) (fun r4 hr4 => ?_)
        dsimp only [Option.toList, List.cons_append, List.nil_append]
        rcases hr4 with ⟨rfl, hyr4⟩ | ⟨rfl, hyr4⟩
        · skip
          refine w_ine 20 18 (by decide +kernel) (fun _ => ?_) (fun hz => absurd hz (by decide))
          refine w_iincN (z := 1) (g1 + 1) 23 (by decide +kernel) rfl (Nat.le_of_ble_eq_true rfl) rfl rfl ?_
          show Wp _ _ _ [.ref 76, .int (nI (g1 + 1))] _ _ _ _
          refine w_goto 2 (by decide +kernel) ?_
          exact ih_2 (g1 + 1) (by first | omega | exact lt_ext (by assumption) (by assumption)) (by first | omega | exact lt_ext (by assumption) (by assumption)) (by omega)
        · skip
          refine w_ine 20 18 (by decide +kernel) (fun hz => absurd hz (by decide)) (fun _ => ?_)
          refine w_load (.iload_n 1) 19 (by decide +kernel) rfl rfl ?_
          exact w_ret (by decide +kernel) (hq _ (by first | exact Or.inl ⟨_, by omega, rfl, by assumption, by assumption⟩ | (refine Or.inr ⟨fun i hi => hi1_2 i (by omega), ?_⟩; first | rw [if_pos (by omega)] | rw [if_neg (by omega)])))
  exact LP_2 _ 0 (by first | omega | (intro i hi; omega)) (by first | omega | (intro i hi; omega)) (Nat.lt_succ_self _)
-- X8_isTale
set_option maxRecDepth 10000 in
theorem k_142 {d : Nat} {M : Mt} {L : Lt} {Q : Option Value → Mt → Lt → Prop} {a : Int32} (hI : Inv M)  (hd : 1 ≤ d) (hq : ∀ (r : Int32), ((r = 1 ∧ ∃ k, k < 3 ∧ a = nI k) ∨ (r = 0 ∧ ¬ ∃ k, k < 3 ∧ a = nI k)) → Q (some (.int r)) M L) : Wp d 142 0 [.int a] [] M L Q := by
  refine w_load (.iload_n 0) 1 (by decide +kernel) rfl rfl ?_
  refine w_pure .i2l 2 (by decide +kernel) rfl rfl ?_
  refine w_pushL (0) 3 (by decide +kernel) ?_
  refine w_pushL (2) 6 (by decide +kernel) ?_
  refine w_callSL 134 6 9 (by decide +kernel) (Nat.le_of_ble_eq_true rfl) rfl (by omega) ?_
  refine k_134 hI  (by omega) (fun r1 hr1 => ?_)
  dsimp only [Option.toList, List.cons_append, List.nil_append]
  rcases hr1 with ⟨rfl, hlok3, hhik3⟩ | ⟨rfl, hnok3⟩
  · skip
    obtain ⟨k3, hlk3, hhk3, rfl⟩ := in_k (lo := 0) (hi := 2) hlok3 hhik3 (by decide)
    exact w_retZ (by decide +kernel) (Or.inr rfl) (hq _ (Or.inl ⟨rfl, _, Nat.lt_succ_of_le (by assumption), rfl⟩))
  · skip
    exact w_retZ (by decide +kernel) (Or.inl rfl) (hq _ (Or.inr ⟨rfl, in_no (by assumption) (by decide)⟩))
-- X8_quill
set_option maxRecDepth 10000 in
theorem k_143 {d : Nat} {M : Mt} {L : Lt} {Q : Option Value → Mt → Lt → Prop} {a : Int32} {b : Int32} (hI : Inv M)  (hd : 2 ≤ d) (hq : ∀ (r : Int32) (N : Mt), St (fun i _ => i = 80 ∨ i = 81) M N → ((r = -1 ∧ ¬ (∃ k, k < 3 ∧ a = nI k) ∧ N = M) ∨ (∃ t, t < 3 ∧ a = nI t ∧ ((r = -2 ∧ ¬ (∃ k, k < 256 ∧ b = nI k) ∧ N = M) ∨ ((∃ k, k < 256 ∧ b = nI k) ∧ ∃ n, n ≤ 24 ∧ M 81 t = nI n ∧ ((r = -4 ∧ n = 24 ∧ N = M) ∨ (r = nI (n + 1) ∧ n < 24 ∧ N = up2 (up2 M 80 (24 * t + n) b) 81 t (nI (n + 1)))))))) → Q (some (.int r)) N L) : Wp d 143 0 [.ref 76, .int a, .int b] [] M L Q := by
  refine (show ∀ N : Mt, N = M → St (fun i _ => i = 80 ∨ i = 81) M N → Wp d 143 0 [.ref 76, .int a, .int b] [] N L Q from ?_) M rfl (St.rf hI)
  intro N hNM hS
  refine w_load (.iload_n 1) 1 (by decide +kernel) rfl rfl ?_
  refine w_callS1 142 1 4 (by decide +kernel) (Nat.le_of_ble_eq_true rfl) rfl (by decide) (by omega) ?_
  refine k_142 hS.1  (by omega) (fun r1 hr1 => ?_)
  dsimp only [Option.toList, List.cons_append, List.nil_append]
  rcases hr1 with ⟨rfl, k2, hk2, rfl⟩ | ⟨rfl, hnok2⟩
  · skip
    refine w_ine 9 7 (by decide +kernel) (fun _ => ?_) (fun hz => absurd hz (by decide))
    refine w_load (.iload_n 2) 10 (by decide +kernel) rfl rfl ?_
    refine w_pure .i2l 11 (by decide +kernel) rfl rfl ?_
    refine w_pushL (0) 12 (by decide +kernel) ?_
    refine w_pushL (255) 15 (by decide +kernel) ?_
    refine w_callSL 134 6 18 (by decide +kernel) (Nat.le_of_ble_eq_true rfl) rfl (by omega) ?_
    refine k_134 hS.1  (by omega) (fun r4 hr4 => ?_)
    dsimp only [Option.toList, List.cons_append, List.nil_append]
    rcases hr4 with ⟨rfl, hlok6, hhik6⟩ | ⟨rfl, hnok6⟩
    · skip
      obtain ⟨k6, hlk6, hhk6, rfl⟩ := in_k (lo := 0) (hi := 255) hlok6 hhik6 (by decide)
      refine w_ine 24 21 (by decide +kernel) (fun _ => ?_) (fun hz => absurd hz (by decide))
      refine w_load (.aload_n 0) 25 (by decide +kernel) rfl rfl ?_
      refine w_getR (k := 6) (r := 81) 28 (by decide +kernel) sh_76 rfl ?_
      refine w_load (.iload_n 1) 29 (by decide +kernel) rfl rfl ?_
      refine w_ialdC (B := 24) 30 (by decide +kernel) sh_81 (by decide) (by omega) (inv_81 hS.1 _) (fun n8 hn8 en8 => ?_)
      refine w_pushN 24 32 (by decide +kernel) ?_
      refine w_cneN 38 35 (by decide +kernel) (by omega) (by omega) (fun h9 => ?_) (fun h9 => ?_)
      · skip
        refine w_load (.aload_n 0) 39 (by decide +kernel) rfl rfl ?_
        refine w_getR (k := 5) (r := 80) 42 (by decide +kernel) sh_76 rfl ?_
        refine w_pushN 24 44 (by decide +kernel) ?_
        refine w_load (.iload_n 1) 45 (by decide +kernel) rfl rfl ?_
        refine w_mulN (24 * k2) 46 (by decide +kernel) rfl ?_
        refine w_load (.aload_n 0) 47 (by decide +kernel) rfl rfl ?_
        refine w_getR (k := 6) (r := 81) 50 (by decide +kernel) sh_76 rfl ?_
        refine w_load (.iload_n 1) 51 (by decide +kernel) rfl rfl ?_
        refine w_ialdK 52 (by decide +kernel) sh_81 (by decide) (by omega) en8 ?_
        refine w_addN (24 * k2 + n8) 53 (by decide +kernel) (by omega) ?_
        refine w_load (.iload_n 2) 54 (by decide +kernel) rfl rfl ?_
        refine w_iastE 55 (by decide +kernel) sh_80 (by omega) (by omega) hS (Rg.free (by simp only [Hs, Tl, Sc, isScr, isHs, isTs] at *; omega)) (by first | exact rfl | omega | (dsimp only; omega) | (simp only [Hs, Tl, Sc, isHs, isScr, isTs] at *; omega)) (fun Nq10 hS hq10 oq10 mq10 => ?_)
        have kn11 := (oq10 (81) k2 (by first | omega | (simp only [Hs, Tl, Sc, isHs, isScr, isTs] at *; omega))).trans en8
        refine w_load (.aload_n 0) 56 (by decide +kernel) rfl rfl ?_
        refine w_getR (k := 6) (r := 81) 59 (by decide +kernel) sh_76 rfl ?_
        refine w_load (.iload_n 1) 60 (by decide +kernel) rfl rfl ?_
        refine w_pure .dup2 61 (by decide +kernel) rfl rfl ?_
        refine w_ialdK 62 (by decide +kernel) sh_81 (by decide) (by omega) kn11 ?_
        refine w_pushN 1 63 (by decide +kernel) ?_
        refine w_addN (n8 + 1) 64 (by decide +kernel) (by omega) ?_
        refine w_iastE 65 (by decide +kernel) sh_81 (by omega) (by omega) hS (rg_81 (by omega)) (by first | exact rfl | omega | (dsimp only; omega) | (simp only [Hs, Tl, Sc, isHs, isScr, isTs] at *; omega)) (fun Nq12 hS hq12 oq12 mq12 => ?_)
        refine w_load (.aload_n 0) 66 (by decide +kernel) rfl rfl ?_
        refine w_getR (k := 6) (r := 81) 69 (by decide +kernel) sh_76 rfl ?_
        refine w_load (.iload_n 1) 70 (by decide +kernel) rfl rfl ?_
        refine w_ialdK 71 (by decide +kernel) sh_81 (by decide) (by omega) hq12 ?_
        exact w_ret (by decide +kernel) (hq _ Nq12 hS (Or.inr ⟨_, by assumption, rfl, Or.inr ⟨⟨_, by omega, rfl⟩, n8, by omega, by rw [← hNM]; exact en8, Or.inr ⟨by first | rfl | assumption, by omega, (by rw [mq12, mq10, hNM] <;> rfl)⟩⟩⟩))
      · skip
        refine w_push (-4) 37 (by decide +kernel) ?_
        exact w_ret (by decide +kernel) (hq _ N hS (Or.inr ⟨_, by assumption, rfl, Or.inr ⟨⟨_, by omega, rfl⟩, n8, by omega, by rw [← hNM]; exact en8, Or.inl ⟨rfl, by omega, hNM⟩⟩⟩))
    · skip
      refine w_ine 24 21 (by decide +kernel) (fun hz => absurd hz (by decide)) (fun _ => ?_)
      refine w_push (-2) 23 (by decide +kernel) ?_
      exact w_ret (by decide +kernel) (hq _ N hS (Or.inr ⟨_, by assumption, rfl, Or.inl ⟨rfl, by first | assumption | exact in_no (by assumption) (by decide), hNM⟩⟩))
  · skip
    refine w_ine 9 7 (by decide +kernel) (fun hz => absurd hz (by decide)) (fun _ => ?_)
    refine w_push (-1) 8 (by decide +kernel) ?_
    exact w_ret (by decide +kernel) (hq _ N hS (Or.inl ⟨rfl, by assumption, hNM⟩))
-- X8_blot
set_option maxRecDepth 10000 in
theorem k_144 {d : Nat} {M : Mt} {L : Lt} {Q : Option Value → Mt → Lt → Prop} {a : Int32} (hI : Inv M)  (hd : 2 ≤ d) (hq : ∀ (r : Int32) (N : Mt), St (fun i _ => i = 80 ∨ i = 81) M N → ((r = -1 ∧ ¬ (∃ k, k < 3 ∧ a = nI k) ∧ N = M) ∨ (∃ t n, t < 3 ∧ a = nI t ∧ n ≤ 24 ∧ M 81 t = nI n ∧ r = nI n ∧ N = up2 M 81 t (nI 0))) → Q (some (.int r)) N L) : Wp d 144 0 [.ref 76, .int a, .null] [] M L Q := by
  refine (show ∀ N : Mt, N = M → St (fun i _ => i = 80 ∨ i = 81) M N → Wp d 144 0 [.ref 76, .int a, .null] [] N L Q from ?_) M rfl (St.rf hI)
  intro N hNM hS
  refine w_load (.iload_n 1) 1 (by decide +kernel) rfl rfl ?_
  refine w_callS1 142 1 4 (by decide +kernel) (Nat.le_of_ble_eq_true rfl) rfl (by decide) (by omega) ?_
  refine k_142 hS.1  (by omega) (fun r1 hr1 => ?_)
  dsimp only [Option.toList, List.cons_append, List.nil_append]
  rcases hr1 with ⟨rfl, k2, hk2, rfl⟩ | ⟨rfl, hnok2⟩
  · skip
    refine w_ine 9 7 (by decide +kernel) (fun _ => ?_) (fun hz => absurd hz (by decide))
    refine w_load (.aload_n 0) 10 (by decide +kernel) rfl rfl ?_
    refine w_getR (k := 6) (r := 81) 13 (by decide +kernel) sh_76 rfl ?_
    refine w_load (.iload_n 1) 14 (by decide +kernel) rfl rfl ?_
    refine w_ialdC (B := 24) 15 (by decide +kernel) sh_81 (by decide) (by omega) (inv_81 hS.1 _) (fun n4 hn4 en4 => ?_)
    refine w_store (ls' := [.ref 76, .int (nI k2), .int (nI n4)]) (.istore_n 2) 16 (by decide +kernel) rfl rfl ?_
    refine w_load (.aload_n 0) 17 (by decide +kernel) rfl rfl ?_
    refine w_getR (k := 6) (r := 81) 20 (by decide +kernel) sh_76 rfl ?_
    refine w_load (.iload_n 1) 21 (by decide +kernel) rfl rfl ?_
    refine w_pushN 0 22 (by decide +kernel) ?_
    refine w_iastE 23 (by decide +kernel) sh_81 (by omega) (by omega) hS (rg_81 (by omega)) (by first | exact rfl | omega | (dsimp only; omega) | (simp only [Hs, Tl, Sc, isHs, isScr, isTs] at *; omega)) (fun Nq5 hS hq5 oq5 mq5 => ?_)
    refine w_load (.iload_n 2) 24 (by decide +kernel) rfl rfl ?_
    exact w_ret (by decide +kernel) (hq _ Nq5 hS (Or.inr ⟨_, n4, by assumption, rfl, by omega, by rw [← hNM]; exact en4, rfl, (by rw [mq5, hNM] <;> rfl)⟩))
  · skip
    refine w_ine 9 7 (by decide +kernel) (fun hz => absurd hz (by decide)) (fun _ => ?_)
    refine w_push (-1) 8 (by decide +kernel) ?_
    exact w_ret (by decide +kernel) (hq _ N hS (Or.inl ⟨rfl, by assumption, hNM⟩))
-- X8_kindOf
set_option maxRecDepth 10000 in
theorem k_145 {d : Nat} {M : Mt} {L : Lt} {Q : Option Value → Mt → Lt → Prop} {a : Int32} (hI : Inv M)  (hd : 0 ≤ d) (hq : ∀ (r : Int32), (r = kd a) → Q (some (.int r)) M L) : Wp d 145 0 [.int a] [] M L Q := by
  refine w_load (.iload_n 0) 1 (by decide +kernel) rfl rfl ?_
  refine w_pushN 107 3 (by decide +kernel) ?_
  refine w_cne 10 6 (by decide +kernel) (fun h1 => ?_) (fun h1 => ?_)
  · skip
    refine w_load (.iload_n 0) 11 (by decide +kernel) rfl rfl ?_
    refine w_pushN 119 13 (by decide +kernel) ?_
    refine w_cne 20 16 (by decide +kernel) (fun h2 => ?_) (fun h2 => ?_)
    · skip
      refine w_load (.iload_n 0) 21 (by decide +kernel) rfl rfl ?_
      refine w_pushN 103 23 (by decide +kernel) ?_
      refine w_cne 30 26 (by decide +kernel) (fun h3 => ?_) (fun h3 => ?_)
      · skip
        refine w_load (.iload_n 0) 31 (by decide +kernel) rfl rfl ?_
        refine w_pushN 116 33 (by decide +kernel) ?_
        refine w_cne 40 36 (by decide +kernel) (fun h4 => ?_) (fun h4 => ?_)
        · skip
          refine w_push (-9) 42 (by decide +kernel) ?_
          exact w_ret (by decide +kernel) (hq _ (by unfold kd; first | rw [if_pos (by assumption)] | rw [if_neg (by assumption), if_pos (by assumption)] | rw [if_neg (by assumption), if_neg (by assumption), if_pos (by assumption)] | rw [if_neg (by assumption), if_neg (by assumption), if_neg (by assumption), if_pos (by assumption)] | rw [if_neg (by assumption), if_neg (by assumption), if_neg (by assumption), if_neg (by assumption)]))
        · skip
          refine w_pushN 3 37 (by decide +kernel) ?_
          refine w_goto 42 (by decide +kernel) ?_
          exact w_ret (by decide +kernel) (hq _ (by unfold kd; first | rw [if_pos (by assumption)] | rw [if_neg (by assumption), if_pos (by assumption)] | rw [if_neg (by assumption), if_neg (by assumption), if_pos (by assumption)] | rw [if_neg (by assumption), if_neg (by assumption), if_neg (by assumption), if_pos (by assumption)] | rw [if_neg (by assumption), if_neg (by assumption), if_neg (by assumption), if_neg (by assumption)]))
      · skip
        refine w_pushN 2 27 (by decide +kernel) ?_
        refine w_goto 42 (by decide +kernel) ?_
        exact w_ret (by decide +kernel) (hq _ (by unfold kd; first | rw [if_pos (by assumption)] | rw [if_neg (by assumption), if_pos (by assumption)] | rw [if_neg (by assumption), if_neg (by assumption), if_pos (by assumption)] | rw [if_neg (by assumption), if_neg (by assumption), if_neg (by assumption), if_pos (by assumption)] | rw [if_neg (by assumption), if_neg (by assumption), if_neg (by assumption), if_neg (by assumption)]))
    · skip
      refine w_pushN 1 17 (by decide +kernel) ?_
      refine w_goto 42 (by decide +kernel) ?_
      exact w_ret (by decide +kernel) (hq _ (by unfold kd; first | rw [if_pos (by assumption)] | rw [if_neg (by assumption), if_pos (by assumption)] | rw [if_neg (by assumption), if_neg (by assumption), if_pos (by assumption)] | rw [if_neg (by assumption), if_neg (by assumption), if_neg (by assumption), if_pos (by assumption)] | rw [if_neg (by assumption), if_neg (by assumption), if_neg (by assumption), if_neg (by assumption)]))
  · skip
    refine w_pushN 0 7 (by decide +kernel) ?_
    refine w_goto 42 (by decide +kernel) ?_
    exact w_ret (by decide +kernel) (hq _ (by unfold kd; first | rw [if_pos (by assumption)] | rw [if_neg (by assumption), if_pos (by assumption)] | rw [if_neg (by assumption), if_neg (by assumption), if_pos (by assumption)] | rw [if_neg (by assumption), if_neg (by assumption), if_neg (by assumption), if_pos (by assumption)] | rw [if_neg (by assumption), if_neg (by assumption), if_neg (by assumption), if_neg (by assumption)]))
-- X8_slipOf
set_option maxRecDepth 10000 in
theorem k_146 {d : Nat} {M : Mt} {L : Lt} {Q : Option Value → Mt → Lt → Prop} {t n : Nat}  (hI : Inv M) (ht : t < 3) (hn : n ≤ 24) (en : M 81 t = nI n) (hd : 1 ≤ d) (hq : ∀ (r : Int32), (∃ k, sndT (fun i => M 80 (24 * t + i)) n k ∧ r = if k = n ∧ n % 3 = 0 then -9 else nI k) → Q (some (.int r)) M L) : Wp d 146 0 [.ref 76, .int (nI t), .null, .null, .null] [] M L Q := by
  refine w_pushN 0 1 (by decide +kernel) ?_
  refine w_store (ls' := [.ref 76, .int (nI t), .int (nI 0), .null, .null]) (.istore_n 2) 2 (by decide +kernel) rfl rfl ?_
  have LP_2 : ∀ (kk : Nat) (g2 : Nat), g2 ≤ 24 → (∀ i, i < g2 → fitT i (M 80 (24 * t + i))) → g2 ≤ n → 24 - g2 < kk → Wp d 146 2 [.ref 76, .int (nI t), .int (nI g2), .null, .null] [] M L Q := by
    intro kk
    induction kk with
    | zero => intro g2 hi0_2 hi1_2 hi2_2 hm_2; exact absurd hm_2 (Nat.not_lt_zero _)
    | succ kk ih_2 =>
      intro g2 hi0_2 hi1_2 hi2_2 hm_2
      refine w_load (.iload_n 2) 3 (by decide +kernel) rfl rfl ?_
      refine w_load (.aload_n 0) 4 (by decide +kernel) rfl rfl ?_
      refine w_getR (k := 6) (r := 81) 7 (by decide +kernel) sh_76 rfl ?_
      refine w_load (.iload_n 1) 8 (by decide +kernel) rfl rfl ?_
      refine w_ialdK 9 (by decide +kernel) sh_81 (by decide) (by omega) en ?_
      refine w_cgeN 73 12 (by decide +kernel) (by omega) (by omega) (fun h1 => ?_) (fun h1 => ?_)
      · skip
        refine w_load (.aload_n 0) 74 (by decide +kernel) rfl rfl ?_
        refine w_getR (k := 6) (r := 81) 77 (by decide +kernel) sh_76 rfl ?_
        refine w_load (.iload_n 1) 78 (by decide +kernel) rfl rfl ?_
        refine w_ialdK 79 (by decide +kernel) sh_81 (by decide) (by omega) en ?_
        refine w_pushN 3 80 (by decide +kernel) ?_
        refine w_remN (n % 3) 81 (by decide +kernel) (by decide) (by decide) (by omega) rfl ?_
        refine w_ineN 89 84 (by decide +kernel) (by omega) (fun h2 => ?_) (fun h2 => ?_)
        · skip
          refine w_load (.aload_n 0) 90 (by decide +kernel) rfl rfl ?_
          refine w_getR (k := 6) (r := 81) 93 (by decide +kernel) sh_76 rfl ?_
          refine w_load (.iload_n 1) 94 (by decide +kernel) rfl rfl ?_
          refine w_ialdK 95 (by decide +kernel) sh_81 (by decide) (by omega) en ?_
          exact w_ret (by decide +kernel) (hq _ ⟨n, ⟨by omega, fun i hi => hi1_2 i (by omega), fun h => absurd h (by omega)⟩, by first | exact (if_pos (by omega)).symm | exact (if_neg (by omega)).symm⟩)
        · skip
          refine w_push (-9) 86 (by decide +kernel) ?_
          refine w_goto 95 (by decide +kernel) ?_
          exact w_ret (by decide +kernel) (hq _ ⟨n, ⟨by omega, fun i hi => hi1_2 i (by omega), fun h => absurd h (by omega)⟩, by first | exact (if_pos (by omega)).symm | exact (if_neg (by omega)).symm⟩)
      · skip
        refine w_load (.aload_n 0) 13 (by decide +kernel) rfl rfl ?_
        refine w_getR (k := 5) (r := 80) 16 (by decide +kernel) sh_76 rfl ?_
        refine w_pushN 24 18 (by decide +kernel) ?_
        refine w_load (.iload_n 1) 19 (by decide +kernel) rfl rfl ?_
        refine w_mulN (24 * t) 20 (by decide +kernel) rfl ?_
        refine w_load (.iload_n 2) 21 (by decide +kernel) rfl rfl ?_
        refine w_addN (24 * t + g2) 22 (by decide +kernel) (by omega) ?_
        refine w_ialdN 23 (by decide +kernel) sh_80 (by omega) (by omega) ?_
        refine w_topi (fun v3 ev3 => ?_)
        refine w_store (ls' := [.ref 76, .int (nI t), .int (nI g2), .int v3, .null]) (.istore_n 3) 24 (by decide +kernel) rfl rfl ?_
        have evb := ev3
        refine w_load (.iload_n 2) 25 (by decide +kernel) rfl rfl ?_
        refine w_pushN 3 26 (by decide +kernel) ?_
        refine w_remN (g2 % 3) 27 (by decide +kernel) (by decide) (by decide) (by omega) rfl ?_
        refine w_ineN 47 30 (by decide +kernel) (by omega) (fun h4 => ?_) (fun h4 => ?_)
        · skip
          refine w_load (.iload_n 3) 48 (by decide +kernel) rfl rfl ?_
          refine w_pure .i2l 49 (by decide +kernel) rfl rfl ?_
          refine w_pushL (97) 52 (by decide +kernel) ?_
          refine w_pushL (100) 55 (by decide +kernel) ?_
          refine w_callSL 134 6 58 (by decide +kernel) (Nat.le_of_ble_eq_true rfl) rfl (by omega) ?_
          refine k_134 hI  (by omega) (fun r5 hr5 => ?_)
          dsimp only [Option.toList, List.cons_append, List.nil_append]
          rcases hr5 with ⟨rfl, hlok6, hhik6⟩ | ⟨rfl, hnok6⟩
          · skip
            have hink6 := inR_in (lo := 97) (hi := 100) hlok6 hhik6 (by decide) (by decide)
            refine w_store (ls' := [.ref 76, .int (nI t), .int (nI g2), .int v3, .int (1)]) (.istore 4) 60 (by decide +kernel) rfl rfl ?_
            refine w_load (.iload 4) 62 (by decide +kernel) rfl rfl ?_
            refine w_ine 67 65 (by decide +kernel) (fun _ => ?_) (fun hz => absurd hz (by decide))
            refine w_iincN (z := 2) (g2 + 1) 70 (by decide +kernel) rfl (Nat.le_of_ble_eq_true rfl) rfl rfl ?_
            show Wp _ _ _ [.ref 76, .int (nI t), .int (nI (g2 + 1)), .int v3, .int (1)] _ _ _ _
            refine w_goto 2 (by decide +kernel) ?_
            refine Wp.forget (ls := [.ref 76, .int (nI t), .int (nI (g2 + 1)), .null, .null]) ⟨Or.inl rfl, Or.inl rfl, Or.inl rfl, Or.inr ⟨rfl, rfl⟩, Or.inr ⟨rfl, rfl⟩, trivial⟩ ?_
            exact ih_2 (g2 + 1) (by first | omega | exact lt_ext (by assumption) (by rw [← evb]; unfold fitT; split <;> first | omega | assumption)) (by first | omega | exact lt_ext (by assumption) (by rw [← evb]; unfold fitT; split <;> first | omega | assumption)) (by first | omega | exact lt_ext (by assumption) (by rw [← evb]; unfold fitT; split <;> first | omega | assumption)) (by omega)
          · skip
            have hink6 := inR_nin (lo := 97) (hi := 100) hnok6 (by decide) (by decide)
            refine w_store (ls' := [.ref 76, .int (nI t), .int (nI g2), .int v3, .int (0)]) (.istore 4) 60 (by decide +kernel) rfl rfl ?_
            refine w_load (.iload 4) 62 (by decide +kernel) rfl rfl ?_
            refine w_ine 67 65 (by decide +kernel) (fun hz => absurd hz (by decide)) (fun _ => ?_)
            refine w_load (.iload_n 2) 66 (by decide +kernel) rfl rfl ?_
            exact w_ret (by decide +kernel) (hq _ ⟨g2, ⟨by omega, by assumption, fun _ => (show ¬ fitT g2 (M 80 (24 * t + g2)) by intro hf; rw [← evb] at hf; unfold fitT at hf; split at hf <;> first | omega | exact absurd hf (by assumption) | exact hf (by assumption))⟩, (if_neg (by omega)).symm⟩)
        · skip
          refine w_load (.iload_n 3) 31 (by decide +kernel) rfl rfl ?_
          refine w_callS1 145 1 34 (by decide +kernel) (Nat.le_of_ble_eq_true rfl) rfl (by decide) (by omega) ?_
          refine k_145 hI  (by omega) (fun r9 hr9 => ?_)
          dsimp only [Option.toList, List.cons_append, List.nil_append]
          rcases hr9 with rfl
          · skip
            refine w_push (-9) 36 (by decide +kernel) ?_
            refine w_ceq 43 39 (by decide +kernel) (fun h10 => ?_) (fun h10 => ?_)
            · skip
              refine w_pushN 0 44 (by decide +kernel) ?_
              refine w_goto 58 (by decide +kernel) ?_
              refine w_store (ls' := [.ref 76, .int (nI t), .int (nI g2), .int v3, .int (nI 0)]) (.istore 4) 60 (by decide +kernel) rfl rfl ?_
              refine w_load (.iload 4) 62 (by decide +kernel) rfl rfl ?_
              refine w_ine 67 65 (by decide +kernel) (fun hz => absurd hz (by decide)) (fun _ => ?_)
              refine w_load (.iload_n 2) 66 (by decide +kernel) rfl rfl ?_
              exact w_ret (by decide +kernel) (hq _ ⟨g2, ⟨by omega, by assumption, fun _ => (show ¬ fitT g2 (M 80 (24 * t + g2)) by intro hf; rw [← evb] at hf; unfold fitT at hf; split at hf <;> first | omega | exact absurd hf (by assumption) | exact hf (by assumption))⟩, (if_neg (by omega)).symm⟩)
            · skip
              refine w_pushN 1 40 (by decide +kernel) ?_
              refine w_goto 58 (by decide +kernel) ?_
              refine w_store (ls' := [.ref 76, .int (nI t), .int (nI g2), .int v3, .int (nI 1)]) (.istore 4) 60 (by decide +kernel) rfl rfl ?_
              refine w_load (.iload 4) 62 (by decide +kernel) rfl rfl ?_
              refine w_ine 67 65 (by decide +kernel) (fun _ => ?_) (fun hz => absurd hz (by decide))
              refine w_iincN (z := 2) (g2 + 1) 70 (by decide +kernel) rfl (Nat.le_of_ble_eq_true rfl) rfl rfl ?_
              show Wp _ _ _ [.ref 76, .int (nI t), .int (nI (g2 + 1)), .int v3, .int (nI 1)] _ _ _ _
              refine w_goto 2 (by decide +kernel) ?_
              refine Wp.forget (ls := [.ref 76, .int (nI t), .int (nI (g2 + 1)), .null, .null]) ⟨Or.inl rfl, Or.inl rfl, Or.inl rfl, Or.inr ⟨rfl, rfl⟩, Or.inr ⟨rfl, rfl⟩, trivial⟩ ?_
              exact ih_2 (g2 + 1) (by first | omega | exact lt_ext (by assumption) (by rw [← evb]; unfold fitT; split <;> first | omega | assumption)) (by first | omega | exact lt_ext (by assumption) (by rw [← evb]; unfold fitT; split <;> first | omega | assumption)) (by first | omega | exact lt_ext (by assumption) (by rw [← evb]; unfold fitT; split <;> first | omega | assumption)) (by omega)
  exact LP_2 _ 0 (by first | omega | (intro i hi; omega)) (by first | omega | (intro i hi; omega)) (by first | omega | (intro i hi; omega)) (Nat.lt_succ_self _)
-- X8_slip
set_option maxRecDepth 10000 in
theorem k_147 {d : Nat} {M : Mt} {L : Lt} {Q : Option Value → Mt → Lt → Prop} {a : Int32} (hI : Inv M)  (hd : 2 ≤ d) (hq : ∀ (r : Int32), ((r = -1 ∧ ¬ (∃ k, k < 3 ∧ a = nI k)) ∨ (∃ t n k, t < 3 ∧ a = nI t ∧ n ≤ 24 ∧ M 81 t = nI n ∧ sndT (fun i => M 80 (24 * t + i)) n k ∧ r = if k = n ∧ n % 3 = 0 then -9 else nI k)) → Q (some (.int r)) M L) : Wp d 147 0 [.ref 76, .int a] [] M L Q := by
  refine w_load (.iload_n 1) 1 (by decide +kernel) rfl rfl ?_
  refine w_callS1 142 1 4 (by decide +kernel) (Nat.le_of_ble_eq_true rfl) rfl (by decide) (by omega) ?_
  refine k_142 hI  (by omega) (fun r1 hr1 => ?_)
  dsimp only [Option.toList, List.cons_append, List.nil_append]
  rcases hr1 with ⟨rfl, k2, hk2, rfl⟩ | ⟨rfl, hnok2⟩
  · skip
    refine w_ieq 15 7 (by decide +kernel) (fun hz => absurd hz (by decide)) (fun _ => ?_)
    refine w_load (.aload_n 0) 8 (by decide +kernel) rfl rfl ?_
    refine w_load (.iload_n 1) 9 (by decide +kernel) rfl rfl ?_
    refine w_callV1 146 8 5 12 (by decide +kernel) sh_76 (Nat.le_of_ble_eq_true rfl) rfl (by decide) (by omega) ?_
    obtain ⟨n4, hn4, en4⟩ := inv_81 hI k2
    refine k_146 hI (by omega) (by omega) en4 (by omega) (fun r5 hr5 => ?_)
    dsimp only [Option.toList, List.cons_append, List.nil_append]
    rcases hr5 with ⟨kr5, hsr5, er5⟩
    · skip
      have hlr5 := hsr5.1
      refine w_goto 16 (by decide +kernel) ?_
      exact w_ret (by decide +kernel) (hq _ (Or.inr ⟨_, n4, kr5, by assumption, rfl, by omega, en4, hsr5, er5⟩))
  · skip
    refine w_ieq 15 7 (by decide +kernel) (fun _ => ?_) (fun hz => absurd hz (by decide))
    refine w_push (-1) 16 (by decide +kernel) ?_
    exact w_ret (by decide +kernel) (hq _ (Or.inl ⟨rfl, by assumption⟩))
-- X8_deeds
set_option maxRecDepth 10000 in
theorem k_148 {d : Nat} {M : Mt} {L : Lt} {Q : Option Value → Mt → Lt → Prop} {t n : Nat}  (hI : Inv M) (ht : t < 3) (hn : n ≤ 24) (en : M 81 t = nI n) (hd : 2 ≤ d) (hq : ∀ (r : Int32), (∃ k, sndT (fun i => M 80 (24 * t + i)) n k ∧ r = nI (k / 3)) → Q (some (.int r)) M L) : Wp d 148 0 [.ref 76, .int (nI t), .null] [] M L Q := by
  refine w_load (.aload_n 0) 1 (by decide +kernel) rfl rfl ?_
  refine w_load (.iload_n 1) 2 (by decide +kernel) rfl rfl ?_
  refine w_callV1 146 8 5 5 (by decide +kernel) sh_76 (Nat.le_of_ble_eq_true rfl) rfl (by decide) (by omega) ?_
  refine k_146 hI (by omega) (by omega) en (by omega) (fun r1 hr1 => ?_)
  dsimp only [Option.toList, List.cons_append, List.nil_append]
  rcases hr1 with ⟨kr1, hsr1, er1⟩
  · skip
    have hlr1 := hsr1.1
    refine w_store (ls' := [.ref 76, .int (nI t), .int r1]) (.istore_n 2) 6 (by decide +kernel) rfl rfl ?_
    refine w_load (.iload_n 2) 7 (by decide +kernel) rfl rfl ?_
    refine w_push (-9) 9 (by decide +kernel) ?_
    refine w_cne 21 12 (by decide +kernel) (fun h2 => ?_) (fun h2 => ?_)
    · skip
      obtain rfl := sl_ne (n := n) (by omega) er1 h2
      refine w_load (.iload_n 2) 22 (by decide +kernel) rfl rfl ?_
      refine w_pushN 3 23 (by decide +kernel) ?_
      refine w_divN (kr1 / 3) 24 (by decide +kernel) (by decide) (by decide) (by omega) rfl ?_
      exact w_ret (by decide +kernel) (hq _ (by first | exact ⟨kr1, hsr1, rfl⟩ | exact ⟨kr1, hsr1, by rw [hkn]⟩))
    · skip
      have hkn := sl_eq (n := n) (by omega) er1 h2
      refine w_load (.aload_n 0) 13 (by decide +kernel) rfl rfl ?_
      refine w_getR (k := 6) (r := 81) 16 (by decide +kernel) sh_76 rfl ?_
      refine w_load (.iload_n 1) 17 (by decide +kernel) rfl rfl ?_
      refine w_ialdK 18 (by decide +kernel) sh_81 (by decide) (by omega) en ?_
      refine w_goto 22 (by decide +kernel) ?_
      refine w_pushN 3 23 (by decide +kernel) ?_
      refine w_divN (n / 3) 24 (by decide +kernel) (by decide) (by decide) (by omega) rfl ?_
      exact w_ret (by decide +kernel) (hq _ (by first | exact ⟨kr1, hsr1, rfl⟩ | exact ⟨kr1, hsr1, by rw [hkn]⟩))
-- X8_deedOf
set_option maxRecDepth 10000 in
theorem k_149 {d : Nat} {M : Mt} {L : Lt} {Q : Option Value → Mt → Lt → Prop} {t k : Nat}  (hI : Inv M) (ht : t < 3) (hk : k < 8) (hd : 1 ≤ d) (hq : ∀ (r : Int32), True → Q (some (.int r)) M L) : Wp d 149 0 [.ref 76, .int (nI t), .int (nI k), .null] [] M L Q := by
  refine w_pushN 24 2 (by decide +kernel) ?_
  refine w_load (.iload_n 1) 3 (by decide +kernel) rfl rfl ?_
  refine w_mulN (24 * t) 4 (by decide +kernel) rfl ?_
  refine w_pushN 3 5 (by decide +kernel) ?_
  refine w_load (.iload_n 2) 6 (by decide +kernel) rfl rfl ?_
  refine w_mulN (3 * k) 7 (by decide +kernel) rfl ?_
  refine w_addN (24 * t + 3 * k) 8 (by decide +kernel) (by omega) ?_
  refine w_store (ls' := [.ref 76, .int (nI t), .int (nI k), .int (nI (24 * t + 3 * k))]) (.istore_n 3) 9 (by decide +kernel) rfl rfl ?_
  refine w_pushN 16 11 (by decide +kernel) ?_
  refine w_load (.aload_n 0) 12 (by decide +kernel) rfl rfl ?_
  refine w_getR (k := 5) (r := 80) 15 (by decide +kernel) sh_76 rfl ?_
  refine w_load (.iload_n 3) 16 (by decide +kernel) rfl rfl ?_
  refine w_ialdN 17 (by decide +kernel) sh_80 (by omega) (by omega) ?_
  refine w_callS1 145 1 20 (by decide +kernel) (Nat.le_of_ble_eq_true rfl) rfl (by decide) (by omega) ?_
  refine k_145 hI  (by omega) (fun r1 hr1 => ?_)
  dsimp only [Option.toList, List.cons_append, List.nil_append]
  rcases hr1 with rfl
  · skip
    refine w_pure .imul 21 (by decide +kernel) rfl rfl ?_
    refine w_pushN 4 22 (by decide +kernel) ?_
    refine w_load (.aload_n 0) 23 (by decide +kernel) rfl rfl ?_
    refine w_getR (k := 5) (r := 80) 26 (by decide +kernel) sh_76 rfl ?_
    refine w_load (.iload_n 3) 27 (by decide +kernel) rfl rfl ?_
    refine w_pushN 1 28 (by decide +kernel) ?_
    refine w_addN (24 * t + 3 * k + 1) 29 (by decide +kernel) (by omega) ?_
    refine w_ialdN 30 (by decide +kernel) sh_80 (by omega) (by omega) ?_
    refine w_pushN 97 32 (by decide +kernel) ?_
    refine w_pure .isub 33 (by decide +kernel) rfl rfl ?_
    refine w_pure .imul 34 (by decide +kernel) rfl rfl ?_
    refine w_pure .iadd 35 (by decide +kernel) rfl rfl ?_
    refine w_load (.aload_n 0) 36 (by decide +kernel) rfl rfl ?_
    refine w_getR (k := 5) (r := 80) 39 (by decide +kernel) sh_76 rfl ?_
    refine w_load (.iload_n 3) 40 (by decide +kernel) rfl rfl ?_
    refine w_pushN 2 41 (by decide +kernel) ?_
    refine w_addN (24 * t + 3 * k + 2) 42 (by decide +kernel) (by omega) ?_
    refine w_ialdN 43 (by decide +kernel) sh_80 (by omega) (by omega) ?_
    refine w_pure .iadd 44 (by decide +kernel) rfl rfl ?_
    refine w_pushN 97 46 (by decide +kernel) ?_
    refine w_pure .isub 47 (by decide +kernel) rfl rfl ?_
    exact w_ret (by decide +kernel) (hq _ trivial)
-- X8_isGuest
set_option maxRecDepth 10000 in
theorem k_150 {d : Nat} {M : Mt} {L : Lt} {Q : Option Value → Mt → Lt → Prop} {n : Nat} {g : Int32} (hI : Inv M) (hn : n ≤ 5) (en : M 76 0 = nI n) (hd : 1 ≤ d) (hq : ∀ (r : Int32), ((r = 1 ∧ ∃ k, k < n ∧ g = nI k) ∨ (r = 0 ∧ ¬ ∃ k, k < n ∧ g = nI k)) → Q (some (.int r)) M L) : Wp d 150 0 [.ref 76, .int g] [] M L Q := by
  refine w_load (.iload_n 1) 1 (by decide +kernel) rfl rfl ?_
  refine w_pure .i2l 2 (by decide +kernel) rfl rfl ?_
  refine w_pushL (0) 3 (by decide +kernel) ?_
  refine w_load (.aload_n 0) 4 (by decide +kernel) rfl rfl ?_
  refine w_getK (k := 0) 7 (by decide +kernel) sh_76 rfl en ?_
  refine w_pushN 1 8 (by decide +kernel) ?_
  refine w_pure .isub 9 (by decide +kernel) rfl rfl ?_
  refine w_pure .i2l 10 (by decide +kernel) rfl rfl ?_
  refine w_callSL 134 6 13 (by decide +kernel) (Nat.le_of_ble_eq_true rfl) rfl (by omega) ?_
  refine k_134 hI  (by omega) (fun r1 hr1 => ?_)
  dsimp only [Option.toList, List.cons_append, List.nil_append]
  rcases hr1 with ⟨rfl, hlok3, hhik3⟩ | ⟨rfl, hnok3⟩
  · skip
    exact w_retZ (by decide +kernel) (Or.inr rfl) (hq _ (Or.inl ⟨rfl, isg_n (by assumption) (by assumption) (by assumption) (by decide)⟩))
  · skip
    exact w_retZ (by decide +kernel) (Or.inl rfl) (hq _ (Or.inr ⟨rfl, isg_no (by assumption) (by assumption) (by decide)⟩))
-- X8_guest
set_option maxRecDepth 10000 in
theorem k_151 {d : Nat} {M : Mt} {L : Lt} {Q : Option Value → Mt → Lt → Prop} {g : Int32} {a : Int32} (hI : Inv M)  (hd : 2 ≤ d) (hq : ∀ (r : Int32), True → Q (some (.int r)) M L) : Wp d 151 0 [.ref 76, .int g, .int a] [] M L Q := by
  refine w_load (.aload_n 0) 1 (by decide +kernel) rfl rfl ?_
  refine w_load (.iload_n 1) 2 (by decide +kernel) rfl rfl ?_
  refine w_callV1 150 8 2 5 (by decide +kernel) sh_76 (Nat.le_of_ble_eq_true rfl) rfl (by decide) (by omega) ?_
  obtain ⟨n1, hn1, en1⟩ := inv_g hI
  refine k_150 hI (by omega) en1 (by omega) (fun r2 hr2 => ?_)
  dsimp only [Option.toList, List.cons_append, List.nil_append]
  rcases hr2 with ⟨rfl, k3, hk3, rfl⟩ | ⟨rfl, hnok3⟩
  · skip
    refine w_ine 10 8 (by decide +kernel) (fun _ => ?_) (fun hz => absurd hz (by decide))
    refine w_load (.iload_n 2) 11 (by decide +kernel) rfl rfl ?_
    refine w_tab (show insAt 151 11 = some (.tableswitch 81 0 4 #[33, 40, 52, 59, 71]) by decide +kernel) (fun h5 => ⟨92, rfl, ?_⟩) (fun z6 h5 h5b => ?_)
    · skip
      refine w_push (-2) 94 (by decide +kernel) ?_
      exact w_ret (by decide +kernel) (hq _ trivial)
    · rcases (by omega : z6 = 0 ∨ z6 = 1 ∨ z6 = 2 ∨ z6 = 3 ∨ z6 = 4) with rfl | rfl | rfl | rfl | rfl
      · refine ⟨_, 44, rfl, rfl, ?_⟩
        refine w_load (.aload_n 0) 45 (by decide +kernel) rfl rfl ?_
        refine w_getR (k := 2) (r := 78) 48 (by decide +kernel) sh_76 rfl ?_
        refine w_load (.iload_n 1) 49 (by decide +kernel) rfl rfl ?_
        refine w_ialdN 50 (by decide +kernel) sh_78 (by omega) (by omega) ?_
        exact w_ret (by decide +kernel) (hq _ trivial)
      · refine ⟨_, 51, rfl, rfl, ?_⟩
        refine w_pushN 100 53 (by decide +kernel) ?_
        refine w_load (.aload_n 0) 54 (by decide +kernel) rfl rfl ?_
        refine w_getR (k := 2) (r := 78) 57 (by decide +kernel) sh_76 rfl ?_
        refine w_pushN 5 58 (by decide +kernel) ?_
        refine w_load (.iload_n 1) 59 (by decide +kernel) rfl rfl ?_
        refine w_addN (5 + k3) 60 (by decide +kernel) (by omega) ?_
        refine w_ialdN 61 (by decide +kernel) sh_78 (by omega) (by omega) ?_
        refine w_pure .iadd 62 (by decide +kernel) rfl rfl ?_
        exact w_ret (by decide +kernel) (hq _ trivial)
      · refine ⟨_, 63, rfl, rfl, ?_⟩
        refine w_load (.aload_n 0) 64 (by decide +kernel) rfl rfl ?_
        refine w_getR (k := 1) (r := 77) 67 (by decide +kernel) sh_76 rfl ?_
        refine w_load (.iload_n 1) 68 (by decide +kernel) rfl rfl ?_
        refine w_ialdN 69 (by decide +kernel) sh_77 (by omega) (by omega) ?_
        exact w_ret (by decide +kernel) (hq _ trivial)
      · refine ⟨_, 70, rfl, rfl, ?_⟩
        refine w_load (.aload_n 0) 71 (by decide +kernel) rfl rfl ?_
        refine w_getR (k := 2) (r := 78) 74 (by decide +kernel) sh_76 rfl ?_
        refine w_pushN 15 76 (by decide +kernel) ?_
        refine w_ialdN 77 (by decide +kernel) sh_78 (by omega) (by omega) ?_
        refine w_load (.iload_n 1) 78 (by decide +kernel) rfl rfl ?_
        refine w_pure .ishr 79 (by decide +kernel) rfl rfl ?_
        refine w_pushN 1 80 (by decide +kernel) ?_
        refine w_pure .iand 81 (by decide +kernel) rfl rfl ?_
        exact w_ret (by decide +kernel) (hq _ trivial)
      · refine ⟨_, 82, rfl, rfl, ?_⟩
        refine w_load (.aload_n 0) 83 (by decide +kernel) rfl rfl ?_
        refine w_getR (k := 2) (r := 78) 86 (by decide +kernel) sh_76 rfl ?_
        refine w_pushN 10 88 (by decide +kernel) ?_
        refine w_load (.iload_n 1) 89 (by decide +kernel) rfl rfl ?_
        refine w_addN (10 + k3) 90 (by decide +kernel) (by omega) ?_
        refine w_ialdN 91 (by decide +kernel) sh_78 (by omega) (by omega) ?_
        exact w_ret (by decide +kernel) (hq _ trivial)
  · skip
    refine w_ine 10 8 (by decide +kernel) (fun hz => absurd hz (by decide)) (fun _ => ?_)
    refine w_push (-1) 9 (by decide +kernel) ?_
    exact w_ret (by decide +kernel) (hq _ trivial)
-- X8_bearsAt
set_option maxRecDepth 10000 in
theorem k_152 {d : Nat} {M : Mt} {L : Lt} {Q : Option Value → Mt → Lt → Prop} {lv : Nat} {a : Int32} (hI : Inv M) (hlv : lv ≤ 7) (hd : 1 ≤ d) (hq : ∀ (r : Int32), bits5 r → Q (some (.int r)) M L) : Wp d 152 0 [.ref 76, .int (nI lv), .int a, .null, .null, .null] [] M L Q := by
  refine w_pushN 22 2 (by decide +kernel) ?_
  refine w_load (.iload_n 1) 3 (by decide +kernel) rfl rfl ?_
  refine w_mulN (22 * lv) 4 (by decide +kernel) rfl ?_
  refine w_store (ls' := [.ref 76, .int (nI lv), .int a, .int (nI (22 * lv)), .null, .null]) (.istore_n 3) 5 (by decide +kernel) rfl rfl ?_
  refine w_pushN 0 6 (by decide +kernel) ?_
  refine w_store (ls' := [.ref 76, .int (nI lv), .int a, .int (nI (22 * lv)), .int (nI 0), .null]) (.istore 4) 8 (by decide +kernel) rfl rfl ?_
  refine w_pushN 0 9 (by decide +kernel) ?_
  refine w_store (ls' := [.ref 76, .int (nI lv), .int a, .int (nI (22 * lv)), .int (nI 0), .int (nI 0)]) (.istore 5) 11 (by decide +kernel) rfl rfl ?_
  have LP_11 : ∀ (kk : Nat) (x4_11 : Int32) (g5 : Nat), g5 ≤ 5 → bits5 x4_11 → 5 - g5 < kk → Wp d 152 11 [.ref 76, .int (nI lv), .int a, .int (nI (22 * lv)), .int x4_11, .int (nI g5)] [] M L Q := by
    intro kk
    induction kk with
    | zero => intro x4_11 g5 hi0_11 hi1_11 hm_11; exact absurd hm_11 (Nat.not_lt_zero _)
    | succ kk ih_11 =>
      intro x4_11 g5 hi0_11 hi1_11 hm_11
      refine w_load (.iload 5) 13 (by decide +kernel) rfl rfl ?_
      refine w_load (.aload_n 0) 14 (by decide +kernel) rfl rfl ?_
      refine w_getN (B := 5) (k := 0) 17 (by decide +kernel) sh_76 rfl (inv_g hI) (fun n1 hn1 en1 => ?_)
      refine w_cgeN 69 20 (by decide +kernel) (by omega) (by omega) (fun h2 => ?_) (fun h2 => ?_)
      · skip
        refine w_load (.iload 4) 71 (by decide +kernel) rfl rfl ?_
        exact w_ret (by decide +kernel) (hq _ (by assumption))
      · skip
        refine w_load (.iload 4) 22 (by decide +kernel) rfl rfl ?_
        refine w_load (.aload_n 0) 23 (by decide +kernel) rfl rfl ?_
        refine w_getR (k := 2) (r := 78) 26 (by decide +kernel) sh_76 rfl ?_
        refine w_load (.iload_n 3) 27 (by decide +kernel) rfl rfl ?_
        refine w_pushN 15 29 (by decide +kernel) ?_
        refine w_addN (22 * lv + 15) 30 (by decide +kernel) (by omega) ?_
        refine w_ialdN 31 (by decide +kernel) sh_78 (by omega) (by omega) ?_
        refine w_load (.iload 5) 33 (by decide +kernel) rfl rfl ?_
        refine w_callS2 135 2 36 (by decide +kernel) (Nat.le_of_ble_eq_true rfl) rfl rfl (by decide) (by omega) ?_
        refine k_135 hI  (by omega) (fun r3 hr3 => ?_)
        dsimp only [Option.toList, List.cons_append, List.nil_append]
        rcases hr3 with ⟨rfl, hbr3⟩ | ⟨rfl, hbr3⟩
        · skip
          refine w_ieq 59 39 (by decide +kernel) (fun hz => absurd hz (by decide)) (fun _ => ?_)
          refine w_load (.aload_n 0) 40 (by decide +kernel) rfl rfl ?_
          refine w_getR (k := 2) (r := 78) 43 (by decide +kernel) sh_76 rfl ?_
          refine w_load (.iload_n 3) 44 (by decide +kernel) rfl rfl ?_
          refine w_load (.iload 5) 46 (by decide +kernel) rfl rfl ?_
          refine w_addN (22 * lv + g5) 47 (by decide +kernel) (by omega) ?_
          refine w_ialdN 48 (by decide +kernel) sh_78 (by omega) (by omega) ?_
          refine w_load (.iload_n 2) 49 (by decide +kernel) rfl rfl ?_
          refine w_cne 59 52 (by decide +kernel) (fun h5 => ?_) (fun h5 => ?_)
          · skip
            refine w_pushN 0 60 (by decide +kernel) ?_
            refine w_pure .ior 61 (by decide +kernel) rfl rfl ?_
            refine w_topi (fun v6 ev6 => ?_)
            refine w_store (ls' := [.ref 76, .int (nI lv), .int a, .int (nI (22 * lv)), .int v6, .int (nI g5)]) (.istore 4) 63 (by decide +kernel) rfl rfl ?_
            refine w_iincN (z := 5) (g5 + 1) 66 (by decide +kernel) rfl (Nat.le_of_ble_eq_true rfl) rfl rfl ?_
            show Wp _ _ _ [.ref 76, .int (nI lv), .int a, .int (nI (22 * lv)), .int v6, .int (nI (g5 + 1))] _ _ _ _
            refine w_goto 11 (by decide +kernel) ?_
            exact ih_11 _ (g5 + 1) (by first | omega | (subst_vars; first | exact bits5_or (by omega) | (rw [or_0]; assumption))) (by first | omega | (subst_vars; first | exact bits5_or (by omega) | (rw [or_0]; assumption))) (by omega)
          · skip
            refine w_pushN 1 53 (by decide +kernel) ?_
            refine w_load (.iload 5) 55 (by decide +kernel) rfl rfl ?_
            refine w_pure .ishl 56 (by decide +kernel) rfl rfl ?_
            refine w_goto 60 (by decide +kernel) ?_
            refine w_pure .ior 61 (by decide +kernel) rfl rfl ?_
            refine w_topi (fun v7 ev7 => ?_)
            refine w_store (ls' := [.ref 76, .int (nI lv), .int a, .int (nI (22 * lv)), .int v7, .int (nI g5)]) (.istore 4) 63 (by decide +kernel) rfl rfl ?_
            refine w_iincN (z := 5) (g5 + 1) 66 (by decide +kernel) rfl (Nat.le_of_ble_eq_true rfl) rfl rfl ?_
            show Wp _ _ _ [.ref 76, .int (nI lv), .int a, .int (nI (22 * lv)), .int v7, .int (nI (g5 + 1))] _ _ _ _
            refine w_goto 11 (by decide +kernel) ?_
            exact ih_11 _ (g5 + 1) (by first | omega | (subst_vars; first | exact bits5_or (by omega) | (rw [or_0]; assumption))) (by first | omega | (subst_vars; first | exact bits5_or (by omega) | (rw [or_0]; assumption))) (by omega)
        · skip
          refine w_ieq 59 39 (by decide +kernel) (fun _ => ?_) (fun hz => absurd hz (by decide))
          refine w_pushN 0 60 (by decide +kernel) ?_
          refine w_pure .ior 61 (by decide +kernel) rfl rfl ?_
          refine w_topi (fun v9 ev9 => ?_)
          refine w_store (ls' := [.ref 76, .int (nI lv), .int a, .int (nI (22 * lv)), .int v9, .int (nI g5)]) (.istore 4) 63 (by decide +kernel) rfl rfl ?_
          refine w_iincN (z := 5) (g5 + 1) 66 (by decide +kernel) rfl (Nat.le_of_ble_eq_true rfl) rfl rfl ?_
          show Wp _ _ _ [.ref 76, .int (nI lv), .int a, .int (nI (22 * lv)), .int v9, .int (nI (g5 + 1))] _ _ _ _
          refine w_goto 11 (by decide +kernel) ?_
          exact ih_11 _ (g5 + 1) (by first | omega | (subst_vars; first | exact bits5_or (by omega) | (rw [or_0]; assumption))) (by first | omega | (subst_vars; first | exact bits5_or (by omega) | (rw [or_0]; assumption))) (by omega)
  exact LP_11 _ _ 0 (by first | omega | exact Or.inl rfl) (by first | omega | exact Or.inl rfl) (Nat.lt_succ_self _)
-- X8_bears
set_option maxRecDepth 10000 in
theorem k_153 {d : Nat} {M : Mt} {L : Lt} {Q : Option Value → Mt → Lt → Prop} {a : Int32} (hI : Inv M)  (hd : 2 ≤ d) (hq : ∀ (r : Int32), True → Q (some (.int r)) M L) : Wp d 153 0 [.ref 76, .int a] [] M L Q := by
  refine w_load (.iload_n 1) 1 (by decide +kernel) rfl rfl ?_
  refine w_pure .i2l 2 (by decide +kernel) rfl rfl ?_
  refine w_pushL (0) 3 (by decide +kernel) ?_
  refine w_pushL (3) 6 (by decide +kernel) ?_
  refine w_callSL 134 6 9 (by decide +kernel) (Nat.le_of_ble_eq_true rfl) rfl (by omega) ?_
  refine k_134 hI  (by omega) (fun r1 hr1 => ?_)
  dsimp only [Option.toList, List.cons_append, List.nil_append]
  rcases hr1 with ⟨rfl, hlok3, hhik3⟩ | ⟨rfl, hnok3⟩
  · skip
    obtain ⟨k3, hlk3, hhk3, rfl⟩ := in_k (lo := 0) (hi := 3) hlok3 hhik3 (by decide)
    refine w_ieq 21 12 (by decide +kernel) (fun hz => absurd hz (by decide)) (fun _ => ?_)
    refine w_load (.aload_n 0) 13 (by decide +kernel) rfl rfl ?_
    refine w_pushN 0 14 (by decide +kernel) ?_
    refine w_load (.iload_n 1) 15 (by decide +kernel) rfl rfl ?_
    refine w_callV2 152 8 6 18 (by decide +kernel) sh_76 (Nat.le_of_ble_eq_true rfl) rfl rfl (by decide) (by omega) ?_
    refine k_152 hI (by omega) (by omega) (fun r5 hr5 => ?_)
    dsimp only [Option.toList, List.cons_append, List.nil_append]
    refine w_goto 23 (by decide +kernel) ?_
    exact w_ret (by decide +kernel) (hq _ trivial)
  · skip
    refine w_ieq 21 12 (by decide +kernel) (fun _ => ?_) (fun hz => absurd hz (by decide))
    refine w_push (-2) 23 (by decide +kernel) ?_
    exact w_ret (by decide +kernel) (hq _ trivial)
-- X8_least
set_option maxRecDepth 10000 in
theorem k_154 {d : Nat} {M : Mt} {L : Lt} {Q : Option Value → Mt → Lt → Prop} {a : Int32} (hI : Inv M)  (hd : 1 ≤ d) (hq : ∀ (r : Int32), ((∃ k, k < 5 ∧ r = nI k) ∨ (r = -9 ∧ ∀ k, k < 5 → ¬ hb a k)) → Q (some (.int r)) M L) : Wp d 154 0 [.int a, .null] [] M L Q := by
  refine w_pushN 0 1 (by decide +kernel) ?_
  refine w_store (ls' := [.int a, .int (nI 0)]) (.istore_n 1) 2 (by decide +kernel) rfl rfl ?_
  have LP_2 : ∀ (kk : Nat) (g1 : Nat), g1 ≤ 5 → (∀ z, z < g1 → ¬ hb a z) → 5 - g1 < kk → Wp d 154 2 [.int a, .int (nI g1)] [] M L Q := by
    intro kk
    induction kk with
    | zero => intro g1 hi0_2 hi1_2 hm_2; exact absurd hm_2 (Nat.not_lt_zero _)
    | succ kk ih_2 =>
      intro g1 hi0_2 hi1_2 hm_2
      refine w_load (.iload_n 1) 3 (by decide +kernel) rfl rfl ?_
      refine w_pushN 5 4 (by decide +kernel) ?_
      refine w_cgeN 23 7 (by decide +kernel) (by omega) (by omega) (fun h1 => ?_) (fun h1 => ?_)
      · skip
        refine w_push (-9) 25 (by decide +kernel) ?_
        exact w_ret (by decide +kernel) (hq _ (Or.inr ⟨rfl, fun z hz => hi1_2 z (by omega)⟩))
      · skip
        refine w_load (.iload_n 0) 8 (by decide +kernel) rfl rfl ?_
        refine w_load (.iload_n 1) 9 (by decide +kernel) rfl rfl ?_
        refine w_callS2 135 2 12 (by decide +kernel) (Nat.le_of_ble_eq_true rfl) rfl rfl (by decide) (by omega) ?_
        refine k_135 hI  (by omega) (fun r2 hr2 => ?_)
        dsimp only [Option.toList, List.cons_append, List.nil_append]
        rcases hr2 with ⟨rfl, hbr2⟩ | ⟨rfl, hbr2⟩
        · skip
          refine w_ieq 17 15 (by decide +kernel) (fun hz => absurd hz (by decide)) (fun _ => ?_)
          refine w_load (.iload_n 1) 16 (by decide +kernel) rfl rfl ?_
          exact w_ret (by decide +kernel) (hq _ (Or.inl ⟨_, by omega, rfl⟩))
        · skip
          refine w_ieq 17 15 (by decide +kernel) (fun _ => ?_) (fun hz => absurd hz (by decide))
          refine w_iincN (z := 1) (g1 + 1) 20 (by decide +kernel) rfl (Nat.le_of_ble_eq_true rfl) rfl rfl ?_
          show Wp _ _ _ [.int a, .int (nI (g1 + 1))] _ _ _ _
          refine w_goto 2 (by decide +kernel) ?_
          exact ih_2 (g1 + 1) (by first | omega | exact lt_ext (by assumption) (by assumption)) (by first | omega | exact lt_ext (by assumption) (by assumption)) (by omega)
  exact LP_2 _ 0 (by first | omega | (intro z hz; omega)) (by first | omega | (intro z hz; omega)) (Nat.lt_succ_self _)
-- X8_strong
set_option maxRecDepth 10000 in
theorem k_155 {d : Nat} {M : Mt} {L : Lt} {Q : Option Value → Mt → Lt → Prop} {lv : Nat} {a : Int32} (hI : Inv M) (hlv : lv ≤ 7) (hd : 1 ≤ d) (hq : ∀ (r : Int32), bits5 r → Q (some (.int r)) M L) : Wp d 155 0 [.ref 76, .int (nI lv), .int a, .null, .null] [] M L Q := by
  refine w_pushN 0 1 (by decide +kernel) ?_
  refine w_store (ls' := [.ref 76, .int (nI lv), .int a, .int (nI 0), .null]) (.istore_n 3) 2 (by decide +kernel) rfl rfl ?_
  refine w_pushN 0 3 (by decide +kernel) ?_
  refine w_store (ls' := [.ref 76, .int (nI lv), .int a, .int (nI 0), .int (nI 0)]) (.istore 4) 5 (by decide +kernel) rfl rfl ?_
  have LP_5 : ∀ (kk : Nat) (x3_5 : Int32) (g4 : Nat), g4 ≤ 5 → bits5 x3_5 → 5 - g4 < kk → Wp d 155 5 [.ref 76, .int (nI lv), .int a, .int x3_5, .int (nI g4)] [] M L Q := by
    intro kk
    induction kk with
    | zero => intro x3_5 g4 hi0_5 hi1_5 hm_5; exact absurd hm_5 (Nat.not_lt_zero _)
    | succ kk ih_5 =>
      intro x3_5 g4 hi0_5 hi1_5 hm_5
      refine w_load (.iload 4) 7 (by decide +kernel) rfl rfl ?_
      refine w_load (.aload_n 0) 8 (by decide +kernel) rfl rfl ?_
      refine w_getN (B := 5) (k := 0) 11 (by decide +kernel) sh_76 rfl (inv_g hI) (fun n1 hn1 en1 => ?_)
      refine w_cgeN 58 14 (by decide +kernel) (by omega) (by omega) (fun h2 => ?_) (fun h2 => ?_)
      · skip
        refine w_load (.iload_n 3) 59 (by decide +kernel) rfl rfl ?_
        exact w_ret (by decide +kernel) (hq _ (by assumption))
      · skip
        refine w_load (.iload_n 3) 15 (by decide +kernel) rfl rfl ?_
        refine w_load (.iload_n 2) 16 (by decide +kernel) rfl rfl ?_
        refine w_load (.iload 4) 18 (by decide +kernel) rfl rfl ?_
        refine w_callS2 135 2 21 (by decide +kernel) (Nat.le_of_ble_eq_true rfl) rfl rfl (by decide) (by omega) ?_
        refine k_135 hI  (by omega) (fun r3 hr3 => ?_)
        dsimp only [Option.toList, List.cons_append, List.nil_append]
        rcases hr3 with ⟨rfl, hbr3⟩ | ⟨rfl, hbr3⟩
        · skip
          refine w_ieq 49 24 (by decide +kernel) (fun hz => absurd hz (by decide)) (fun _ => ?_)
          refine w_load (.aload_n 0) 25 (by decide +kernel) rfl rfl ?_
          refine w_getR (k := 2) (r := 78) 28 (by decide +kernel) sh_76 rfl ?_
          refine w_pushN 22 30 (by decide +kernel) ?_
          refine w_load (.iload_n 1) 31 (by decide +kernel) rfl rfl ?_
          refine w_mulN (22 * lv) 32 (by decide +kernel) rfl ?_
          refine w_pushN 17 34 (by decide +kernel) ?_
          refine w_addN (22 * lv + 17) 35 (by decide +kernel) (by omega) ?_
          refine w_load (.iload 4) 37 (by decide +kernel) rfl rfl ?_
          refine w_addN (22 * lv + 17 + g4) 38 (by decide +kernel) (by omega) ?_
          refine w_ialdN 39 (by decide +kernel) sh_78 (by omega) (by omega) ?_
          refine w_ile 49 42 (by decide +kernel) (fun h5 => ?_) (fun h5 => ?_)
          · skip
            refine w_pushN 0 50 (by decide +kernel) ?_
            refine w_pure .ior 51 (by decide +kernel) rfl rfl ?_
            refine w_topi (fun v6 ev6 => ?_)
            refine w_store (ls' := [.ref 76, .int (nI lv), .int a, .int v6, .int (nI g4)]) (.istore_n 3) 52 (by decide +kernel) rfl rfl ?_
            refine w_iincN (z := 4) (g4 + 1) 55 (by decide +kernel) rfl (Nat.le_of_ble_eq_true rfl) rfl rfl ?_
            show Wp _ _ _ [.ref 76, .int (nI lv), .int a, .int v6, .int (nI (g4 + 1))] _ _ _ _
            refine w_goto 5 (by decide +kernel) ?_
            exact ih_5 _ (g4 + 1) (by first | omega | (subst_vars; first | exact bits5_or (by omega) | (rw [or_0]; assumption))) (by first | omega | (subst_vars; first | exact bits5_or (by omega) | (rw [or_0]; assumption))) (by omega)
          · skip
            refine w_pushN 1 43 (by decide +kernel) ?_
            refine w_load (.iload 4) 45 (by decide +kernel) rfl rfl ?_
            refine w_pure .ishl 46 (by decide +kernel) rfl rfl ?_
            refine w_goto 50 (by decide +kernel) ?_
            refine w_pure .ior 51 (by decide +kernel) rfl rfl ?_
            refine w_topi (fun v7 ev7 => ?_)
            refine w_store (ls' := [.ref 76, .int (nI lv), .int a, .int v7, .int (nI g4)]) (.istore_n 3) 52 (by decide +kernel) rfl rfl ?_
            refine w_iincN (z := 4) (g4 + 1) 55 (by decide +kernel) rfl (Nat.le_of_ble_eq_true rfl) rfl rfl ?_
            show Wp _ _ _ [.ref 76, .int (nI lv), .int a, .int v7, .int (nI (g4 + 1))] _ _ _ _
            refine w_goto 5 (by decide +kernel) ?_
            exact ih_5 _ (g4 + 1) (by first | omega | (subst_vars; first | exact bits5_or (by omega) | (rw [or_0]; assumption))) (by first | omega | (subst_vars; first | exact bits5_or (by omega) | (rw [or_0]; assumption))) (by omega)
        · skip
          refine w_ieq 49 24 (by decide +kernel) (fun _ => ?_) (fun hz => absurd hz (by decide))
          refine w_pushN 0 50 (by decide +kernel) ?_
          refine w_pure .ior 51 (by decide +kernel) rfl rfl ?_
          refine w_topi (fun v9 ev9 => ?_)
          refine w_store (ls' := [.ref 76, .int (nI lv), .int a, .int v9, .int (nI g4)]) (.istore_n 3) 52 (by decide +kernel) rfl rfl ?_
          refine w_iincN (z := 4) (g4 + 1) 55 (by decide +kernel) rfl (Nat.le_of_ble_eq_true rfl) rfl rfl ?_
          show Wp _ _ _ [.ref 76, .int (nI lv), .int a, .int v9, .int (nI (g4 + 1))] _ _ _ _
          refine w_goto 5 (by decide +kernel) ?_
          exact ih_5 _ (g4 + 1) (by first | omega | (subst_vars; first | exact bits5_or (by omega) | (rw [or_0]; assumption))) (by first | omega | (subst_vars; first | exact bits5_or (by omega) | (rw [or_0]; assumption))) (by omega)
  exact LP_5 _ _ 0 (by first | omega | exact Or.inl rfl) (by first | omega | exact Or.inl rfl) (Nat.lt_succ_self _)
