-- X8_ends#s
set_option maxRecDepth 10000 in
theorem s_ends8 {d : Nat} {M : Mt} {L : Lt} {Q : Option Value → Mt → Lt → Prop} {lv k e n : Nat} {c : Row} {v : Int32} (hI : Inv M) (hlv : lv ≤ 7) (hn : n ≤ 5) (hk : k < n) (he : e ≤ 3) (hc : HE n (lvC M lv) c) (hd : 1 ≤ d) (hq : ∀ (r : Int32), ((r = 1 ∧ endP c k e v) ∨ (r = 0 ∧ ¬ endP c k e v)) → Q (some (.int r)) M L) : Wp d 169 0 [.ref 76, .int (nI lv), .int (nI k), .int (nI e), .int v, .null] [] M L Q := by
  refine w_pushN 22 2 (by decide +kernel) ?_
  refine w_load (.iload_n 1) 3 (by decide +kernel) rfl rfl ?_
  refine w_mulN (22 * lv) 4 (by decide +kernel) rfl ?_
  refine w_store (ls' := [.ref 76, .int (nI lv), .int (nI k), .int (nI e), .int v, .int (nI (22 * lv))]) (.istore 5) 6 (by decide +kernel) rfl rfl ?_
  refine w_load (.iload_n 3) 7 (by decide +kernel) rfl rfl ?_
  refine w_tab (show insAt 169 7 = some (.tableswitch 93 0 2 #[25, 48, 71]) by decide +kernel) (fun h1 => ⟨100, rfl, ?_⟩) (fun z2 h1 h1b => ?_)
  · skip
    rw [nI_toInt (by omega)] at h1
    refine w_load (.aload_n 0) 101 (by decide +kernel) rfl rfl ?_
    refine w_getR (k := 2) (r := 78) 104 (by decide +kernel) sh_76 rfl ?_
    refine w_load (.iload 5) 106 (by decide +kernel) rfl rfl ?_
    refine w_load (.iload_n 2) 107 (by decide +kernel) rfl rfl ?_
    refine w_addN (22 * lv + k) 108 (by decide +kernel) (by omega) ?_
    refine w_ialdN 109 (by decide +kernel) sh_78 (by omega) (by omega) ?_
    refine w_load (.iload 4) 111 (by decide +kernel) rfl rfl ?_
    refine w_cne 118 114 (by decide +kernel) (fun h3 => ?_) (fun h3 => ?_)
    · skip
      refine w_pushN 0 119 (by decide +kernel) ?_
      exact w_retZ (by decide +kernel) (Or.inl rfl) (hq _ (Or.inr ⟨rfl, fun hz => by replace hz := (end_3 (by omega)).mp hz; rw [← ((hc.1 k hk).1), ← rdC (M := M) (lv := lv) (i := 22 * lv + k) (j := k) (by omega)] at hz; exact absurd hz (by assumption)⟩))
    · skip
      refine w_pushN 1 115 (by decide +kernel) ?_
      refine w_goto 119 (by decide +kernel) ?_
      exact w_retZ (by decide +kernel) (Or.inr rfl) (hq _ (Or.inl ⟨rfl, (end_3 (by omega)).mpr (by rw [← ((hc.1 k hk).1), ← rdC (M := M) (lv := lv) (i := 22 * lv + k) (j := k) (by omega)]; assumption)⟩))
  · rw [nI_toInt (by omega)] at h1
    rcases (by omega : z2 = 0 ∨ z2 = 1 ∨ z2 = 2) with rfl | rfl | rfl
    · refine ⟨_, 32, rfl, rfl, ?_⟩
      refine w_load (.aload_n 0) 33 (by decide +kernel) rfl rfl ?_
      refine w_getR (k := 2) (r := 78) 36 (by decide +kernel) sh_76 rfl ?_
      refine w_load (.iload 5) 38 (by decide +kernel) rfl rfl ?_
      refine w_pushN 15 40 (by decide +kernel) ?_
      refine w_addN (22 * lv + 15) 41 (by decide +kernel) (by omega) ?_
      refine w_ialdN 42 (by decide +kernel) sh_78 (by omega) (by omega) ?_
      refine w_load (.iload_n 2) 43 (by decide +kernel) rfl rfl ?_
      refine w_callS2 135 2 46 (by decide +kernel) (Nat.le_of_ble_eq_true rfl) rfl rfl (by decide) (by omega) ?_
      refine k_135 hI  (by omega) (fun r4 hr4 => ?_)
      dsimp only [Option.toList, List.cons_append, List.nil_append]
      rcases hr4 with ⟨rfl, hbr4⟩ | ⟨rfl, hbr4⟩
      · skip
        have htr4 := tb_hb (by omega) hbr4
        refine w_ine 53 49 (by decide +kernel) (fun _ => ?_) (fun hz => absurd hz (by decide))
        refine w_pushN 0 54 (by decide +kernel) ?_
        exact w_retZ (by decide +kernel) (Or.inl rfl) (hq _ (Or.inr ⟨rfl, fun hz => by replace hz := (end_0 (by omega)).mp hz; exact tb_no (by assumption) (by rw [← hc.2.1] at hz; exact hz)⟩))
      · skip
        have htr4 := tb_nhb (by omega) hbr4
        refine w_ine 53 49 (by decide +kernel) (fun hz => absurd hz (by decide)) (fun _ => ?_)
        refine w_pushN 1 50 (by decide +kernel) ?_
        refine w_goto 54 (by decide +kernel) ?_
        exact w_retZ (by decide +kernel) (Or.inr rfl) (hq _ (Or.inl ⟨rfl, (end_0 (by omega)).mpr (by rw [← hc.2.1]; assumption)⟩))
    · refine ⟨_, 55, rfl, rfl, ?_⟩
      refine w_load (.aload_n 0) 56 (by decide +kernel) rfl rfl ?_
      refine w_getR (k := 2) (r := 78) 59 (by decide +kernel) sh_76 rfl ?_
      refine w_load (.iload 5) 61 (by decide +kernel) rfl rfl ?_
      refine w_pushN 10 63 (by decide +kernel) ?_
      refine w_addN (22 * lv + 10) 64 (by decide +kernel) (by omega) ?_
      refine w_load (.iload_n 2) 65 (by decide +kernel) rfl rfl ?_
      refine w_addN (22 * lv + 10 + k) 66 (by decide +kernel) (by omega) ?_
      refine w_ialdN 67 (by decide +kernel) sh_78 (by omega) (by omega) ?_
      refine w_load (.iload 4) 69 (by decide +kernel) rfl rfl ?_
      refine w_cne 76 72 (by decide +kernel) (fun h7 => ?_) (fun h7 => ?_)
      · skip
        refine w_pushN 0 77 (by decide +kernel) ?_
        exact w_retZ (by decide +kernel) (Or.inl rfl) (hq _ (Or.inr ⟨rfl, fun hz => by replace hz := (end_1 (by omega)).mp hz; rw [← ((hc.1 k hk).2.2), ← rdC (M := M) (lv := lv) (i := 22 * lv + 10 + k) (j := 10 + k) (by omega)] at hz; exact absurd hz (by assumption)⟩))
      · skip
        refine w_pushN 1 73 (by decide +kernel) ?_
        refine w_goto 77 (by decide +kernel) ?_
        exact w_retZ (by decide +kernel) (Or.inr rfl) (hq _ (Or.inl ⟨rfl, (end_1 (by omega)).mpr (by rw [← ((hc.1 k hk).2.2), ← rdC (M := M) (lv := lv) (i := 22 * lv + 10 + k) (j := 10 + k) (by omega)]; assumption)⟩))
    · refine ⟨_, 78, rfl, rfl, ?_⟩
      refine w_load (.aload_n 0) 79 (by decide +kernel) rfl rfl ?_
      refine w_getR (k := 2) (r := 78) 82 (by decide +kernel) sh_76 rfl ?_
      refine w_load (.iload 5) 84 (by decide +kernel) rfl rfl ?_
      refine w_pushN 5 85 (by decide +kernel) ?_
      refine w_addN (22 * lv + 5) 86 (by decide +kernel) (by omega) ?_
      refine w_load (.iload_n 2) 87 (by decide +kernel) rfl rfl ?_
      refine w_addN (22 * lv + 5 + k) 88 (by decide +kernel) (by omega) ?_
      refine w_ialdN 89 (by decide +kernel) sh_78 (by omega) (by omega) ?_
      refine w_load (.iload 4) 91 (by decide +kernel) rfl rfl ?_
      refine w_clt 98 94 (by decide +kernel) (fun h8 => ?_) (fun h8 => ?_)
      · skip
        refine w_pushN 0 99 (by decide +kernel) ?_
        exact w_retZ (by decide +kernel) (Or.inl rfl) (hq _ (Or.inr ⟨rfl, fun hz => by replace hz := (end_2 (by omega)).mp hz; rw [← ((hc.1 k hk).2.1), ← rdC (M := M) (lv := lv) (i := 22 * lv + 5 + k) (j := 5 + k) (by omega)] at hz; exact Int32.not_lt.mpr hz (by assumption)⟩))
      · skip
        refine w_pushN 1 95 (by decide +kernel) ?_
        refine w_goto 99 (by decide +kernel) ?_
        exact w_retZ (by decide +kernel) (Or.inr rfl) (hq _ (Or.inl ⟨rfl, (end_2 (by omega)).mpr (by rw [← ((hc.1 k hk).2.1), ← rdC (M := M) (lv := lv) (i := 22 * lv + 5 + k) (j := 5 + k) (by omega)]; exact Int32.not_lt.mp (by assumption))⟩))
-- X8_layShortest#s
set_option maxRecDepth 10000 in
theorem s_layShort {d : Nat} {M : Mt} {L : Lt} {Q : Option Value → Mt → Lt → Prop} {n k e : Nat} {c pw : Row} {v : Int32} (hI : Inv M) (hn : n ≤ 5) (en : M 76 0 = nI n) (hc : HE n (lvC M 0) c) (hp : LQ n (M 77) pw) (hw : wedOk n c) (hk : k < n) (he : e ≤ 3) (hd : 3 ≤ d) (hq : ∀ (r : Int32) (N : Mt), St (fun i k => (i = 78 ∧ 22 ≤ k) ∨ i = 83 ∨ i = 84 ∨ (i = 76 ∧ (k = 7 ∨ k = 11))) M N → (lenK n c pw k e v (fun x => x < 64) r) → Q (some (.int r)) N L) : Wp d 171 0 [.ref 76, .int (nI k), .int (nI e), .int v, .null] [] M L Q := by
  refine (show ∀ N : Mt, N = M → St (fun i k => (i = 78 ∧ 22 ≤ k) ∨ i = 83 ∨ i = 84 ∨ (i = 76 ∧ (k = 7 ∨ k = 11))) M N → Wp d 171 0 [.ref 76, .int (nI k), .int (nI e), .int v, .null] [] N L Q from ?_) M rfl (St.rf hI)
  intro N hNM hS
  have kz0 : N (76) 0 = nI n := by rw [hNM]; exact en
  refine w_load (.aload_n 0) 1 (by decide +kernel) rfl rfl ?_
  refine w_pushN 0 2 (by decide +kernel) ?_
  refine w_load (.iload_n 1) 3 (by decide +kernel) rfl rfl ?_
  refine w_load (.iload_n 2) 4 (by decide +kernel) rfl rfl ?_
  refine w_load (.iload_n 3) 5 (by decide +kernel) rfl rfl ?_
  refine w_callV4 169 8 6 8 (by decide +kernel) sh_76 (Nat.le_of_ble_eq_true rfl) rfl rfl rfl rfl (by decide) (by omega) ?_
  refine s_ends8 hS.1 (by omega) (by omega) (by omega) (by omega) (by rw [hNM]; exact hc) (by omega) (fun r1 hr1 => ?_)
  dsimp only [Option.toList, List.cons_append, List.nil_append]
  rcases hr1 with ⟨rfl, henr1⟩ | ⟨rfl, henr1⟩
  · skip
    refine w_ieq 13 11 (by decide +kernel) (fun hz => absurd hz (by decide)) (fun _ => ?_)
    refine w_pushN 0 12 (by decide +kernel) ?_
    exact w_ret (by decide +kernel) (hq _ N hS (Or.inl ⟨henr1, rfl⟩))
  · skip
    refine w_ieq 13 11 (by decide +kernel) (fun _ => ?_) (fun hz => absurd hz (by decide))
    refine w_pushN 0 14 (by decide +kernel) ?_
    refine w_store (ls' := [.ref 76, .int (nI k), .int (nI e), .int v, .int (nI 0)]) (.istore 4) 16 (by decide +kernel) rfl rfl ?_
    have LP_16 : ∀ (kk : Nat) (N_16 : Mt) (g4 : Nat), St (fun i k => (i = 78 ∧ 22 ≤ k) ∨ i = 83 ∨ i = 84 ∨ (i = 76 ∧ (k = 7 ∨ k = 11))) M N_16 → g4 ≤ 64 → (∀ x, x < g4 → ¬ end1 n c pw k e v x) → 64 - g4 < kk → Wp d 171 16 [.ref 76, .int (nI k), .int (nI e), .int v, .int (nI g4)] [] N_16 L Q := by
      intro kk
      induction kk with
      | zero => intro N_16 g4 hS hi0_16 hi1_16 hm_16; exact absurd hm_16 (Nat.not_lt_zero _)
      | succ kk ih_16 =>
        intro N_16 g4 hS hi0_16 hi1_16 hm_16
        have hS0 := hS
        refine w_load (.iload 4) 18 (by decide +kernel) rfl rfl ?_
        refine w_pushN 64 20 (by decide +kernel) ?_
        refine w_cgeN 67 23 (by decide +kernel) (by omega) (by omega) (fun h4 => ?_) (fun h4 => ?_)
        · skip
          refine w_pushN 0 68 (by decide +kernel) ?_
          refine w_store (ls' := [.ref 76, .int (nI k), .int (nI e), .int v, .int (nI 0)]) (.istore 4) 70 (by decide +kernel) rfl rfl ?_
          have LP_70 : ∀ (kk : Nat) (N_70 : Mt) (g4 : Nat), St (fun i k => (i = 78 ∧ 22 ≤ k) ∨ i = 83 ∨ i = 84 ∨ (i = 76 ∧ (k = 7 ∨ k = 11))) M N_70 → g4 ≤ 4096 → (∀ x, x < g4 → ¬ end2 n c pw k e v (x / 64) (x % 64)) → 4096 - g4 < kk → Wp d 171 70 [.ref 76, .int (nI k), .int (nI e), .int v, .int (nI g4)] [] N_70 L Q := by
            intro kk
            induction kk with
            | zero => intro N_70 g4 hS hi0_70 hi1_70 hm_70; exact absurd hm_70 (Nat.not_lt_zero _)
            | succ kk ih_70 =>
              intro N_70 g4 hS hi0_70 hi1_70 hm_70
              have hS0 := hS
              refine w_load (.iload 4) 72 (by decide +kernel) rfl rfl ?_
              refine w_pushN 4096 75 (by decide +kernel) ?_
              refine w_cgeN 136 78 (by decide +kernel) (by omega) (by omega) (fun h5 => ?_) (fun h5 => ?_)
              · skip
                refine w_push (-9) 138 (by decide +kernel) ?_
                exact w_ret (by decide +kernel) (hq _ N_70 hS (Or.inr (Or.inr (Or.inr ⟨henr1, (fun ⟨x, hx, hE⟩ => hi1_16 x (by omega) hE), fun ⟨x, y, hx, hy, hE⟩ => hi1_70 (64 * x + y) (by omega) (by rw [show (64 * x + y) / 64 = x by omega, show (64 * x + y) % 64 = y by omega]; exact hE), rfl⟩))))
              · skip
                refine w_load (.aload_n 0) 79 (by decide +kernel) rfl rfl ?_
                refine w_pushN 0 80 (by decide +kernel) ?_
                refine w_pushN 1 81 (by decide +kernel) ?_
                refine w_callV2 160 8 4 84 (by decide +kernel) sh_76 (Nat.le_of_ble_eq_true rfl) rfl rfl (by decide) (by omega) ?_
                refine s_lay hS.1 (by omega) (by omega) (by omega) (by omega) (fun Nr6 hTr6 hr6 => ?_)
                have kn7 := (hTr6.2 (76) 0 (by (try dsimp only); first | omega | (simp only [Hs, Tl, Sc, isHs, isScr, isTs] at *; omega))).trans ((hS.2 76 0 (by (try dsimp only); first | omega | (simp only [Hs, Tl, Sc, isHs, isScr, isTs] at *; omega))).trans en)
                have hS := hS.tr hTr6 (by intro i k; first | exact rfl | exact fun h => h.elim | omega | (dsimp only; omega) | (simp only [Hs, Tl, Sc, isHs, isScr, isTs] at *; omega))
                have hl1 : HE n (lvC Nr6 1) c := lay_HE hn hr6 (lv_same hn hc (fun k h1 h2 => hS0.2 78 k (by (try dsimp only); first | omega | (simp only [Hs, Tl, Sc, isHs, isScr, isTs] at *; omega))))
                dsimp only [Option.toList, List.nil_append]
                refine w_load (.aload_n 0) 85 (by decide +kernel) rfl rfl ?_
                refine w_pushN 1 86 (by decide +kernel) ?_
                refine w_callV1 158 8 3 89 (by decide +kernel) sh_76 (Nat.le_of_ble_eq_true rfl) rfl (by decide) (by omega) ?_
                refine s_dusk hS.1 (by omega) (by omega) hl1 (by rw [hS.row (x := 77) (fun k => (by (try dsimp only); first | omega | (simp only [Hs, Tl, Sc, isHs, isScr, isTs] at *; omega)))]; exact hp) (by omega) (fun Nr8 hTr8 hr8 => ?_)
                have kn9 := (hTr8.2 (76) 0 (by (try dsimp only); first | omega | (simp only [Hs, Tl, Sc, isHs, isScr, isTs] at *; omega))).trans kn7
                have hS := hS.tr hTr8 (by intro i k; first | exact rfl | exact fun h => h.elim | omega | (dsimp only; omega) | (simp only [Hs, Tl, Sc, isHs, isScr, isTs] at *; omega))
                have sA := hr8
                dsimp only [Option.toList, List.nil_append]
                refine w_load (.aload_n 0) 90 (by decide +kernel) rfl rfl ?_
                refine w_pushN 1 91 (by decide +kernel) ?_
                refine w_load (.iload 4) 93 (by decide +kernel) rfl rfl ?_
                refine w_pushN 64 95 (by decide +kernel) ?_
                refine w_divN (g4 / 64) 96 (by decide +kernel) (by decide) (by decide) (by omega) rfl ?_
                refine w_callV2 157 8 7 99 (by decide +kernel) sh_76 (Nat.le_of_ble_eq_true rfl) rfl rfl (by decide) (by omega) ?_
                refine s_deed (p := 0) hS.1 (by omega) (by omega) kn9 sA hw (by omega) (fun r10 Nr10 hTr10 hr10 => ?_)
                have kn11 := (hTr10.2 (76) 0 (by (try dsimp only); first | omega | (simp only [Hs, Tl, Sc, isHs, isScr, isTs] at *; omega))).trans kn9
                have hS := hS.tr hTr10 (by intro i k; first | exact rfl | exact fun h => h.elim | omega | (dsimp only; omega) | (simp only [Hs, Tl, Sc, isHs, isScr, isTs] at *; omega))
                have sB := (hr10).elim (fun z => z.2.1) (fun z => z.2.1)
                dsimp only [Option.toList, List.cons_append, List.nil_append]
                refine w_pure .pop 100 (by decide +kernel) rfl rfl ?_
                refine w_load (.aload_n 0) 101 (by decide +kernel) rfl rfl ?_
                refine w_pushN 1 102 (by decide +kernel) ?_
                refine w_load (.iload 4) 104 (by decide +kernel) rfl rfl ?_
                refine w_pushN 64 106 (by decide +kernel) ?_
                refine w_remN (g4 % 64) 107 (by decide +kernel) (by decide) (by decide) (by omega) rfl ?_
                refine w_callV2 157 8 7 110 (by decide +kernel) sh_76 (Nat.le_of_ble_eq_true rfl) rfl rfl (by decide) (by omega) ?_
                refine s_deed (p := 1) hS.1 (by omega) (by omega) kn11 sB (wedOk.hear (s := (c, pw, nI 0, nI 0)) hw hn) (by omega) (fun r12 Nr12 hTr12 hr12 => ?_)
                have kn13 := (hTr12.2 (76) 0 (by (try dsimp only); first | omega | (simp only [Hs, Tl, Sc, isHs, isScr, isTs] at *; omega))).trans kn11
                have hS := hS.tr hTr12 (by intro i k; first | exact rfl | exact fun h => h.elim | omega | (dsimp only; omega) | (simp only [Hs, Tl, Sc, isHs, isScr, isTs] at *; omega))
                have sC := (hr12).elim (fun z => z.2.1) (fun z => z.2.1)
                dsimp only [Option.toList, List.cons_append, List.nil_append]
                refine w_pure .pop 111 (by decide +kernel) rfl rfl ?_
                refine w_load (.aload_n 0) 112 (by decide +kernel) rfl rfl ?_
                refine w_pushN 1 113 (by decide +kernel) ?_
                refine w_load (.iload_n 1) 114 (by decide +kernel) rfl rfl ?_
                refine w_load (.iload_n 2) 115 (by decide +kernel) rfl rfl ?_
                refine w_load (.iload_n 3) 116 (by decide +kernel) rfl rfl ?_
                refine w_callV4 169 8 6 119 (by decide +kernel) sh_76 (Nat.le_of_ble_eq_true rfl) rfl rfl rfl rfl (by decide) (by omega) ?_
                refine s_ends8 hS.1 (by omega) (by omega) (by omega) (by omega) sC.1 (by omega) (fun r14 hr14 => ?_)
                dsimp only [Option.toList, List.cons_append, List.nil_append]
                rcases hr14 with ⟨rfl, henr14⟩ | ⟨rfl, henr14⟩
                · skip
                  refine w_ieq 130 122 (by decide +kernel) (fun hz => absurd hz (by decide)) (fun _ => ?_)
                  refine w_load (.aload_n 0) 123 (by decide +kernel) rfl rfl ?_
                  refine w_load (.iload 4) 125 (by decide +kernel) rfl rfl ?_
                  refine w_putE (k := 11) 128 (by decide +kernel) sh_76 rfl hS (rg_76 (by decide)) (by first | exact rfl | omega | (dsimp only; omega) | (simp only [Hs, Tl, Sc, isHs, isScr, isTs] at *; omega)) (fun Nq16 hS hq16 oq16 mq16 => ?_)
                  have kn17 := (oq16 (76) 0 (by first | omega | (simp only [Hs, Tl, Sc, isHs, isScr, isTs] at *; omega))).trans kn13
                  refine w_pushN 2 129 (by decide +kernel) ?_
                  exact w_ret (by decide +kernel) (hq _ Nq16 hS (Or.inr (Or.inr (Or.inl ⟨henr1, (fun ⟨x, hx, hE⟩ => hi1_16 x (by omega) hE), ⟨g4 / 64, g4 % 64, by omega, by omega, by assumption⟩, rfl⟩))))
                · skip
                  refine w_ieq 130 122 (by decide +kernel) (fun _ => ?_) (fun hz => absurd hz (by decide))
                  refine w_iincN (z := 4) (g4 + 1) 133 (by decide +kernel) rfl (Nat.le_of_ble_eq_true rfl) rfl rfl ?_
                  show Wp _ _ _ [.ref 76, .int (nI k), .int (nI e), .int v, .int (nI (g4 + 1))] _ _ _ _
                  refine w_goto 70 (by decide +kernel) ?_
                  exact ih_70 Nr12 (g4 + 1) hS (by first | omega | exact lt_ext hi1_70 (by assumption)) (by first | omega | exact lt_ext hi1_70 (by assumption)) (by omega)
          exact LP_70 _ N_16 0 hS (by first | omega | (intro x hx; omega)) (by first | omega | (intro x hx; omega)) (Nat.lt_succ_self _)
        · skip
          refine w_load (.aload_n 0) 24 (by decide +kernel) rfl rfl ?_
          refine w_pushN 0 25 (by decide +kernel) ?_
          refine w_pushN 1 26 (by decide +kernel) ?_
          refine w_callV2 160 8 4 29 (by decide +kernel) sh_76 (Nat.le_of_ble_eq_true rfl) rfl rfl (by decide) (by omega) ?_
          refine s_lay hS.1 (by omega) (by omega) (by omega) (by omega) (fun Nr19 hTr19 hr19 => ?_)
          have kn20 := (hTr19.2 (76) 0 (by (try dsimp only); first | omega | (simp only [Hs, Tl, Sc, isHs, isScr, isTs] at *; omega))).trans ((hS.2 76 0 (by (try dsimp only); first | omega | (simp only [Hs, Tl, Sc, isHs, isScr, isTs] at *; omega))).trans en)
          have hS := hS.tr hTr19 (by intro i k; first | exact rfl | exact fun h => h.elim | omega | (dsimp only; omega) | (simp only [Hs, Tl, Sc, isHs, isScr, isTs] at *; omega))
          have hl1 : HE n (lvC Nr19 1) c := lay_HE hn hr19 (lv_same hn hc (fun k h1 h2 => hS0.2 78 k (by (try dsimp only); first | omega | (simp only [Hs, Tl, Sc, isHs, isScr, isTs] at *; omega))))
          dsimp only [Option.toList, List.nil_append]
          refine w_load (.aload_n 0) 30 (by decide +kernel) rfl rfl ?_
          refine w_pushN 1 31 (by decide +kernel) ?_
          refine w_callV1 158 8 3 34 (by decide +kernel) sh_76 (Nat.le_of_ble_eq_true rfl) rfl (by decide) (by omega) ?_
          refine s_dusk hS.1 (by omega) (by omega) hl1 (by rw [hS.row (x := 77) (fun k => (by (try dsimp only); first | omega | (simp only [Hs, Tl, Sc, isHs, isScr, isTs] at *; omega)))]; exact hp) (by omega) (fun Nr21 hTr21 hr21 => ?_)
          have kn22 := (hTr21.2 (76) 0 (by (try dsimp only); first | omega | (simp only [Hs, Tl, Sc, isHs, isScr, isTs] at *; omega))).trans kn20
          have hS := hS.tr hTr21 (by intro i k; first | exact rfl | exact fun h => h.elim | omega | (dsimp only; omega) | (simp only [Hs, Tl, Sc, isHs, isScr, isTs] at *; omega))
          have sA := hr21
          dsimp only [Option.toList, List.nil_append]
          refine w_load (.aload_n 0) 35 (by decide +kernel) rfl rfl ?_
          refine w_pushN 1 36 (by decide +kernel) ?_
          refine w_load (.iload 4) 38 (by decide +kernel) rfl rfl ?_
          refine w_callV2 157 8 7 41 (by decide +kernel) sh_76 (Nat.le_of_ble_eq_true rfl) rfl rfl (by decide) (by omega) ?_
          refine s_deed (p := 1) hS.1 (by omega) (by omega) kn22 sA hw (by omega) (fun r23 Nr23 hTr23 hr23 => ?_)
          have kn24 := (hTr23.2 (76) 0 (by (try dsimp only); first | omega | (simp only [Hs, Tl, Sc, isHs, isScr, isTs] at *; omega))).trans kn22
          have hS := hS.tr hTr23 (by intro i k; first | exact rfl | exact fun h => h.elim | omega | (dsimp only; omega) | (simp only [Hs, Tl, Sc, isHs, isScr, isTs] at *; omega))
          have sB := (hr23).elim (fun z => z.2.1) (fun z => z.2.1)
          dsimp only [Option.toList, List.cons_append, List.nil_append]
          refine w_pure .pop 42 (by decide +kernel) rfl rfl ?_
          refine w_load (.aload_n 0) 43 (by decide +kernel) rfl rfl ?_
          refine w_pushN 1 44 (by decide +kernel) ?_
          refine w_load (.iload_n 1) 45 (by decide +kernel) rfl rfl ?_
          refine w_load (.iload_n 2) 46 (by decide +kernel) rfl rfl ?_
          refine w_load (.iload_n 3) 47 (by decide +kernel) rfl rfl ?_
          refine w_callV4 169 8 6 50 (by decide +kernel) sh_76 (Nat.le_of_ble_eq_true rfl) rfl rfl rfl rfl (by decide) (by omega) ?_
          refine s_ends8 hS.1 (by omega) (by omega) (by omega) (by omega) sB.1 (by omega) (fun r25 hr25 => ?_)
          dsimp only [Option.toList, List.cons_append, List.nil_append]
          rcases hr25 with ⟨rfl, henr25⟩ | ⟨rfl, henr25⟩
          · skip
            refine w_ieq 61 53 (by decide +kernel) (fun hz => absurd hz (by decide)) (fun _ => ?_)
            refine w_load (.aload_n 0) 54 (by decide +kernel) rfl rfl ?_
            refine w_load (.iload 4) 56 (by decide +kernel) rfl rfl ?_
            refine w_putE (k := 11) 59 (by decide +kernel) sh_76 rfl hS (rg_76 (by decide)) (by first | exact rfl | omega | (dsimp only; omega) | (simp only [Hs, Tl, Sc, isHs, isScr, isTs] at *; omega)) (fun Nq27 hS hq27 oq27 mq27 => ?_)
            have kn28 := (oq27 (76) 0 (by first | omega | (simp only [Hs, Tl, Sc, isHs, isScr, isTs] at *; omega))).trans kn24
            refine w_pushN 1 60 (by decide +kernel) ?_
            exact w_ret (by decide +kernel) (hq _ Nq27 hS (Or.inr (Or.inl ⟨henr1, ⟨g4, by omega, by assumption⟩, rfl⟩)))
          · skip
            refine w_ieq 61 53 (by decide +kernel) (fun _ => ?_) (fun hz => absurd hz (by decide))
            refine w_iincN (z := 4) (g4 + 1) 64 (by decide +kernel) rfl (Nat.le_of_ble_eq_true rfl) rfl rfl ?_
            show Wp _ _ _ [.ref 76, .int (nI k), .int (nI e), .int v, .int (nI (g4 + 1))] _ _ _ _
            refine w_goto 16 (by decide +kernel) ?_
            exact ih_16 Nr23 (g4 + 1) hS (by first | omega | exact lt_ext hi1_16 (by assumption)) (by first | omega | exact lt_ext hi1_16 (by assumption)) (by omega)
    exact LP_16 _ N 0 hS (by first | omega | (intro x hx; omega)) (by first | omega | (intro x hx; omega)) (Nat.lt_succ_self _)
-- X8_refusedEnd#s
set_option maxRecDepth 10000 in
theorem s_refused8 {d : Nat} {M : Mt} {L : Lt} {Q : Option Value → Mt → Lt → Prop} {n : Nat} {g : Int32} {e : Int32} {v : Int32} (hI : Inv M) (hn : n ≤ 5) (en : M 76 0 = nI n) (hd : 2 ≤ d) (hq : ∀ (r : Int32), ((r = -2 ∧ ¬ endT n e v) ∨ (endT n e v ∧ r = -1 ∧ ¬ (∃ k, k < n ∧ g = nI k)) ∨ (endT n e v ∧ r = 0 ∧ (∃ k, k < n ∧ g = nI k) ∧ ∃ q, q ≤ 3 ∧ e = nI q)) → Q (some (.int r)) M L) : Wp d 170 0 [.ref 76, .int g, .int e, .int v, .null] [] M L Q := by
  refine w_load (.iload_n 2) 1 (by decide +kernel) rfl rfl ?_
  refine w_ieq 51 4 (by decide +kernel) (fun h1 => ?_) (fun h1 => ?_)
  · skip
    refine w_pushN 1 52 (by decide +kernel) ?_
    refine w_goto 56 (by decide +kernel) ?_
    refine w_store (ls' := [.ref 76, .int g, .int e, .int v, .int (nI 1)]) (.istore 4) 58 (by decide +kernel) rfl rfl ?_
    refine w_load (.iload_n 2) 59 (by decide +kernel) rfl rfl ?_
    refine w_pure .i2l 60 (by decide +kernel) rfl rfl ?_
    refine w_pushL (0) 61 (by decide +kernel) ?_
    refine w_pushL (3) 64 (by decide +kernel) ?_
    refine w_callSL 134 6 67 (by decide +kernel) (Nat.le_of_ble_eq_true rfl) rfl (by omega) ?_
    refine k_134 hI  (by omega) (fun r2 hr2 => ?_)
    dsimp only [Option.toList, List.cons_append, List.nil_append]
    rcases hr2 with ⟨rfl, hlok4, hhik4⟩ | ⟨rfl, hnok4⟩
    · skip
      obtain ⟨k4, hlk4, hhk4, rfl⟩ := in_k (lo := 0) (hi := 3) hlok4 hhik4 (by decide)
      refine w_ieq 75 70 (by decide +kernel) (fun hz => absurd hz (by decide)) (fun _ => ?_)
      refine w_load (.iload 4) 72 (by decide +kernel) rfl rfl ?_
      refine w_ine 80 75 (by decide +kernel) (fun _ => ?_) (fun hz => absurd hz (by decide))
      refine w_load (.aload_n 0) 81 (by decide +kernel) rfl rfl ?_
      refine w_load (.iload_n 1) 82 (by decide +kernel) rfl rfl ?_
      refine w_callV1 150 8 2 85 (by decide +kernel) sh_76 (Nat.le_of_ble_eq_true rfl) rfl (by decide) (by omega) ?_
      refine k_150 hI (by omega) en (by omega) (fun r7 hr7 => ?_)
      dsimp only [Option.toList, List.cons_append, List.nil_append]
      rcases hr7 with ⟨rfl, k8, hk8, rfl⟩ | ⟨rfl, hnok8⟩
      · skip
        refine w_ine 92 88 (by decide +kernel) (fun _ => ?_) (fun hz => absurd hz (by decide))
        refine w_pushN 0 93 (by decide +kernel) ?_
        exact w_ret (by decide +kernel) (hq _ (Or.inr (Or.inr ⟨(Or.inl h1), rfl, ⟨_, by assumption, rfl⟩, _, by omega, rfl⟩)))
      · skip
        refine w_ine 92 88 (by decide +kernel) (fun hz => absurd hz (by decide)) (fun _ => ?_)
        refine w_push (-1) 89 (by decide +kernel) ?_
        refine w_goto 93 (by decide +kernel) ?_
        exact w_ret (by decide +kernel) (hq _ (Or.inr (Or.inl ⟨(Or.inl h1), rfl, by assumption⟩)))
    · skip
      refine w_ieq 75 70 (by decide +kernel) (fun _ => ?_) (fun hz => absurd hz (by decide))
      refine w_push (-2) 77 (by decide +kernel) ?_
      refine w_goto 93 (by decide +kernel) ?_
      exact w_ret (by decide +kernel) (hq _ (absurd (show (0 : Int64) ≤ e.toInt64 ∧ e.toInt64 ≤ 3 by rw [h1]; decide) (by assumption)))
  · skip
    refine w_load (.iload_n 2) 5 (by decide +kernel) rfl rfl ?_
    refine w_pushN 1 6 (by decide +kernel) ?_
    refine w_cne 17 9 (by decide +kernel) (fun h12 => ?_) (fun h12 => ?_)
    · skip
      refine w_load (.iload_n 2) 18 (by decide +kernel) rfl rfl ?_
      refine w_pushN 2 19 (by decide +kernel) ?_
      refine w_cne 34 22 (by decide +kernel) (fun h13 => ?_) (fun h13 => ?_)
      · skip
        refine w_load (.iload_n 2) 35 (by decide +kernel) rfl rfl ?_
        refine w_pushN 3 36 (by decide +kernel) ?_
        refine w_cne 55 39 (by decide +kernel) (fun h14 => ?_) (fun h14 => ?_)
        · skip
          refine w_pushN 0 56 (by decide +kernel) ?_
          refine w_store (ls' := [.ref 76, .int g, .int e, .int v, .int (nI 0)]) (.istore 4) 58 (by decide +kernel) rfl rfl ?_
          refine w_load (.iload_n 2) 59 (by decide +kernel) rfl rfl ?_
          refine w_pure .i2l 60 (by decide +kernel) rfl rfl ?_
          refine w_pushL (0) 61 (by decide +kernel) ?_
          refine w_pushL (3) 64 (by decide +kernel) ?_
          refine w_callSL 134 6 67 (by decide +kernel) (Nat.le_of_ble_eq_true rfl) rfl (by omega) ?_
          refine k_134 hI  (by omega) (fun r15 hr15 => ?_)
          dsimp only [Option.toList, List.cons_append, List.nil_append]
          rcases hr15 with ⟨rfl, hlok17, hhik17⟩ | ⟨rfl, hnok17⟩
          · skip
            obtain ⟨k17, hlk17, hhk17, rfl⟩ := in_k (lo := 0) (hi := 3) hlok17 hhik17 (by decide)
            refine w_ieq 75 70 (by decide +kernel) (fun hz => absurd hz (by decide)) (fun _ => ?_)
            refine w_load (.iload 4) 72 (by decide +kernel) rfl rfl ?_
            refine w_ine 80 75 (by decide +kernel) (fun hz => absurd hz (by decide)) (fun _ => ?_)
            refine w_push (-2) 77 (by decide +kernel) ?_
            refine w_goto 93 (by decide +kernel) ?_
            exact w_ret (by decide +kernel) (hq _ (Or.inl ⟨rfl, (endT_no h1 h12 h13 h14)⟩))
          · skip
            refine w_ieq 75 70 (by decide +kernel) (fun _ => ?_) (fun hz => absurd hz (by decide))
            refine w_push (-2) 77 (by decide +kernel) ?_
            refine w_goto 93 (by decide +kernel) ?_
            exact w_ret (by decide +kernel) (hq _ (Or.inl ⟨rfl, (endT_no h1 h12 h13 h14)⟩))
        · skip
          refine w_load (.iload_n 3) 40 (by decide +kernel) rfl rfl ?_
          refine w_pure .i2l 41 (by decide +kernel) rfl rfl ?_
          refine w_pushL (0) 42 (by decide +kernel) ?_
          refine w_pushL (3) 45 (by decide +kernel) ?_
          refine w_callSL 134 6 48 (by decide +kernel) (Nat.le_of_ble_eq_true rfl) rfl (by omega) ?_
          refine k_134 hI  (by omega) (fun r21 hr21 => ?_)
          dsimp only [Option.toList, List.cons_append, List.nil_append]
          rcases hr21 with ⟨rfl, hlok23, hhik23⟩ | ⟨rfl, hnok23⟩
          · skip
            obtain ⟨k23, hlk23, hhk23, rfl⟩ := in_k (lo := 0) (hi := 3) hlok23 hhik23 (by decide)
            refine w_ieq 55 51 (by decide +kernel) (fun hz => absurd hz (by decide)) (fun _ => ?_)
            refine w_pushN 1 52 (by decide +kernel) ?_
            refine w_goto 56 (by decide +kernel) ?_
            refine w_store (ls' := [.ref 76, .int g, .int e, .int (nI k23), .int (nI 1)]) (.istore 4) 58 (by decide +kernel) rfl rfl ?_
            refine w_load (.iload_n 2) 59 (by decide +kernel) rfl rfl ?_
            refine w_pure .i2l 60 (by decide +kernel) rfl rfl ?_
            refine w_pushL (0) 61 (by decide +kernel) ?_
            refine w_pushL (3) 64 (by decide +kernel) ?_
            refine w_callSL 134 6 67 (by decide +kernel) (Nat.le_of_ble_eq_true rfl) rfl (by omega) ?_
            refine k_134 hI  (by omega) (fun r25 hr25 => ?_)
            dsimp only [Option.toList, List.cons_append, List.nil_append]
            rcases hr25 with ⟨rfl, hlok27, hhik27⟩ | ⟨rfl, hnok27⟩
            · skip
              obtain ⟨k27, hlk27, hhk27, rfl⟩ := in_k (lo := 0) (hi := 3) hlok27 hhik27 (by decide)
              refine w_ieq 75 70 (by decide +kernel) (fun hz => absurd hz (by decide)) (fun _ => ?_)
              refine w_load (.iload 4) 72 (by decide +kernel) rfl rfl ?_
              refine w_ine 80 75 (by decide +kernel) (fun _ => ?_) (fun hz => absurd hz (by decide))
              refine w_load (.aload_n 0) 81 (by decide +kernel) rfl rfl ?_
              refine w_load (.iload_n 1) 82 (by decide +kernel) rfl rfl ?_
              refine w_callV1 150 8 2 85 (by decide +kernel) sh_76 (Nat.le_of_ble_eq_true rfl) rfl (by decide) (by omega) ?_
              refine k_150 hI (by omega) en (by omega) (fun r30 hr30 => ?_)
              dsimp only [Option.toList, List.cons_append, List.nil_append]
              rcases hr30 with ⟨rfl, k31, hk31, rfl⟩ | ⟨rfl, hnok31⟩
              · skip
                refine w_ine 92 88 (by decide +kernel) (fun _ => ?_) (fun hz => absurd hz (by decide))
                refine w_pushN 0 93 (by decide +kernel) ?_
                exact w_ret (by decide +kernel) (hq _ (Or.inr (Or.inr ⟨((endT_3 h14).mpr ⟨_, Nat.lt_succ_of_le (by assumption), rfl⟩), rfl, ⟨_, by assumption, rfl⟩, _, by omega, rfl⟩)))
              · skip
                refine w_ine 92 88 (by decide +kernel) (fun hz => absurd hz (by decide)) (fun _ => ?_)
                refine w_push (-1) 89 (by decide +kernel) ?_
                refine w_goto 93 (by decide +kernel) ?_
                exact w_ret (by decide +kernel) (hq _ (Or.inr (Or.inl ⟨((endT_3 h14).mpr ⟨_, Nat.lt_succ_of_le (by assumption), rfl⟩), rfl, by assumption⟩)))
            · skip
              refine w_ieq 75 70 (by decide +kernel) (fun _ => ?_) (fun hz => absurd hz (by decide))
              refine w_push (-2) 77 (by decide +kernel) ?_
              refine w_goto 93 (by decide +kernel) ?_
              exact w_ret (by decide +kernel) (hq _ (absurd (show (0 : Int64) ≤ e.toInt64 ∧ e.toInt64 ≤ 3 by rw [h14]; decide) (by assumption)))
          · skip
            refine w_ieq 55 51 (by decide +kernel) (fun _ => ?_) (fun hz => absurd hz (by decide))
            refine w_pushN 0 56 (by decide +kernel) ?_
            refine w_store (ls' := [.ref 76, .int g, .int e, .int v, .int (nI 0)]) (.istore 4) 58 (by decide +kernel) rfl rfl ?_
            refine w_load (.iload_n 2) 59 (by decide +kernel) rfl rfl ?_
            refine w_pure .i2l 60 (by decide +kernel) rfl rfl ?_
            refine w_pushL (0) 61 (by decide +kernel) ?_
            refine w_pushL (3) 64 (by decide +kernel) ?_
            refine w_callSL 134 6 67 (by decide +kernel) (Nat.le_of_ble_eq_true rfl) rfl (by omega) ?_
            refine k_134 hI  (by omega) (fun r36 hr36 => ?_)
            dsimp only [Option.toList, List.cons_append, List.nil_append]
            rcases hr36 with ⟨rfl, hlok38, hhik38⟩ | ⟨rfl, hnok38⟩
            · skip
              obtain ⟨k38, hlk38, hhk38, rfl⟩ := in_k (lo := 0) (hi := 3) hlok38 hhik38 (by decide)
              refine w_ieq 75 70 (by decide +kernel) (fun hz => absurd hz (by decide)) (fun _ => ?_)
              refine w_load (.iload 4) 72 (by decide +kernel) rfl rfl ?_
              refine w_ine 80 75 (by decide +kernel) (fun hz => absurd hz (by decide)) (fun _ => ?_)
              refine w_push (-2) 77 (by decide +kernel) ?_
              refine w_goto 93 (by decide +kernel) ?_
              exact w_ret (by decide +kernel) (hq _ (Or.inl ⟨rfl, (fun hz => absurd ((endT_3 h14).mp hz) (in_no (by assumption) (by decide)))⟩))
            · skip
              refine w_ieq 75 70 (by decide +kernel) (fun _ => ?_) (fun hz => absurd hz (by decide))
              refine w_push (-2) 77 (by decide +kernel) ?_
              refine w_goto 93 (by decide +kernel) ?_
              exact w_ret (by decide +kernel) (hq _ (Or.inl ⟨rfl, (fun hz => absurd ((endT_3 h14).mp hz) (in_no (by assumption) (by decide)))⟩))
      · skip
        refine w_load (.iload_n 3) 23 (by decide +kernel) rfl rfl ?_
        refine w_pure .i2l 24 (by decide +kernel) rfl rfl ?_
        refine w_pushL (0) 25 (by decide +kernel) ?_
        refine w_pushL (20) 28 (by decide +kernel) ?_
        refine w_callSL 134 6 31 (by decide +kernel) (Nat.le_of_ble_eq_true rfl) rfl (by omega) ?_
        refine k_134 hI  (by omega) (fun r42 hr42 => ?_)
        dsimp only [Option.toList, List.cons_append, List.nil_append]
        rcases hr42 with ⟨rfl, hlok43, hhik43⟩ | ⟨rfl, hnok43⟩
        · skip
          have hink43 := inR_in (lo := 0) (hi := 20) hlok43 hhik43 (by decide) (by decide)
          refine w_ine 51 34 (by decide +kernel) (fun _ => ?_) (fun hz => absurd hz (by decide))
          refine w_pushN 1 52 (by decide +kernel) ?_
          refine w_goto 56 (by decide +kernel) ?_
          refine w_store (ls' := [.ref 76, .int g, .int e, .int v, .int (nI 1)]) (.istore 4) 58 (by decide +kernel) rfl rfl ?_
          refine w_load (.iload_n 2) 59 (by decide +kernel) rfl rfl ?_
          refine w_pure .i2l 60 (by decide +kernel) rfl rfl ?_
          refine w_pushL (0) 61 (by decide +kernel) ?_
          refine w_pushL (3) 64 (by decide +kernel) ?_
          refine w_callSL 134 6 67 (by decide +kernel) (Nat.le_of_ble_eq_true rfl) rfl (by omega) ?_
          refine k_134 hI  (by omega) (fun r45 hr45 => ?_)
          dsimp only [Option.toList, List.cons_append, List.nil_append]
          rcases hr45 with ⟨rfl, hlok47, hhik47⟩ | ⟨rfl, hnok47⟩
          · skip
            obtain ⟨k47, hlk47, hhk47, rfl⟩ := in_k (lo := 0) (hi := 3) hlok47 hhik47 (by decide)
            refine w_ieq 75 70 (by decide +kernel) (fun hz => absurd hz (by decide)) (fun _ => ?_)
            refine w_load (.iload 4) 72 (by decide +kernel) rfl rfl ?_
            refine w_ine 80 75 (by decide +kernel) (fun _ => ?_) (fun hz => absurd hz (by decide))
            refine w_load (.aload_n 0) 81 (by decide +kernel) rfl rfl ?_
            refine w_load (.iload_n 1) 82 (by decide +kernel) rfl rfl ?_
            refine w_callV1 150 8 2 85 (by decide +kernel) sh_76 (Nat.le_of_ble_eq_true rfl) rfl (by decide) (by omega) ?_
            refine k_150 hI (by omega) en (by omega) (fun r50 hr50 => ?_)
            dsimp only [Option.toList, List.cons_append, List.nil_append]
            rcases hr50 with ⟨rfl, k51, hk51, rfl⟩ | ⟨rfl, hnok51⟩
            · skip
              refine w_ine 92 88 (by decide +kernel) (fun _ => ?_) (fun hz => absurd hz (by decide))
              refine w_pushN 0 93 (by decide +kernel) ?_
              exact w_ret (by decide +kernel) (hq _ (Or.inr (Or.inr ⟨((endT_2 h13).mpr (by assumption)), rfl, ⟨_, by assumption, rfl⟩, _, by omega, rfl⟩)))
            · skip
              refine w_ine 92 88 (by decide +kernel) (fun hz => absurd hz (by decide)) (fun _ => ?_)
              refine w_push (-1) 89 (by decide +kernel) ?_
              refine w_goto 93 (by decide +kernel) ?_
              exact w_ret (by decide +kernel) (hq _ (Or.inr (Or.inl ⟨((endT_2 h13).mpr (by assumption)), rfl, by assumption⟩)))
          · skip
            refine w_ieq 75 70 (by decide +kernel) (fun _ => ?_) (fun hz => absurd hz (by decide))
            refine w_push (-2) 77 (by decide +kernel) ?_
            refine w_goto 93 (by decide +kernel) ?_
            exact w_ret (by decide +kernel) (hq _ (absurd (show (0 : Int64) ≤ e.toInt64 ∧ e.toInt64 ≤ 3 by rw [h13]; decide) (by assumption)))
        · skip
          have hink43 := inR_nin (lo := 0) (hi := 20) hnok43 (by decide) (by decide)
          refine w_ine 51 34 (by decide +kernel) (fun hz => absurd hz (by decide)) (fun _ => ?_)
          refine w_load (.iload_n 2) 35 (by decide +kernel) rfl rfl ?_
          refine w_pushN 3 36 (by decide +kernel) ?_
          refine w_cne 55 39 (by decide +kernel) (fun h56 => ?_) (fun h56 => ?_)
          · skip
            refine w_pushN 0 56 (by decide +kernel) ?_
            refine w_store (ls' := [.ref 76, .int g, .int e, .int v, .int (nI 0)]) (.istore 4) 58 (by decide +kernel) rfl rfl ?_
            refine w_load (.iload_n 2) 59 (by decide +kernel) rfl rfl ?_
            refine w_pure .i2l 60 (by decide +kernel) rfl rfl ?_
            refine w_pushL (0) 61 (by decide +kernel) ?_
            refine w_pushL (3) 64 (by decide +kernel) ?_
            refine w_callSL 134 6 67 (by decide +kernel) (Nat.le_of_ble_eq_true rfl) rfl (by omega) ?_
            refine k_134 hI  (by omega) (fun r57 hr57 => ?_)
            dsimp only [Option.toList, List.cons_append, List.nil_append]
            rcases hr57 with ⟨rfl, hlok59, hhik59⟩ | ⟨rfl, hnok59⟩
            · skip
              obtain ⟨k59, hlk59, hhk59, rfl⟩ := in_k (lo := 0) (hi := 3) hlok59 hhik59 (by decide)
              refine w_ieq 75 70 (by decide +kernel) (fun hz => absurd hz (by decide)) (fun _ => ?_)
              refine w_load (.iload 4) 72 (by decide +kernel) rfl rfl ?_
              refine w_ine 80 75 (by decide +kernel) (fun hz => absurd hz (by decide)) (fun _ => ?_)
              refine w_push (-2) 77 (by decide +kernel) ?_
              refine w_goto 93 (by decide +kernel) ?_
              exact w_ret (by decide +kernel) (hq _ (Or.inl ⟨rfl, (fun hz => absurd ((endT_2 h13).mp hz) (by assumption))⟩))
            · skip
              refine w_ieq 75 70 (by decide +kernel) (fun _ => ?_) (fun hz => absurd hz (by decide))
              refine w_push (-2) 77 (by decide +kernel) ?_
              refine w_goto 93 (by decide +kernel) ?_
              exact w_ret (by decide +kernel) (hq _ (Or.inl ⟨rfl, (fun hz => absurd ((endT_2 h13).mp hz) (by assumption))⟩))
          · skip
            exact absurd ((h13).symm.trans h56) (by decide)
    · skip
      refine w_load (.aload_n 0) 10 (by decide +kernel) rfl rfl ?_
      refine w_load (.iload_n 3) 11 (by decide +kernel) rfl rfl ?_
      refine w_callV1 150 8 2 14 (by decide +kernel) sh_76 (Nat.le_of_ble_eq_true rfl) rfl (by decide) (by omega) ?_
      refine k_150 hI (by omega) en (by omega) (fun r63 hr63 => ?_)
      dsimp only [Option.toList, List.cons_append, List.nil_append]
      rcases hr63 with ⟨rfl, k64, hk64, rfl⟩ | ⟨rfl, hnok64⟩
      · skip
        refine w_ine 51 17 (by decide +kernel) (fun _ => ?_) (fun hz => absurd hz (by decide))
        refine w_pushN 1 52 (by decide +kernel) ?_
        refine w_goto 56 (by decide +kernel) ?_
        refine w_store (ls' := [.ref 76, .int g, .int e, .int (nI k64), .int (nI 1)]) (.istore 4) 58 (by decide +kernel) rfl rfl ?_
        refine w_load (.iload_n 2) 59 (by decide +kernel) rfl rfl ?_
        refine w_pure .i2l 60 (by decide +kernel) rfl rfl ?_
        refine w_pushL (0) 61 (by decide +kernel) ?_
        refine w_pushL (3) 64 (by decide +kernel) ?_
        refine w_callSL 134 6 67 (by decide +kernel) (Nat.le_of_ble_eq_true rfl) rfl (by omega) ?_
        refine k_134 hI  (by omega) (fun r66 hr66 => ?_)
        dsimp only [Option.toList, List.cons_append, List.nil_append]
        rcases hr66 with ⟨rfl, hlok68, hhik68⟩ | ⟨rfl, hnok68⟩
        · skip
          obtain ⟨k68, hlk68, hhk68, rfl⟩ := in_k (lo := 0) (hi := 3) hlok68 hhik68 (by decide)
          refine w_ieq 75 70 (by decide +kernel) (fun hz => absurd hz (by decide)) (fun _ => ?_)
          refine w_load (.iload 4) 72 (by decide +kernel) rfl rfl ?_
          refine w_ine 80 75 (by decide +kernel) (fun _ => ?_) (fun hz => absurd hz (by decide))
          refine w_load (.aload_n 0) 81 (by decide +kernel) rfl rfl ?_
          refine w_load (.iload_n 1) 82 (by decide +kernel) rfl rfl ?_
          refine w_callV1 150 8 2 85 (by decide +kernel) sh_76 (Nat.le_of_ble_eq_true rfl) rfl (by decide) (by omega) ?_
          refine k_150 hI (by omega) en (by omega) (fun r71 hr71 => ?_)
          dsimp only [Option.toList, List.cons_append, List.nil_append]
          rcases hr71 with ⟨rfl, k72, hk72, rfl⟩ | ⟨rfl, hnok72⟩
          · skip
            refine w_ine 92 88 (by decide +kernel) (fun _ => ?_) (fun hz => absurd hz (by decide))
            refine w_pushN 0 93 (by decide +kernel) ?_
            exact w_ret (by decide +kernel) (hq _ (Or.inr (Or.inr ⟨((endT_1 h12).mpr ⟨_, by assumption, rfl⟩), rfl, ⟨_, by assumption, rfl⟩, _, by omega, rfl⟩)))
          · skip
            refine w_ine 92 88 (by decide +kernel) (fun hz => absurd hz (by decide)) (fun _ => ?_)
            refine w_push (-1) 89 (by decide +kernel) ?_
            refine w_goto 93 (by decide +kernel) ?_
            exact w_ret (by decide +kernel) (hq _ (Or.inr (Or.inl ⟨((endT_1 h12).mpr ⟨_, by assumption, rfl⟩), rfl, by assumption⟩)))
        · skip
          refine w_ieq 75 70 (by decide +kernel) (fun _ => ?_) (fun hz => absurd hz (by decide))
          refine w_push (-2) 77 (by decide +kernel) ?_
          refine w_goto 93 (by decide +kernel) ?_
          exact w_ret (by decide +kernel) (hq _ (absurd (show (0 : Int64) ≤ e.toInt64 ∧ e.toInt64 ≤ 3 by rw [h12]; decide) (by assumption)))
      · skip
        refine w_ine 51 17 (by decide +kernel) (fun hz => absurd hz (by decide)) (fun _ => ?_)
        refine w_load (.iload_n 2) 18 (by decide +kernel) rfl rfl ?_
        refine w_pushN 2 19 (by decide +kernel) ?_
        refine w_cne 34 22 (by decide +kernel) (fun h77 => ?_) (fun h77 => ?_)
        · skip
          refine w_load (.iload_n 2) 35 (by decide +kernel) rfl rfl ?_
          refine w_pushN 3 36 (by decide +kernel) ?_
          refine w_cne 55 39 (by decide +kernel) (fun h78 => ?_) (fun h78 => ?_)
          · skip
            refine w_pushN 0 56 (by decide +kernel) ?_
            refine w_store (ls' := [.ref 76, .int g, .int e, .int v, .int (nI 0)]) (.istore 4) 58 (by decide +kernel) rfl rfl ?_
            refine w_load (.iload_n 2) 59 (by decide +kernel) rfl rfl ?_
            refine w_pure .i2l 60 (by decide +kernel) rfl rfl ?_
            refine w_pushL (0) 61 (by decide +kernel) ?_
            refine w_pushL (3) 64 (by decide +kernel) ?_
            refine w_callSL 134 6 67 (by decide +kernel) (Nat.le_of_ble_eq_true rfl) rfl (by omega) ?_
            refine k_134 hI  (by omega) (fun r79 hr79 => ?_)
            dsimp only [Option.toList, List.cons_append, List.nil_append]
            rcases hr79 with ⟨rfl, hlok81, hhik81⟩ | ⟨rfl, hnok81⟩
            · skip
              obtain ⟨k81, hlk81, hhk81, rfl⟩ := in_k (lo := 0) (hi := 3) hlok81 hhik81 (by decide)
              refine w_ieq 75 70 (by decide +kernel) (fun hz => absurd hz (by decide)) (fun _ => ?_)
              refine w_load (.iload 4) 72 (by decide +kernel) rfl rfl ?_
              refine w_ine 80 75 (by decide +kernel) (fun hz => absurd hz (by decide)) (fun _ => ?_)
              refine w_push (-2) 77 (by decide +kernel) ?_
              refine w_goto 93 (by decide +kernel) ?_
              exact w_ret (by decide +kernel) (hq _ (Or.inl ⟨rfl, (fun hz => absurd ((endT_1 h12).mp hz) (by assumption))⟩))
            · skip
              refine w_ieq 75 70 (by decide +kernel) (fun _ => ?_) (fun hz => absurd hz (by decide))
              refine w_push (-2) 77 (by decide +kernel) ?_
              refine w_goto 93 (by decide +kernel) ?_
              exact w_ret (by decide +kernel) (hq _ (Or.inl ⟨rfl, (fun hz => absurd ((endT_1 h12).mp hz) (by assumption))⟩))
          · skip
            exact absurd ((h12).symm.trans h78) (by decide)
        · skip
          exact absurd ((h12).symm.trans h77) (by decide)
-- X8_shortest#s
set_option maxRecDepth 10000 in
theorem s_shortest8 {d : Nat} {M : Mt} {L : Lt} {Q : Option Value → Mt → Lt → Prop} {n : Nat} {c pw : Row} {g : Int32} {e : Int32} {v : Int32} (hI : Inv M) (hn : n ≤ 5) (en : M 76 0 = nI n) (hc : HE n (lvC M 0) c) (hp : LQ n (M 77) pw) (hw : wedOk n c) (hd : 4 ≤ d) (hq : ∀ (r : Int32) (N : Mt), St (fun i k => (i = 78 ∧ 22 ≤ k) ∨ i = 83 ∨ i = 84 ∨ (i = 76 ∧ (k = 7 ∨ k = 11))) M N → ((r = -2 ∧ ¬ endT n e v) ∨ (endT n e v ∧ r = -1 ∧ ¬ (∃ k, k < n ∧ g = nI k)) ∨ (endT n e v ∧ ∃ k q, k < n ∧ g = nI k ∧ q ≤ 3 ∧ e = nI q ∧ lenK n c pw k q v (fun x => x < 64) r)) → Q (some (.int r)) N L) : Wp d 172 0 [.ref 76, .int g, .int e, .int v, .null] [] M L Q := by
  refine (show ∀ N : Mt, N = M → St (fun i k => (i = 78 ∧ 22 ≤ k) ∨ i = 83 ∨ i = 84 ∨ (i = 76 ∧ (k = 7 ∨ k = 11))) M N → Wp d 172 0 [.ref 76, .int g, .int e, .int v, .null] [] N L Q from ?_) M rfl (St.rf hI)
  intro N hNM hS
  have kz0 : N (76) 0 = nI n := by rw [hNM]; exact en
  refine w_load (.aload_n 0) 1 (by decide +kernel) rfl rfl ?_
  refine w_load (.iload_n 1) 2 (by decide +kernel) rfl rfl ?_
  refine w_load (.iload_n 2) 3 (by decide +kernel) rfl rfl ?_
  refine w_load (.iload_n 3) 4 (by decide +kernel) rfl rfl ?_
  refine w_callV3 170 8 5 7 (by decide +kernel) sh_76 (Nat.le_of_ble_eq_true rfl) rfl rfl rfl (by decide) (by omega) ?_
  refine s_refused8 hS.1 (by omega) kz0 (by omega) (fun r1 hr1 => ?_)
  dsimp only [Option.toList, List.cons_append, List.nil_append]
  rcases hr1 with ⟨rfl, hnto⟩ | ⟨hto, rfl, hng⟩ | ⟨hto, rfl, ⟨kg, hkg, rfl⟩, ke, hke, rfl⟩
  · skip
    refine w_store (ls' := [.ref 76, .int g, .int e, .int v, .int (-2)]) (.istore 4) 9 (by decide +kernel) rfl rfl ?_
    refine w_load (.iload 4) 11 (by decide +kernel) rfl rfl ?_
    refine w_ieq 19 14 (by decide +kernel) (fun hz => absurd hz (by decide)) (fun _ => ?_)
    refine w_load (.iload 4) 16 (by decide +kernel) rfl rfl ?_
    refine w_goto 26 (by decide +kernel) ?_
    exact w_ret (by decide +kernel) (hq _ N hS (Or.inl ⟨rfl, by assumption⟩))
  · skip
    refine w_store (ls' := [.ref 76, .int g, .int e, .int v, .int (-1)]) (.istore 4) 9 (by decide +kernel) rfl rfl ?_
    refine w_load (.iload 4) 11 (by decide +kernel) rfl rfl ?_
    refine w_ieq 19 14 (by decide +kernel) (fun hz => absurd hz (by decide)) (fun _ => ?_)
    refine w_load (.iload 4) 16 (by decide +kernel) rfl rfl ?_
    refine w_goto 26 (by decide +kernel) ?_
    exact w_ret (by decide +kernel) (hq _ N hS (Or.inr (Or.inl ⟨by assumption, rfl, by assumption⟩)))
  · skip
    refine w_store (ls' := [.ref 76, .int (nI kg), .int (nI ke), .int v, .int (0)]) (.istore 4) 9 (by decide +kernel) rfl rfl ?_
    refine w_load (.iload 4) 11 (by decide +kernel) rfl rfl ?_
    refine w_ieq 19 14 (by decide +kernel) (fun _ => ?_) (fun hz => absurd hz (by decide))
    refine w_load (.aload_n 0) 20 (by decide +kernel) rfl rfl ?_
    refine w_load (.iload_n 1) 21 (by decide +kernel) rfl rfl ?_
    refine w_load (.iload_n 2) 22 (by decide +kernel) rfl rfl ?_
    refine w_load (.iload_n 3) 23 (by decide +kernel) rfl rfl ?_
    refine w_callV3 171 8 5 26 (by decide +kernel) sh_76 (Nat.le_of_ble_eq_true rfl) rfl rfl rfl (by decide) (by omega) ?_
    refine s_layShort hS.1 (by omega) kz0 (by rw [hNM]; exact hc) (by rw [hS.row (x := 77) (fun k => (by (try dsimp only); first | omega | (simp only [Hs, Tl, Sc, isHs, isScr, isTs] at *; omega)))]; exact hp) hw (by omega) (by omega) (by omega) (fun r5 Nr5 hTr5 hr5 => ?_)
    have kn6 := (hTr5.2 (76) 0 (by (try dsimp only); first | omega | (simp only [Hs, Tl, Sc, isHs, isScr, isTs] at *; omega))).trans kz0
    have hS := hS.tr hTr5 (by intro i k; first | exact rfl | exact fun h => h.elim | omega | (dsimp only; omega) | (simp only [Hs, Tl, Sc, isHs, isScr, isTs] at *; omega))
    dsimp only [Option.toList, List.cons_append, List.nil_append]
    exact w_ret (by decide +kernel) (hq _ Nr5 hS (Or.inr (Or.inr ⟨by assumption, _, _, by assumption, rfl, by assumption, rfl, by assumption⟩)))
