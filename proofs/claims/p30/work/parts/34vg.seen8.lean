-- X8_common#s
set_option maxRecDepth 10000 in
theorem s_common {d : Nat} {M : Mt} {L : Lt} {Q : Option Value → Mt → Lt → Prop} {a b : Nat} (hI : Inv M) (ha : a ≤ 30) (hb : 0 < b) (hb2 : b ≤ 30) (hd : 0 ≤ d) (hq : ∀ (r : Int32), (r = nI (Nat.gcd a b)) → Q (some (.int r)) M L) : Wp d 193 0 [.int (nI a), .int (nI b), .null, .null, .null] [] M L Q := by
  refine w_load (.iload_n 0) 1 (by decide +kernel) rfl rfl ?_
  refine w_store (ls' := [.int (nI a), .int (nI b), .int (nI a), .null, .null]) (.istore_n 2) 2 (by decide +kernel) rfl rfl ?_
  refine w_load (.iload_n 1) 3 (by decide +kernel) rfl rfl ?_
  refine w_store (ls' := [.int (nI a), .int (nI b), .int (nI a), .int (nI b), .null]) (.istore_n 3) 4 (by decide +kernel) rfl rfl ?_
  have LP_4 : ∀ (kk : Nat) (g2 : Nat) (g3 : Nat), g2 ≤ 30 → g3 ≤ 30 → Nat.gcd g2 g3 = Nat.gcd a b → g3 < kk → Wp d 193 4 [.int (nI a), .int (nI b), .int (nI g2), .int (nI g3), .null] [] M L Q := by
    intro kk
    induction kk with
    | zero => intro g2 g3 hi0_4 hi1_4 hi2_4 hm_4; exact absurd hm_4 (Nat.not_lt_zero _)
    | succ kk ih_4 =>
      intro g2 g3 hi0_4 hi1_4 hi2_4 hm_4
      refine w_load (.iload_n 3) 5 (by decide +kernel) rfl rfl ?_
      refine w_ieqN 21 8 (by decide +kernel) (by omega) (fun h1 => ?_) (fun h1 => ?_)
      · skip
        refine w_load (.iload_n 2) 22 (by decide +kernel) rfl rfl ?_
        exact w_ret (by decide +kernel) (hq _ (by rw [gc_0 hi2_4 (by omega)]))
      · skip
        refine w_load (.iload_n 2) 9 (by decide +kernel) rfl rfl ?_
        refine w_load (.iload_n 3) 10 (by decide +kernel) rfl rfl ?_
        refine w_remN (g2 % g3) 11 (by decide +kernel) (by omega) (by omega) (by omega) rfl ?_
        refine w_store (ls' := [.int (nI a), .int (nI b), .int (nI g2), .int (nI g3), .int (nI ((g2 % g3)))]) (.istore 4) 13 (by decide +kernel) rfl rfl ?_
        refine w_load (.iload_n 3) 14 (by decide +kernel) rfl rfl ?_
        refine w_store (ls' := [.int (nI a), .int (nI b), .int (nI g3), .int (nI g3), .int (nI ((g2 % g3)))]) (.istore_n 2) 15 (by decide +kernel) rfl rfl ?_
        refine w_load (.iload 4) 17 (by decide +kernel) rfl rfl ?_
        refine w_store (ls' := [.int (nI a), .int (nI b), .int (nI g3), .int (nI ((g2 % g3))), .int (nI ((g2 % g3)))]) (.istore_n 3) 18 (by decide +kernel) rfl rfl ?_
        refine w_goto 4 (by decide +kernel) ?_
        refine Wp.forget (ls := [.int (nI a), .int (nI b), .int (nI g3), .int (nI ((g2 % g3))), .null]) ⟨Or.inl rfl, Or.inl rfl, Or.inl rfl, Or.inl rfl, Or.inr ⟨rfl, rfl⟩, trivial⟩ ?_
        have hml := Nat.mod_lt g2 (show 0 < g3 by omega)
        exact ih_4 g3 ((g2 % g3)) (by first | omega | exact gc_up hi2_4) (by first | omega | exact gc_up hi2_4) (by first | omega | exact gc_up hi2_4) (by omega)
  exact LP_4 _ a b (by first | omega | rfl) (by first | omega | rfl) (by first | omega | rfl) (Nat.lt_succ_self _)
-- X8_isSeen#s
set_option maxRecDepth 10000 in
theorem s_isSeen {d : Nat} {M : Mt} {L : Lt} {Q : Option Value → Mt → Lt → Prop} {n m : Nat} {c pw sg sf : Row} {T : TLs} {t : Nat}  (hI : Inv M) (hn : n ≤ 5) (en : M 76 0 = nI n) (hc : HE n (lvC M 0) c) (hp : LQ n (M 77) pw) (hw : wedOk n c) (hT : tlM T M) (hm : m ≤ 6) (em : M 76 15 = nI m) (hse : ∀ i, i < m → M 86 i = sg i ∧ M 87 i = facM (sf i) ∧ okF (sf i)) (ht : t < 3) (hd : 4 ≤ d) (hq : ∀ (r : Int32) (N : Mt), St (fun i k => (i = 78 ∧ 22 * 1 ≤ k ∧ k < 22 * 1 + 22) ∨ (i = 76 ∧ k = 7)) M N → ((r = 1 ∧ fitB n T pw c m sg sf t = true) ∨ (r = 0 ∧ fitB n T pw c m sg sf t = false)) → Q (some (.int r)) N L) : Wp d 191 0 [.ref 76, .int (nI t), .null, .null, .null, .null, .null] [] M L Q := by
  refine (show ∀ N : Mt, N = M → St (fun i k => (i = 78 ∧ 22 * 1 ≤ k ∧ k < 22 * 1 + 22) ∨ (i = 76 ∧ k = 7)) M N → Wp d 191 0 [.ref 76, .int (nI t), .null, .null, .null, .null, .null] [] N L Q from ?_) M rfl (St.rf hI)
  intro N hNM hS
  have kz0 : N (76) 0 = nI n := by rw [hNM]; exact en
  have kz1 : N (76) 15 = nI m := by rw [hNM]; exact em
  refine w_load (.aload_n 0) 1 (by decide +kernel) rfl rfl ?_
  refine w_pushN 0 2 (by decide +kernel) ?_
  refine w_pushN 1 3 (by decide +kernel) ?_
  refine w_callV2 160 8 4 6 (by decide +kernel) sh_76 (Nat.le_of_ble_eq_true rfl) rfl rfl (by decide) (by omega) ?_
  refine s_lay hS.1 (by omega) (by omega) (by omega) (by omega) (fun Nr1 hTr1 hr1 => ?_)
  have kn2 := (hTr1.2 (76) 0 (by (try dsimp only); first | omega | (simp only [Hs, Tl, Sc, isHs, isScr, isTs] at *; omega))).trans kz0
  have kn3 := (hTr1.2 (76) 15 (by (try dsimp only); first | omega | (simp only [Hs, Tl, Sc, isHs, isScr, isTs] at *; omega))).trans kz1
  have hS := hS.tr hTr1 (by intro i k; first | exact rfl | exact fun h => h.elim | omega | (dsimp only; omega) | (simp only [Hs, Tl, Sc, isHs, isScr, isTs] at *; omega))
  have hl1 : HE n (lvC Nr1 1) c := lay_HE hn hr1 (by rw [hNM]; exact hc)
  dsimp only [Option.toList, List.nil_append]
  refine w_load (.aload_n 0) 7 (by decide +kernel) rfl rfl ?_
  refine w_pushN 1 8 (by decide +kernel) ?_
  refine w_load (.iload_n 1) 9 (by decide +kernel) rfl rfl ?_
  refine w_pushN 0 10 (by decide +kernel) ?_
  refine w_callV3 159 8 7 13 (by decide +kernel) sh_76 (Nat.le_of_ble_eq_true rfl) rfl rfl rfl (by decide) (by omega) ?_
  refine s_tellOnT hS.1 (by omega) (by omega) kn2 (by omega) (hT.keep (hS.row (fun k => (by (try dsimp only); first | omega | (simp only [Hs, Tl, Sc, isHs, isScr, isTs] at *; omega)))) (hS.row (fun k => (by (try dsimp only); first | omega | (simp only [Hs, Tl, Sc, isHs, isScr, isTs] at *; omega))))) hl1 (by rw [hS.row (x := 77) (fun k => (by (try dsimp only); first | omega | (simp only [Hs, Tl, Sc, isHs, isScr, isTs] at *; omega)))]; exact hp) hw (by omega) (fun r4 Nr4 hTr4 hr4 => ?_)
  have kn5 := (hTr4.2 (76) 0 (by (try dsimp only); first | omega | (simp only [Hs, Tl, Sc, isHs, isScr, isTs] at *; omega))).trans kn2
  have kn6 := (hTr4.2 (76) 15 (by (try dsimp only); first | omega | (simp only [Hs, Tl, Sc, isHs, isScr, isTs] at *; omega))).trans kn3
  have hS := hS.tr hTr4 (by intro i k; first | exact rfl | exact fun h => h.elim | omega | (dsimp only; omega) | (simp only [Hs, Tl, Sc, isHs, isScr, isTs] at *; omega))
  obtain ⟨hSt, hrt⟩ := hr4
  dsimp only [Option.toList, List.cons_append, List.nil_append]
  refine w_pure .pop 14 (by decide +kernel) rfl rfl ?_
  refine w_pushN 1 15 (by decide +kernel) ?_
  refine w_store (ls' := [.ref 76, .int (nI t), .int (nI 1), .null, .null, .null, .null]) (.istore_n 2) 16 (by decide +kernel) rfl rfl ?_
  refine w_pushN 0 17 (by decide +kernel) ?_
  refine w_store (ls' := [.ref 76, .int (nI t), .int (nI 1), .int (nI 0), .null, .null, .null]) (.istore_n 3) 18 (by decide +kernel) rfl rfl ?_
  have LP_18 : ∀ (kk : Nat) (N_18 : Mt) (g2 : Nat) (g3 : Nat), St (fun i k => (i = 78 ∧ 22 * 1 ≤ k ∧ k < 22 * 1 + 22) ∨ (i = 76 ∧ k = 7)) M N_18 → g2 ≤ 1 → g3 ≤ 6 → seI n (dawnS (TLw n T pw (nI 0) t c)).1 m sg sf g3 g2 → HE n (lvC N_18 1) (dawnS (TLw n T pw (nI 0) t c)).1 → 6 - g3 < kk → Wp d 191 18 [.ref 76, .int (nI t), .int (nI g2), .int (nI g3), .null, .null, .null] [] N_18 L Q := by
    intro kk
    induction kk with
    | zero => intro N_18 g2 g3 hS hi0_18 hi1_18 hi2_18 hi3_18 hm_18; exact absurd hm_18 (Nat.not_lt_zero _)
    | succ kk ih_18 =>
      intro N_18 g2 g3 hS hi0_18 hi1_18 hi2_18 hi3_18 hm_18
      refine w_load (.iload_n 3) 19 (by decide +kernel) rfl rfl ?_
      refine w_load (.aload_n 0) 20 (by decide +kernel) rfl rfl ?_
      refine w_getK (k := 15) 23 (by decide +kernel) sh_76 rfl ((hS.2 76 15 (by (try dsimp only); first | omega | (simp only [Hs, Tl, Sc, isHs, isScr, isTs] at *; omega))).trans em) ?_
      refine w_cgeN 136 26 (by decide +kernel) (by omega) (by omega) (fun h7 => ?_) (fun h7 => ?_)
      · skip
        have hz01 := z01 hi0_18
        refine w_load (.iload_n 2) 137 (by decide +kernel) rfl rfl ?_
        exact w_retZ (by decide +kernel) (by assumption) (hq _ N_18 hS (hi2_18.fin hn (by omega)))
      · skip
        refine w_load (.aload_n 0) 27 (by decide +kernel) rfl rfl ?_
        refine w_getR (k := 16) (r := 86) 30 (by decide +kernel) sh_76 rfl ?_
        refine w_load (.iload_n 3) 31 (by decide +kernel) rfl rfl ?_
        refine w_ialdC (B := 4) 32 (by decide +kernel) sh_86 (by decide) (by omega) (inv_86 hS.1 _) (fun n8 hn8 en8 => ?_)
        refine w_store (ls' := [.ref 76, .int (nI t), .int (nI g2), .int (nI g3), .int (nI n8), .null, .null]) (.istore 4) 34 (by decide +kernel) rfl rfl ?_
        have h86 : sg g3 = nI n8 := ((hS.2 86 g3 (by (try dsimp only); first | omega | (simp only [Hs, Tl, Sc, isHs, isScr, isTs] at *; omega))).trans (hse g3 (by omega)).1).symm.trans en8
        refine w_load (.aload_n 0) 35 (by decide +kernel) rfl rfl ?_
        refine w_getR (k := 17) (r := 87) 38 (by decide +kernel) sh_76 rfl ?_
        refine w_load (.iload_n 3) 39 (by decide +kernel) rfl rfl ?_
        refine w_ialdN 40 (by decide +kernel) sh_87 (by omega) (by omega) ?_
        refine w_topi (fun v9 ev9 => ?_)
        refine w_store (ls' := [.ref 76, .int (nI t), .int (nI g2), .int (nI g3), .int (nI n8), .int v9, .null]) (.istore 5) 42 (by decide +kernel) rfl rfl ?_
        have ok5 := (hse g3 (by omega)).2.2
        have hv5 : v9 = facM (sf g3) := by rw [ev9, hS.2 87 g3 (by (try dsimp only); first | omega | (simp only [Hs, Tl, Sc, isHs, isScr, isTs] at *; omega))]; exact (hse g3 (by omega)).2.1
        refine w_load (.iload 5) 44 (by decide +kernel) rfl rfl ?_
        refine w_pushN 2 45 (by decide +kernel) ?_
        refine w_cge 81 48 (by decide +kernel) (fun h10 => ?_) (fun h10 => ?_)
        · skip
          refine w_load (.aload_n 0) 82 (by decide +kernel) rfl rfl ?_
          refine w_getR (k := 2) (r := 78) 85 (by decide +kernel) sh_76 rfl ?_
          refine w_pushN 27 87 (by decide +kernel) ?_
          refine w_load (.iload 4) 89 (by decide +kernel) rfl rfl ?_
          refine w_addN (27 + n8) 90 (by decide +kernel) (by omega) ?_
          refine w_ialdN 91 (by decide +kernel) sh_78 (by omega) (by omega) ?_
          refine w_load (.iload 5) 93 (by decide +kernel) rfl rfl ?_
          refine w_pushN 100 95 (by decide +kernel) ?_
          refine w_pure .isub 96 (by decide +kernel) rfl rfl ?_
          refine w_cne 103 99 (by decide +kernel) (fun h11 => ?_) (fun h11 => ?_)
          · skip
            refine w_pushN 0 104 (by decide +kernel) ?_
            refine w_store (ls' := [.ref 76, .int (nI t), .int (nI g2), .int (nI g3), .int (nI n8), .int v9, .int (nI 0)]) (.istore 6) 106 (by decide +kernel) rfl rfl ?_
            have hso : n8 < n → ¬ soP (dawnS (TLw n T pw (nI 0) t c)).1 n8 (sf g3) := fun hlt hz => by first | exact tb_no (by assumption) ((s8_d hi3_18 ok5 hv5 (by assumption) (by assumption)).mp hz) | exact tb_no' (by assumption) ((s8_l hi3_18 ok5 hv5 (by assumption)).mp hz) | exact absurd ((s8_c hi3_18 ok5 hv5 (by assumption) hlt).mp hz) (by assumption)
            refine w_load (.iload_n 2) 107 (by decide +kernel) rfl rfl ?_
            refine w_ieqN 128 110 (by decide +kernel) (by omega) (fun h12 => ?_) (fun h12 => ?_)
            · skip
              refine w_pushN 0 129 (by decide +kernel) ?_
              refine w_store (ls' := [.ref 76, .int (nI t), .int (nI 0), .int (nI g3), .int (nI n8), .int v9, .int (nI 0)]) (.istore_n 2) 130 (by decide +kernel) rfl rfl ?_
              refine w_iincN (z := 3) (g3 + 1) 133 (by decide +kernel) rfl (Nat.le_of_ble_eq_true rfl) rfl rfl ?_
              show Wp _ _ _ [.ref 76, .int (nI t), .int (nI 0), .int (nI (g3 + 1)), .int (nI n8), .int v9, .int (nI 0)] _ _ _ _
              refine w_goto 18 (by decide +kernel) ?_
              refine Wp.forget (ls := [.ref 76, .int (nI t), .int (nI 0), .int (nI (g3 + 1)), .null, .null, .null]) ⟨Or.inl rfl, Or.inl rfl, Or.inl rfl, Or.inl rfl, Or.inr ⟨rfl, rfl⟩, Or.inr ⟨rfl, rfl⟩, Or.inr ⟨rfl, rfl⟩, trivial⟩ ?_
              exact ih_18 N_18 0 (g3 + 1) hS (by first | omega | assumption | exact hi2_18.no (by omega) | exact hi2_18.yes (by omega) (se_no (by rw [h86]; assumption)) | exact hi2_18.yes (by omega) (se_yes (lt_nI (by assumption) (by assumption) (by omega) hn) hn h86 (hso (lt_nI (by assumption) (by assumption) (by omega) hn))) | exact seI.bad (by omega) (se_not (lt_nI (by assumption) (by assumption) (by omega) hn) h86 (hso (lt_nI (by assumption) (by assumption) (by omega) hn)))) (by first | omega | assumption | exact hi2_18.no (by omega) | exact hi2_18.yes (by omega) (se_no (by rw [h86]; assumption)) | exact hi2_18.yes (by omega) (se_yes (lt_nI (by assumption) (by assumption) (by omega) hn) hn h86 (hso (lt_nI (by assumption) (by assumption) (by omega) hn))) | exact seI.bad (by omega) (se_not (lt_nI (by assumption) (by assumption) (by omega) hn) h86 (hso (lt_nI (by assumption) (by assumption) (by omega) hn)))) (by first | omega | assumption | exact hi2_18.no (by omega) | exact hi2_18.yes (by omega) (se_no (by rw [h86]; assumption)) | exact hi2_18.yes (by omega) (se_yes (lt_nI (by assumption) (by assumption) (by omega) hn) hn h86 (hso (lt_nI (by assumption) (by assumption) (by omega) hn))) | exact seI.bad (by omega) (se_not (lt_nI (by assumption) (by assumption) (by omega) hn) h86 (hso (lt_nI (by assumption) (by assumption) (by omega) hn)))) (by first | omega | assumption | exact hi2_18.no (by omega) | exact hi2_18.yes (by omega) (se_no (by rw [h86]; assumption)) | exact hi2_18.yes (by omega) (se_yes (lt_nI (by assumption) (by assumption) (by omega) hn) hn h86 (hso (lt_nI (by assumption) (by assumption) (by omega) hn))) | exact seI.bad (by omega) (se_not (lt_nI (by assumption) (by assumption) (by omega) hn) h86 (hso (lt_nI (by assumption) (by assumption) (by omega) hn)))) (by omega)
            · skip
              refine w_load (.aload_n 0) 111 (by decide +kernel) rfl rfl ?_
              refine w_load (.iload 4) 113 (by decide +kernel) rfl rfl ?_
              refine w_callV1 150 8 2 116 (by decide +kernel) sh_76 (Nat.le_of_ble_eq_true rfl) rfl (by decide) (by omega) ?_
              refine k_150 hS.1 (by omega) ((hS.2 76 0 (by (try dsimp only); first | omega | (simp only [Hs, Tl, Sc, isHs, isScr, isTs] at *; omega))).trans en) (by omega) (fun r13 hr13 => ?_)
              dsimp only [Option.toList, List.cons_append, List.nil_append]
              rcases hr13 with ⟨rfl, k14, hk14, ek14⟩ | ⟨rfl, hnok14⟩
              · skip
                refine w_ieq 124 119 (by decide +kernel) (fun hz => absurd hz (by decide)) (fun _ => ?_)
                refine w_load (.iload 6) 121 (by decide +kernel) rfl rfl ?_
                refine w_ieq 128 124 (by decide +kernel) (fun _ => ?_) (fun hz => absurd hz (by decide))
                refine w_pushN 0 129 (by decide +kernel) ?_
                refine w_store (ls' := [.ref 76, .int (nI t), .int (nI 0), .int (nI g3), .int (nI n8), .int v9, .int (nI 0)]) (.istore_n 2) 130 (by decide +kernel) rfl rfl ?_
                refine w_iincN (z := 3) (g3 + 1) 133 (by decide +kernel) rfl (Nat.le_of_ble_eq_true rfl) rfl rfl ?_
                show Wp _ _ _ [.ref 76, .int (nI t), .int (nI 0), .int (nI (g3 + 1)), .int (nI n8), .int v9, .int (nI 0)] _ _ _ _
                refine w_goto 18 (by decide +kernel) ?_
                refine Wp.forget (ls := [.ref 76, .int (nI t), .int (nI 0), .int (nI (g3 + 1)), .null, .null, .null]) ⟨Or.inl rfl, Or.inl rfl, Or.inl rfl, Or.inl rfl, Or.inr ⟨rfl, rfl⟩, Or.inr ⟨rfl, rfl⟩, Or.inr ⟨rfl, rfl⟩, trivial⟩ ?_
                exact ih_18 N_18 0 (g3 + 1) hS (by first | omega | assumption | exact hi2_18.no (by omega) | exact hi2_18.yes (by omega) (se_no (by rw [h86]; assumption)) | exact hi2_18.yes (by omega) (se_yes (lt_nI (by assumption) (by assumption) (by omega) hn) hn h86 (hso (lt_nI (by assumption) (by assumption) (by omega) hn))) | exact seI.bad (by omega) (se_not (lt_nI (by assumption) (by assumption) (by omega) hn) h86 (hso (lt_nI (by assumption) (by assumption) (by omega) hn)))) (by first | omega | assumption | exact hi2_18.no (by omega) | exact hi2_18.yes (by omega) (se_no (by rw [h86]; assumption)) | exact hi2_18.yes (by omega) (se_yes (lt_nI (by assumption) (by assumption) (by omega) hn) hn h86 (hso (lt_nI (by assumption) (by assumption) (by omega) hn))) | exact seI.bad (by omega) (se_not (lt_nI (by assumption) (by assumption) (by omega) hn) h86 (hso (lt_nI (by assumption) (by assumption) (by omega) hn)))) (by first | omega | assumption | exact hi2_18.no (by omega) | exact hi2_18.yes (by omega) (se_no (by rw [h86]; assumption)) | exact hi2_18.yes (by omega) (se_yes (lt_nI (by assumption) (by assumption) (by omega) hn) hn h86 (hso (lt_nI (by assumption) (by assumption) (by omega) hn))) | exact seI.bad (by omega) (se_not (lt_nI (by assumption) (by assumption) (by omega) hn) h86 (hso (lt_nI (by assumption) (by assumption) (by omega) hn)))) (by first | omega | assumption | exact hi2_18.no (by omega) | exact hi2_18.yes (by omega) (se_no (by rw [h86]; assumption)) | exact hi2_18.yes (by omega) (se_yes (lt_nI (by assumption) (by assumption) (by omega) hn) hn h86 (hso (lt_nI (by assumption) (by assumption) (by omega) hn))) | exact seI.bad (by omega) (se_not (lt_nI (by assumption) (by assumption) (by omega) hn) h86 (hso (lt_nI (by assumption) (by assumption) (by omega) hn)))) (by omega)
              · skip
                refine w_ieq 124 119 (by decide +kernel) (fun _ => ?_) (fun hz => absurd hz (by decide))
                refine w_pushN 1 125 (by decide +kernel) ?_
                refine w_goto 129 (by decide +kernel) ?_
                refine w_store (ls' := [.ref 76, .int (nI t), .int (nI 1), .int (nI g3), .int (nI n8), .int v9, .int (nI 0)]) (.istore_n 2) 130 (by decide +kernel) rfl rfl ?_
                refine w_iincN (z := 3) (g3 + 1) 133 (by decide +kernel) rfl (Nat.le_of_ble_eq_true rfl) rfl rfl ?_
                show Wp _ _ _ [.ref 76, .int (nI t), .int (nI 1), .int (nI (g3 + 1)), .int (nI n8), .int v9, .int (nI 0)] _ _ _ _
                refine w_goto 18 (by decide +kernel) ?_
                refine Wp.forget (ls := [.ref 76, .int (nI t), .int (nI 1), .int (nI (g3 + 1)), .null, .null, .null]) ⟨Or.inl rfl, Or.inl rfl, Or.inl rfl, Or.inl rfl, Or.inr ⟨rfl, rfl⟩, Or.inr ⟨rfl, rfl⟩, Or.inr ⟨rfl, rfl⟩, trivial⟩ ?_
                exact ih_18 N_18 1 (g3 + 1) hS (by first | omega | assumption | exact hi2_18.no (by omega) | exact hi2_18.yes (by omega) (se_no (by rw [h86]; assumption)) | exact hi2_18.yes (by omega) (se_yes (lt_nI (by assumption) (by assumption) (by omega) hn) hn h86 (hso (lt_nI (by assumption) (by assumption) (by omega) hn))) | exact seI.bad (by omega) (se_not (lt_nI (by assumption) (by assumption) (by omega) hn) h86 (hso (lt_nI (by assumption) (by assumption) (by omega) hn)))) (by first | omega | assumption | exact hi2_18.no (by omega) | exact hi2_18.yes (by omega) (se_no (by rw [h86]; assumption)) | exact hi2_18.yes (by omega) (se_yes (lt_nI (by assumption) (by assumption) (by omega) hn) hn h86 (hso (lt_nI (by assumption) (by assumption) (by omega) hn))) | exact seI.bad (by omega) (se_not (lt_nI (by assumption) (by assumption) (by omega) hn) h86 (hso (lt_nI (by assumption) (by assumption) (by omega) hn)))) (by first | omega | assumption | exact hi2_18.no (by omega) | exact hi2_18.yes (by omega) (se_no (by rw [h86]; assumption)) | exact hi2_18.yes (by omega) (se_yes (lt_nI (by assumption) (by assumption) (by omega) hn) hn h86 (hso (lt_nI (by assumption) (by assumption) (by omega) hn))) | exact seI.bad (by omega) (se_not (lt_nI (by assumption) (by assumption) (by omega) hn) h86 (hso (lt_nI (by assumption) (by assumption) (by omega) hn)))) (by first | omega | assumption | exact hi2_18.no (by omega) | exact hi2_18.yes (by omega) (se_no (by rw [h86]; assumption)) | exact hi2_18.yes (by omega) (se_yes (lt_nI (by assumption) (by assumption) (by omega) hn) hn h86 (hso (lt_nI (by assumption) (by assumption) (by omega) hn))) | exact seI.bad (by omega) (se_not (lt_nI (by assumption) (by assumption) (by omega) hn) h86 (hso (lt_nI (by assumption) (by assumption) (by omega) hn)))) (by omega)
          · skip
            refine w_pushN 1 100 (by decide +kernel) ?_
            refine w_goto 104 (by decide +kernel) ?_
            refine w_store (ls' := [.ref 76, .int (nI t), .int (nI g2), .int (nI g3), .int (nI n8), .int v9, .int (nI 1)]) (.istore 6) 106 (by decide +kernel) rfl rfl ?_
            have hso : n8 < n → soP (dawnS (TLw n T pw (nI 0) t c)).1 n8 (sf g3) := fun hlt => by first | exact (s8_d hi3_18 ok5 hv5 (by assumption) (by assumption)).mpr (by assumption) | exact (s8_l hi3_18 ok5 hv5 (by assumption)).mpr (by assumption) | exact (s8_c hi3_18 ok5 hv5 (by assumption) hlt).mpr (by assumption)
            refine w_load (.iload_n 2) 107 (by decide +kernel) rfl rfl ?_
            refine w_ieqN 128 110 (by decide +kernel) (by omega) (fun h18 => ?_) (fun h18 => ?_)
            · skip
              refine w_pushN 0 129 (by decide +kernel) ?_
              refine w_store (ls' := [.ref 76, .int (nI t), .int (nI 0), .int (nI g3), .int (nI n8), .int v9, .int (nI 1)]) (.istore_n 2) 130 (by decide +kernel) rfl rfl ?_
              refine w_iincN (z := 3) (g3 + 1) 133 (by decide +kernel) rfl (Nat.le_of_ble_eq_true rfl) rfl rfl ?_
              show Wp _ _ _ [.ref 76, .int (nI t), .int (nI 0), .int (nI (g3 + 1)), .int (nI n8), .int v9, .int (nI 1)] _ _ _ _
              refine w_goto 18 (by decide +kernel) ?_
              refine Wp.forget (ls := [.ref 76, .int (nI t), .int (nI 0), .int (nI (g3 + 1)), .null, .null, .null]) ⟨Or.inl rfl, Or.inl rfl, Or.inl rfl, Or.inl rfl, Or.inr ⟨rfl, rfl⟩, Or.inr ⟨rfl, rfl⟩, Or.inr ⟨rfl, rfl⟩, trivial⟩ ?_
              exact ih_18 N_18 0 (g3 + 1) hS (by first | omega | assumption | exact hi2_18.no (by omega) | exact hi2_18.yes (by omega) (se_no (by rw [h86]; assumption)) | exact hi2_18.yes (by omega) (se_yes (lt_nI (by assumption) (by assumption) (by omega) hn) hn h86 (hso (lt_nI (by assumption) (by assumption) (by omega) hn))) | exact seI.bad (by omega) (se_not (lt_nI (by assumption) (by assumption) (by omega) hn) h86 (hso (lt_nI (by assumption) (by assumption) (by omega) hn)))) (by first | omega | assumption | exact hi2_18.no (by omega) | exact hi2_18.yes (by omega) (se_no (by rw [h86]; assumption)) | exact hi2_18.yes (by omega) (se_yes (lt_nI (by assumption) (by assumption) (by omega) hn) hn h86 (hso (lt_nI (by assumption) (by assumption) (by omega) hn))) | exact seI.bad (by omega) (se_not (lt_nI (by assumption) (by assumption) (by omega) hn) h86 (hso (lt_nI (by assumption) (by assumption) (by omega) hn)))) (by first | omega | assumption | exact hi2_18.no (by omega) | exact hi2_18.yes (by omega) (se_no (by rw [h86]; assumption)) | exact hi2_18.yes (by omega) (se_yes (lt_nI (by assumption) (by assumption) (by omega) hn) hn h86 (hso (lt_nI (by assumption) (by assumption) (by omega) hn))) | exact seI.bad (by omega) (se_not (lt_nI (by assumption) (by assumption) (by omega) hn) h86 (hso (lt_nI (by assumption) (by assumption) (by omega) hn)))) (by first | omega | assumption | exact hi2_18.no (by omega) | exact hi2_18.yes (by omega) (se_no (by rw [h86]; assumption)) | exact hi2_18.yes (by omega) (se_yes (lt_nI (by assumption) (by assumption) (by omega) hn) hn h86 (hso (lt_nI (by assumption) (by assumption) (by omega) hn))) | exact seI.bad (by omega) (se_not (lt_nI (by assumption) (by assumption) (by omega) hn) h86 (hso (lt_nI (by assumption) (by assumption) (by omega) hn)))) (by omega)
            · skip
              refine w_load (.aload_n 0) 111 (by decide +kernel) rfl rfl ?_
              refine w_load (.iload 4) 113 (by decide +kernel) rfl rfl ?_
              refine w_callV1 150 8 2 116 (by decide +kernel) sh_76 (Nat.le_of_ble_eq_true rfl) rfl (by decide) (by omega) ?_
              refine k_150 hS.1 (by omega) ((hS.2 76 0 (by (try dsimp only); first | omega | (simp only [Hs, Tl, Sc, isHs, isScr, isTs] at *; omega))).trans en) (by omega) (fun r19 hr19 => ?_)
              dsimp only [Option.toList, List.cons_append, List.nil_append]
              rcases hr19 with ⟨rfl, k20, hk20, ek20⟩ | ⟨rfl, hnok20⟩
              · skip
                refine w_ieq 124 119 (by decide +kernel) (fun hz => absurd hz (by decide)) (fun _ => ?_)
                refine w_load (.iload 6) 121 (by decide +kernel) rfl rfl ?_
                refine w_ieq 128 124 (by decide +kernel) (fun hz => absurd hz (by decide)) (fun _ => ?_)
                refine w_pushN 1 125 (by decide +kernel) ?_
                refine w_goto 129 (by decide +kernel) ?_
                refine w_store (ls' := [.ref 76, .int (nI t), .int (nI 1), .int (nI g3), .int (nI n8), .int v9, .int (nI 1)]) (.istore_n 2) 130 (by decide +kernel) rfl rfl ?_
                refine w_iincN (z := 3) (g3 + 1) 133 (by decide +kernel) rfl (Nat.le_of_ble_eq_true rfl) rfl rfl ?_
                show Wp _ _ _ [.ref 76, .int (nI t), .int (nI 1), .int (nI (g3 + 1)), .int (nI n8), .int v9, .int (nI 1)] _ _ _ _
                refine w_goto 18 (by decide +kernel) ?_
                refine Wp.forget (ls := [.ref 76, .int (nI t), .int (nI 1), .int (nI (g3 + 1)), .null, .null, .null]) ⟨Or.inl rfl, Or.inl rfl, Or.inl rfl, Or.inl rfl, Or.inr ⟨rfl, rfl⟩, Or.inr ⟨rfl, rfl⟩, Or.inr ⟨rfl, rfl⟩, trivial⟩ ?_
                exact ih_18 N_18 1 (g3 + 1) hS (by first | omega | assumption | exact hi2_18.no (by omega) | exact hi2_18.yes (by omega) (se_no (by rw [h86]; assumption)) | exact hi2_18.yes (by omega) (se_yes (lt_nI (by assumption) (by assumption) (by omega) hn) hn h86 (hso (lt_nI (by assumption) (by assumption) (by omega) hn))) | exact seI.bad (by omega) (se_not (lt_nI (by assumption) (by assumption) (by omega) hn) h86 (hso (lt_nI (by assumption) (by assumption) (by omega) hn)))) (by first | omega | assumption | exact hi2_18.no (by omega) | exact hi2_18.yes (by omega) (se_no (by rw [h86]; assumption)) | exact hi2_18.yes (by omega) (se_yes (lt_nI (by assumption) (by assumption) (by omega) hn) hn h86 (hso (lt_nI (by assumption) (by assumption) (by omega) hn))) | exact seI.bad (by omega) (se_not (lt_nI (by assumption) (by assumption) (by omega) hn) h86 (hso (lt_nI (by assumption) (by assumption) (by omega) hn)))) (by first | omega | assumption | exact hi2_18.no (by omega) | exact hi2_18.yes (by omega) (se_no (by rw [h86]; assumption)) | exact hi2_18.yes (by omega) (se_yes (lt_nI (by assumption) (by assumption) (by omega) hn) hn h86 (hso (lt_nI (by assumption) (by assumption) (by omega) hn))) | exact seI.bad (by omega) (se_not (lt_nI (by assumption) (by assumption) (by omega) hn) h86 (hso (lt_nI (by assumption) (by assumption) (by omega) hn)))) (by first | omega | assumption | exact hi2_18.no (by omega) | exact hi2_18.yes (by omega) (se_no (by rw [h86]; assumption)) | exact hi2_18.yes (by omega) (se_yes (lt_nI (by assumption) (by assumption) (by omega) hn) hn h86 (hso (lt_nI (by assumption) (by assumption) (by omega) hn))) | exact seI.bad (by omega) (se_not (lt_nI (by assumption) (by assumption) (by omega) hn) h86 (hso (lt_nI (by assumption) (by assumption) (by omega) hn)))) (by omega)
              · skip
                refine w_ieq 124 119 (by decide +kernel) (fun _ => ?_) (fun hz => absurd hz (by decide))
                refine w_pushN 1 125 (by decide +kernel) ?_
                refine w_goto 129 (by decide +kernel) ?_
                refine w_store (ls' := [.ref 76, .int (nI t), .int (nI 1), .int (nI g3), .int (nI n8), .int v9, .int (nI 1)]) (.istore_n 2) 130 (by decide +kernel) rfl rfl ?_
                refine w_iincN (z := 3) (g3 + 1) 133 (by decide +kernel) rfl (Nat.le_of_ble_eq_true rfl) rfl rfl ?_
                show Wp _ _ _ [.ref 76, .int (nI t), .int (nI 1), .int (nI (g3 + 1)), .int (nI n8), .int v9, .int (nI 1)] _ _ _ _
                refine w_goto 18 (by decide +kernel) ?_
                refine Wp.forget (ls := [.ref 76, .int (nI t), .int (nI 1), .int (nI (g3 + 1)), .null, .null, .null]) ⟨Or.inl rfl, Or.inl rfl, Or.inl rfl, Or.inl rfl, Or.inr ⟨rfl, rfl⟩, Or.inr ⟨rfl, rfl⟩, Or.inr ⟨rfl, rfl⟩, trivial⟩ ?_
                exact ih_18 N_18 1 (g3 + 1) hS (by first | omega | assumption | exact hi2_18.no (by omega) | exact hi2_18.yes (by omega) (se_no (by rw [h86]; assumption)) | exact hi2_18.yes (by omega) (se_yes (lt_nI (by assumption) (by assumption) (by omega) hn) hn h86 (hso (lt_nI (by assumption) (by assumption) (by omega) hn))) | exact seI.bad (by omega) (se_not (lt_nI (by assumption) (by assumption) (by omega) hn) h86 (hso (lt_nI (by assumption) (by assumption) (by omega) hn)))) (by first | omega | assumption | exact hi2_18.no (by omega) | exact hi2_18.yes (by omega) (se_no (by rw [h86]; assumption)) | exact hi2_18.yes (by omega) (se_yes (lt_nI (by assumption) (by assumption) (by omega) hn) hn h86 (hso (lt_nI (by assumption) (by assumption) (by omega) hn))) | exact seI.bad (by omega) (se_not (lt_nI (by assumption) (by assumption) (by omega) hn) h86 (hso (lt_nI (by assumption) (by assumption) (by omega) hn)))) (by first | omega | assumption | exact hi2_18.no (by omega) | exact hi2_18.yes (by omega) (se_no (by rw [h86]; assumption)) | exact hi2_18.yes (by omega) (se_yes (lt_nI (by assumption) (by assumption) (by omega) hn) hn h86 (hso (lt_nI (by assumption) (by assumption) (by omega) hn))) | exact seI.bad (by omega) (se_not (lt_nI (by assumption) (by assumption) (by omega) hn) h86 (hso (lt_nI (by assumption) (by assumption) (by omega) hn)))) (by first | omega | assumption | exact hi2_18.no (by omega) | exact hi2_18.yes (by omega) (se_no (by rw [h86]; assumption)) | exact hi2_18.yes (by omega) (se_yes (lt_nI (by assumption) (by assumption) (by omega) hn) hn h86 (hso (lt_nI (by assumption) (by assumption) (by omega) hn))) | exact seI.bad (by omega) (se_not (lt_nI (by assumption) (by assumption) (by omega) hn) h86 (hso (lt_nI (by assumption) (by assumption) (by omega) hn)))) (by omega)
        · skip
          refine w_load (.aload_n 0) 49 (by decide +kernel) rfl rfl ?_
          refine w_getR (k := 2) (r := 78) 52 (by decide +kernel) sh_76 rfl ?_
          refine w_pushN 37 54 (by decide +kernel) ?_
          refine w_ialdN 55 (by decide +kernel) sh_78 (by omega) (by omega) ?_
          refine w_load (.iload 4) 57 (by decide +kernel) rfl rfl ?_
          refine w_callS2 135 2 60 (by decide +kernel) (Nat.le_of_ble_eq_true rfl) rfl rfl (by decide) (by omega) ?_
          refine k_135 hS.1  (by omega) (fun r24 hr24 => ?_)
          dsimp only [Option.toList, List.cons_append, List.nil_append]
          rcases hr24 with ⟨rfl, hbr24⟩ | ⟨rfl, hbr24⟩
          · skip
            have htr24 := tb_hb (by omega) hbr24
            refine w_load (.iload 5) 62 (by decide +kernel) rfl rfl ?_
            refine w_ine 69 65 (by decide +kernel) (fun h25 => ?_) (fun h25 => ?_)
            · skip
              refine w_pushN 0 70 (by decide +kernel) ?_
              refine w_cne 77 73 (by decide +kernel) (fun _ => ?_) (fun hz => absurd hz (by decide))
              refine w_pushN 0 78 (by decide +kernel) ?_
              refine w_goto 104 (by decide +kernel) ?_
              refine w_store (ls' := [.ref 76, .int (nI t), .int (nI g2), .int (nI g3), .int (nI n8), .int v9, .int (nI 0)]) (.istore 6) 106 (by decide +kernel) rfl rfl ?_
              have hso : n8 < n → ¬ soP (dawnS (TLw n T pw (nI 0) t c)).1 n8 (sf g3) := fun hlt hz => by first | exact tb_no (by assumption) ((s8_d hi3_18 ok5 hv5 (by assumption) (by assumption)).mp hz) | exact tb_no' (by assumption) ((s8_l hi3_18 ok5 hv5 (by assumption)).mp hz) | exact absurd ((s8_c hi3_18 ok5 hv5 (by assumption) hlt).mp hz) (by assumption)
              refine w_load (.iload_n 2) 107 (by decide +kernel) rfl rfl ?_
              refine w_ieqN 128 110 (by decide +kernel) (by omega) (fun h27 => ?_) (fun h27 => ?_)
              · skip
                refine w_pushN 0 129 (by decide +kernel) ?_
                refine w_store (ls' := [.ref 76, .int (nI t), .int (nI 0), .int (nI g3), .int (nI n8), .int v9, .int (nI 0)]) (.istore_n 2) 130 (by decide +kernel) rfl rfl ?_
                refine w_iincN (z := 3) (g3 + 1) 133 (by decide +kernel) rfl (Nat.le_of_ble_eq_true rfl) rfl rfl ?_
                show Wp _ _ _ [.ref 76, .int (nI t), .int (nI 0), .int (nI (g3 + 1)), .int (nI n8), .int v9, .int (nI 0)] _ _ _ _
                refine w_goto 18 (by decide +kernel) ?_
                refine Wp.forget (ls := [.ref 76, .int (nI t), .int (nI 0), .int (nI (g3 + 1)), .null, .null, .null]) ⟨Or.inl rfl, Or.inl rfl, Or.inl rfl, Or.inl rfl, Or.inr ⟨rfl, rfl⟩, Or.inr ⟨rfl, rfl⟩, Or.inr ⟨rfl, rfl⟩, trivial⟩ ?_
                exact ih_18 N_18 0 (g3 + 1) hS (by first | omega | assumption | exact hi2_18.no (by omega) | exact hi2_18.yes (by omega) (se_no (by rw [h86]; assumption)) | exact hi2_18.yes (by omega) (se_yes (lt_nI (by assumption) (by assumption) (by omega) hn) hn h86 (hso (lt_nI (by assumption) (by assumption) (by omega) hn))) | exact seI.bad (by omega) (se_not (lt_nI (by assumption) (by assumption) (by omega) hn) h86 (hso (lt_nI (by assumption) (by assumption) (by omega) hn)))) (by first | omega | assumption | exact hi2_18.no (by omega) | exact hi2_18.yes (by omega) (se_no (by rw [h86]; assumption)) | exact hi2_18.yes (by omega) (se_yes (lt_nI (by assumption) (by assumption) (by omega) hn) hn h86 (hso (lt_nI (by assumption) (by assumption) (by omega) hn))) | exact seI.bad (by omega) (se_not (lt_nI (by assumption) (by assumption) (by omega) hn) h86 (hso (lt_nI (by assumption) (by assumption) (by omega) hn)))) (by first | omega | assumption | exact hi2_18.no (by omega) | exact hi2_18.yes (by omega) (se_no (by rw [h86]; assumption)) | exact hi2_18.yes (by omega) (se_yes (lt_nI (by assumption) (by assumption) (by omega) hn) hn h86 (hso (lt_nI (by assumption) (by assumption) (by omega) hn))) | exact seI.bad (by omega) (se_not (lt_nI (by assumption) (by assumption) (by omega) hn) h86 (hso (lt_nI (by assumption) (by assumption) (by omega) hn)))) (by first | omega | assumption | exact hi2_18.no (by omega) | exact hi2_18.yes (by omega) (se_no (by rw [h86]; assumption)) | exact hi2_18.yes (by omega) (se_yes (lt_nI (by assumption) (by assumption) (by omega) hn) hn h86 (hso (lt_nI (by assumption) (by assumption) (by omega) hn))) | exact seI.bad (by omega) (se_not (lt_nI (by assumption) (by assumption) (by omega) hn) h86 (hso (lt_nI (by assumption) (by assumption) (by omega) hn)))) (by omega)
              · skip
                refine w_load (.aload_n 0) 111 (by decide +kernel) rfl rfl ?_
                refine w_load (.iload 4) 113 (by decide +kernel) rfl rfl ?_
                refine w_callV1 150 8 2 116 (by decide +kernel) sh_76 (Nat.le_of_ble_eq_true rfl) rfl (by decide) (by omega) ?_
                refine k_150 hS.1 (by omega) ((hS.2 76 0 (by (try dsimp only); first | omega | (simp only [Hs, Tl, Sc, isHs, isScr, isTs] at *; omega))).trans en) (by omega) (fun r28 hr28 => ?_)
                dsimp only [Option.toList, List.cons_append, List.nil_append]
                rcases hr28 with ⟨rfl, k29, hk29, ek29⟩ | ⟨rfl, hnok29⟩
                · skip
                  refine w_ieq 124 119 (by decide +kernel) (fun hz => absurd hz (by decide)) (fun _ => ?_)
                  refine w_load (.iload 6) 121 (by decide +kernel) rfl rfl ?_
                  refine w_ieq 128 124 (by decide +kernel) (fun _ => ?_) (fun hz => absurd hz (by decide))
                  refine w_pushN 0 129 (by decide +kernel) ?_
                  refine w_store (ls' := [.ref 76, .int (nI t), .int (nI 0), .int (nI g3), .int (nI n8), .int v9, .int (nI 0)]) (.istore_n 2) 130 (by decide +kernel) rfl rfl ?_
                  refine w_iincN (z := 3) (g3 + 1) 133 (by decide +kernel) rfl (Nat.le_of_ble_eq_true rfl) rfl rfl ?_
                  show Wp _ _ _ [.ref 76, .int (nI t), .int (nI 0), .int (nI (g3 + 1)), .int (nI n8), .int v9, .int (nI 0)] _ _ _ _
                  refine w_goto 18 (by decide +kernel) ?_
                  refine Wp.forget (ls := [.ref 76, .int (nI t), .int (nI 0), .int (nI (g3 + 1)), .null, .null, .null]) ⟨Or.inl rfl, Or.inl rfl, Or.inl rfl, Or.inl rfl, Or.inr ⟨rfl, rfl⟩, Or.inr ⟨rfl, rfl⟩, Or.inr ⟨rfl, rfl⟩, trivial⟩ ?_
                  exact ih_18 N_18 0 (g3 + 1) hS (by first | omega | assumption | exact hi2_18.no (by omega) | exact hi2_18.yes (by omega) (se_no (by rw [h86]; assumption)) | exact hi2_18.yes (by omega) (se_yes (lt_nI (by assumption) (by assumption) (by omega) hn) hn h86 (hso (lt_nI (by assumption) (by assumption) (by omega) hn))) | exact seI.bad (by omega) (se_not (lt_nI (by assumption) (by assumption) (by omega) hn) h86 (hso (lt_nI (by assumption) (by assumption) (by omega) hn)))) (by first | omega | assumption | exact hi2_18.no (by omega) | exact hi2_18.yes (by omega) (se_no (by rw [h86]; assumption)) | exact hi2_18.yes (by omega) (se_yes (lt_nI (by assumption) (by assumption) (by omega) hn) hn h86 (hso (lt_nI (by assumption) (by assumption) (by omega) hn))) | exact seI.bad (by omega) (se_not (lt_nI (by assumption) (by assumption) (by omega) hn) h86 (hso (lt_nI (by assumption) (by assumption) (by omega) hn)))) (by first | omega | assumption | exact hi2_18.no (by omega) | exact hi2_18.yes (by omega) (se_no (by rw [h86]; assumption)) | exact hi2_18.yes (by omega) (se_yes (lt_nI (by assumption) (by assumption) (by omega) hn) hn h86 (hso (lt_nI (by assumption) (by assumption) (by omega) hn))) | exact seI.bad (by omega) (se_not (lt_nI (by assumption) (by assumption) (by omega) hn) h86 (hso (lt_nI (by assumption) (by assumption) (by omega) hn)))) (by first | omega | assumption | exact hi2_18.no (by omega) | exact hi2_18.yes (by omega) (se_no (by rw [h86]; assumption)) | exact hi2_18.yes (by omega) (se_yes (lt_nI (by assumption) (by assumption) (by omega) hn) hn h86 (hso (lt_nI (by assumption) (by assumption) (by omega) hn))) | exact seI.bad (by omega) (se_not (lt_nI (by assumption) (by assumption) (by omega) hn) h86 (hso (lt_nI (by assumption) (by assumption) (by omega) hn)))) (by omega)
                · skip
                  refine w_ieq 124 119 (by decide +kernel) (fun _ => ?_) (fun hz => absurd hz (by decide))
                  refine w_pushN 1 125 (by decide +kernel) ?_
                  refine w_goto 129 (by decide +kernel) ?_
                  refine w_store (ls' := [.ref 76, .int (nI t), .int (nI 1), .int (nI g3), .int (nI n8), .int v9, .int (nI 0)]) (.istore_n 2) 130 (by decide +kernel) rfl rfl ?_
                  refine w_iincN (z := 3) (g3 + 1) 133 (by decide +kernel) rfl (Nat.le_of_ble_eq_true rfl) rfl rfl ?_
                  show Wp _ _ _ [.ref 76, .int (nI t), .int (nI 1), .int (nI (g3 + 1)), .int (nI n8), .int v9, .int (nI 0)] _ _ _ _
                  refine w_goto 18 (by decide +kernel) ?_
                  refine Wp.forget (ls := [.ref 76, .int (nI t), .int (nI 1), .int (nI (g3 + 1)), .null, .null, .null]) ⟨Or.inl rfl, Or.inl rfl, Or.inl rfl, Or.inl rfl, Or.inr ⟨rfl, rfl⟩, Or.inr ⟨rfl, rfl⟩, Or.inr ⟨rfl, rfl⟩, trivial⟩ ?_
                  exact ih_18 N_18 1 (g3 + 1) hS (by first | omega | assumption | exact hi2_18.no (by omega) | exact hi2_18.yes (by omega) (se_no (by rw [h86]; assumption)) | exact hi2_18.yes (by omega) (se_yes (lt_nI (by assumption) (by assumption) (by omega) hn) hn h86 (hso (lt_nI (by assumption) (by assumption) (by omega) hn))) | exact seI.bad (by omega) (se_not (lt_nI (by assumption) (by assumption) (by omega) hn) h86 (hso (lt_nI (by assumption) (by assumption) (by omega) hn)))) (by first | omega | assumption | exact hi2_18.no (by omega) | exact hi2_18.yes (by omega) (se_no (by rw [h86]; assumption)) | exact hi2_18.yes (by omega) (se_yes (lt_nI (by assumption) (by assumption) (by omega) hn) hn h86 (hso (lt_nI (by assumption) (by assumption) (by omega) hn))) | exact seI.bad (by omega) (se_not (lt_nI (by assumption) (by assumption) (by omega) hn) h86 (hso (lt_nI (by assumption) (by assumption) (by omega) hn)))) (by first | omega | assumption | exact hi2_18.no (by omega) | exact hi2_18.yes (by omega) (se_no (by rw [h86]; assumption)) | exact hi2_18.yes (by omega) (se_yes (lt_nI (by assumption) (by assumption) (by omega) hn) hn h86 (hso (lt_nI (by assumption) (by assumption) (by omega) hn))) | exact seI.bad (by omega) (se_not (lt_nI (by assumption) (by assumption) (by omega) hn) h86 (hso (lt_nI (by assumption) (by assumption) (by omega) hn)))) (by first | omega | assumption | exact hi2_18.no (by omega) | exact hi2_18.yes (by omega) (se_no (by rw [h86]; assumption)) | exact hi2_18.yes (by omega) (se_yes (lt_nI (by assumption) (by assumption) (by omega) hn) hn h86 (hso (lt_nI (by assumption) (by assumption) (by omega) hn))) | exact seI.bad (by omega) (se_not (lt_nI (by assumption) (by assumption) (by omega) hn) h86 (hso (lt_nI (by assumption) (by assumption) (by omega) hn)))) (by omega)
            · skip
              refine w_pushN 1 66 (by decide +kernel) ?_
              refine w_goto 70 (by decide +kernel) ?_
              refine w_cne 77 73 (by decide +kernel) (fun hz => absurd hz (by decide)) (fun _ => ?_)
              refine w_pushN 1 74 (by decide +kernel) ?_
              refine w_goto 104 (by decide +kernel) ?_
              refine w_store (ls' := [.ref 76, .int (nI t), .int (nI g2), .int (nI g3), .int (nI n8), .int v9, .int (nI 1)]) (.istore 6) 106 (by decide +kernel) rfl rfl ?_
              have hso : n8 < n → soP (dawnS (TLw n T pw (nI 0) t c)).1 n8 (sf g3) := fun hlt => by first | exact (s8_d hi3_18 ok5 hv5 (by assumption) (by assumption)).mpr (by assumption) | exact (s8_l hi3_18 ok5 hv5 (by assumption)).mpr (by assumption) | exact (s8_c hi3_18 ok5 hv5 (by assumption) hlt).mpr (by assumption)
              refine w_load (.iload_n 2) 107 (by decide +kernel) rfl rfl ?_
              refine w_ieqN 128 110 (by decide +kernel) (by omega) (fun h34 => ?_) (fun h34 => ?_)
              · skip
                refine w_pushN 0 129 (by decide +kernel) ?_
                refine w_store (ls' := [.ref 76, .int (nI t), .int (nI 0), .int (nI g3), .int (nI n8), .int v9, .int (nI 1)]) (.istore_n 2) 130 (by decide +kernel) rfl rfl ?_
                refine w_iincN (z := 3) (g3 + 1) 133 (by decide +kernel) rfl (Nat.le_of_ble_eq_true rfl) rfl rfl ?_
                show Wp _ _ _ [.ref 76, .int (nI t), .int (nI 0), .int (nI (g3 + 1)), .int (nI n8), .int v9, .int (nI 1)] _ _ _ _
                refine w_goto 18 (by decide +kernel) ?_
                refine Wp.forget (ls := [.ref 76, .int (nI t), .int (nI 0), .int (nI (g3 + 1)), .null, .null, .null]) ⟨Or.inl rfl, Or.inl rfl, Or.inl rfl, Or.inl rfl, Or.inr ⟨rfl, rfl⟩, Or.inr ⟨rfl, rfl⟩, Or.inr ⟨rfl, rfl⟩, trivial⟩ ?_
                exact ih_18 N_18 0 (g3 + 1) hS (by first | omega | assumption | exact hi2_18.no (by omega) | exact hi2_18.yes (by omega) (se_no (by rw [h86]; assumption)) | exact hi2_18.yes (by omega) (se_yes (lt_nI (by assumption) (by assumption) (by omega) hn) hn h86 (hso (lt_nI (by assumption) (by assumption) (by omega) hn))) | exact seI.bad (by omega) (se_not (lt_nI (by assumption) (by assumption) (by omega) hn) h86 (hso (lt_nI (by assumption) (by assumption) (by omega) hn)))) (by first | omega | assumption | exact hi2_18.no (by omega) | exact hi2_18.yes (by omega) (se_no (by rw [h86]; assumption)) | exact hi2_18.yes (by omega) (se_yes (lt_nI (by assumption) (by assumption) (by omega) hn) hn h86 (hso (lt_nI (by assumption) (by assumption) (by omega) hn))) | exact seI.bad (by omega) (se_not (lt_nI (by assumption) (by assumption) (by omega) hn) h86 (hso (lt_nI (by assumption) (by assumption) (by omega) hn)))) (by first | omega | assumption | exact hi2_18.no (by omega) | exact hi2_18.yes (by omega) (se_no (by rw [h86]; assumption)) | exact hi2_18.yes (by omega) (se_yes (lt_nI (by assumption) (by assumption) (by omega) hn) hn h86 (hso (lt_nI (by assumption) (by assumption) (by omega) hn))) | exact seI.bad (by omega) (se_not (lt_nI (by assumption) (by assumption) (by omega) hn) h86 (hso (lt_nI (by assumption) (by assumption) (by omega) hn)))) (by first | omega | assumption | exact hi2_18.no (by omega) | exact hi2_18.yes (by omega) (se_no (by rw [h86]; assumption)) | exact hi2_18.yes (by omega) (se_yes (lt_nI (by assumption) (by assumption) (by omega) hn) hn h86 (hso (lt_nI (by assumption) (by assumption) (by omega) hn))) | exact seI.bad (by omega) (se_not (lt_nI (by assumption) (by assumption) (by omega) hn) h86 (hso (lt_nI (by assumption) (by assumption) (by omega) hn)))) (by omega)
              · skip
                refine w_load (.aload_n 0) 111 (by decide +kernel) rfl rfl ?_
                refine w_load (.iload 4) 113 (by decide +kernel) rfl rfl ?_
                refine w_callV1 150 8 2 116 (by decide +kernel) sh_76 (Nat.le_of_ble_eq_true rfl) rfl (by decide) (by omega) ?_
                refine k_150 hS.1 (by omega) ((hS.2 76 0 (by (try dsimp only); first | omega | (simp only [Hs, Tl, Sc, isHs, isScr, isTs] at *; omega))).trans en) (by omega) (fun r35 hr35 => ?_)
                dsimp only [Option.toList, List.cons_append, List.nil_append]
                rcases hr35 with ⟨rfl, k36, hk36, ek36⟩ | ⟨rfl, hnok36⟩
                · skip
                  refine w_ieq 124 119 (by decide +kernel) (fun hz => absurd hz (by decide)) (fun _ => ?_)
                  refine w_load (.iload 6) 121 (by decide +kernel) rfl rfl ?_
                  refine w_ieq 128 124 (by decide +kernel) (fun hz => absurd hz (by decide)) (fun _ => ?_)
                  refine w_pushN 1 125 (by decide +kernel) ?_
                  refine w_goto 129 (by decide +kernel) ?_
                  refine w_store (ls' := [.ref 76, .int (nI t), .int (nI 1), .int (nI g3), .int (nI n8), .int v9, .int (nI 1)]) (.istore_n 2) 130 (by decide +kernel) rfl rfl ?_
                  refine w_iincN (z := 3) (g3 + 1) 133 (by decide +kernel) rfl (Nat.le_of_ble_eq_true rfl) rfl rfl ?_
                  show Wp _ _ _ [.ref 76, .int (nI t), .int (nI 1), .int (nI (g3 + 1)), .int (nI n8), .int v9, .int (nI 1)] _ _ _ _
                  refine w_goto 18 (by decide +kernel) ?_
                  refine Wp.forget (ls := [.ref 76, .int (nI t), .int (nI 1), .int (nI (g3 + 1)), .null, .null, .null]) ⟨Or.inl rfl, Or.inl rfl, Or.inl rfl, Or.inl rfl, Or.inr ⟨rfl, rfl⟩, Or.inr ⟨rfl, rfl⟩, Or.inr ⟨rfl, rfl⟩, trivial⟩ ?_
                  exact ih_18 N_18 1 (g3 + 1) hS (by first | omega | assumption | exact hi2_18.no (by omega) | exact hi2_18.yes (by omega) (se_no (by rw [h86]; assumption)) | exact hi2_18.yes (by omega) (se_yes (lt_nI (by assumption) (by assumption) (by omega) hn) hn h86 (hso (lt_nI (by assumption) (by assumption) (by omega) hn))) | exact seI.bad (by omega) (se_not (lt_nI (by assumption) (by assumption) (by omega) hn) h86 (hso (lt_nI (by assumption) (by assumption) (by omega) hn)))) (by first | omega | assumption | exact hi2_18.no (by omega) | exact hi2_18.yes (by omega) (se_no (by rw [h86]; assumption)) | exact hi2_18.yes (by omega) (se_yes (lt_nI (by assumption) (by assumption) (by omega) hn) hn h86 (hso (lt_nI (by assumption) (by assumption) (by omega) hn))) | exact seI.bad (by omega) (se_not (lt_nI (by assumption) (by assumption) (by omega) hn) h86 (hso (lt_nI (by assumption) (by assumption) (by omega) hn)))) (by first | omega | assumption | exact hi2_18.no (by omega) | exact hi2_18.yes (by omega) (se_no (by rw [h86]; assumption)) | exact hi2_18.yes (by omega) (se_yes (lt_nI (by assumption) (by assumption) (by omega) hn) hn h86 (hso (lt_nI (by assumption) (by assumption) (by omega) hn))) | exact seI.bad (by omega) (se_not (lt_nI (by assumption) (by assumption) (by omega) hn) h86 (hso (lt_nI (by assumption) (by assumption) (by omega) hn)))) (by first | omega | assumption | exact hi2_18.no (by omega) | exact hi2_18.yes (by omega) (se_no (by rw [h86]; assumption)) | exact hi2_18.yes (by omega) (se_yes (lt_nI (by assumption) (by assumption) (by omega) hn) hn h86 (hso (lt_nI (by assumption) (by assumption) (by omega) hn))) | exact seI.bad (by omega) (se_not (lt_nI (by assumption) (by assumption) (by omega) hn) h86 (hso (lt_nI (by assumption) (by assumption) (by omega) hn)))) (by omega)
                · skip
                  refine w_ieq 124 119 (by decide +kernel) (fun _ => ?_) (fun hz => absurd hz (by decide))
                  refine w_pushN 1 125 (by decide +kernel) ?_
                  refine w_goto 129 (by decide +kernel) ?_
                  refine w_store (ls' := [.ref 76, .int (nI t), .int (nI 1), .int (nI g3), .int (nI n8), .int v9, .int (nI 1)]) (.istore_n 2) 130 (by decide +kernel) rfl rfl ?_
                  refine w_iincN (z := 3) (g3 + 1) 133 (by decide +kernel) rfl (Nat.le_of_ble_eq_true rfl) rfl rfl ?_
                  show Wp _ _ _ [.ref 76, .int (nI t), .int (nI 1), .int (nI (g3 + 1)), .int (nI n8), .int v9, .int (nI 1)] _ _ _ _
                  refine w_goto 18 (by decide +kernel) ?_
                  refine Wp.forget (ls := [.ref 76, .int (nI t), .int (nI 1), .int (nI (g3 + 1)), .null, .null, .null]) ⟨Or.inl rfl, Or.inl rfl, Or.inl rfl, Or.inl rfl, Or.inr ⟨rfl, rfl⟩, Or.inr ⟨rfl, rfl⟩, Or.inr ⟨rfl, rfl⟩, trivial⟩ ?_
                  exact ih_18 N_18 1 (g3 + 1) hS (by first | omega | assumption | exact hi2_18.no (by omega) | exact hi2_18.yes (by omega) (se_no (by rw [h86]; assumption)) | exact hi2_18.yes (by omega) (se_yes (lt_nI (by assumption) (by assumption) (by omega) hn) hn h86 (hso (lt_nI (by assumption) (by assumption) (by omega) hn))) | exact seI.bad (by omega) (se_not (lt_nI (by assumption) (by assumption) (by omega) hn) h86 (hso (lt_nI (by assumption) (by assumption) (by omega) hn)))) (by first | omega | assumption | exact hi2_18.no (by omega) | exact hi2_18.yes (by omega) (se_no (by rw [h86]; assumption)) | exact hi2_18.yes (by omega) (se_yes (lt_nI (by assumption) (by assumption) (by omega) hn) hn h86 (hso (lt_nI (by assumption) (by assumption) (by omega) hn))) | exact seI.bad (by omega) (se_not (lt_nI (by assumption) (by assumption) (by omega) hn) h86 (hso (lt_nI (by assumption) (by assumption) (by omega) hn)))) (by first | omega | assumption | exact hi2_18.no (by omega) | exact hi2_18.yes (by omega) (se_no (by rw [h86]; assumption)) | exact hi2_18.yes (by omega) (se_yes (lt_nI (by assumption) (by assumption) (by omega) hn) hn h86 (hso (lt_nI (by assumption) (by assumption) (by omega) hn))) | exact seI.bad (by omega) (se_not (lt_nI (by assumption) (by assumption) (by omega) hn) h86 (hso (lt_nI (by assumption) (by assumption) (by omega) hn)))) (by first | omega | assumption | exact hi2_18.no (by omega) | exact hi2_18.yes (by omega) (se_no (by rw [h86]; assumption)) | exact hi2_18.yes (by omega) (se_yes (lt_nI (by assumption) (by assumption) (by omega) hn) hn h86 (hso (lt_nI (by assumption) (by assumption) (by omega) hn))) | exact seI.bad (by omega) (se_not (lt_nI (by assumption) (by assumption) (by omega) hn) h86 (hso (lt_nI (by assumption) (by assumption) (by omega) hn)))) (by omega)
          · skip
            have htr24 := tb_nhb (by omega) hbr24
            refine w_load (.iload 5) 62 (by decide +kernel) rfl rfl ?_
            refine w_ine 69 65 (by decide +kernel) (fun h40 => ?_) (fun h40 => ?_)
            · skip
              refine w_pushN 0 70 (by decide +kernel) ?_
              refine w_cne 77 73 (by decide +kernel) (fun hz => absurd hz (by decide)) (fun _ => ?_)
              refine w_pushN 1 74 (by decide +kernel) ?_
              refine w_goto 104 (by decide +kernel) ?_
              refine w_store (ls' := [.ref 76, .int (nI t), .int (nI g2), .int (nI g3), .int (nI n8), .int v9, .int (nI 1)]) (.istore 6) 106 (by decide +kernel) rfl rfl ?_
              have hso : n8 < n → soP (dawnS (TLw n T pw (nI 0) t c)).1 n8 (sf g3) := fun hlt => by first | exact (s8_d hi3_18 ok5 hv5 (by assumption) (by assumption)).mpr (by assumption) | exact (s8_l hi3_18 ok5 hv5 (by assumption)).mpr (by assumption) | exact (s8_c hi3_18 ok5 hv5 (by assumption) hlt).mpr (by assumption)
              refine w_load (.iload_n 2) 107 (by decide +kernel) rfl rfl ?_
              refine w_ieqN 128 110 (by decide +kernel) (by omega) (fun h42 => ?_) (fun h42 => ?_)
              · skip
                refine w_pushN 0 129 (by decide +kernel) ?_
                refine w_store (ls' := [.ref 76, .int (nI t), .int (nI 0), .int (nI g3), .int (nI n8), .int v9, .int (nI 1)]) (.istore_n 2) 130 (by decide +kernel) rfl rfl ?_
                refine w_iincN (z := 3) (g3 + 1) 133 (by decide +kernel) rfl (Nat.le_of_ble_eq_true rfl) rfl rfl ?_
                show Wp _ _ _ [.ref 76, .int (nI t), .int (nI 0), .int (nI (g3 + 1)), .int (nI n8), .int v9, .int (nI 1)] _ _ _ _
                refine w_goto 18 (by decide +kernel) ?_
                refine Wp.forget (ls := [.ref 76, .int (nI t), .int (nI 0), .int (nI (g3 + 1)), .null, .null, .null]) ⟨Or.inl rfl, Or.inl rfl, Or.inl rfl, Or.inl rfl, Or.inr ⟨rfl, rfl⟩, Or.inr ⟨rfl, rfl⟩, Or.inr ⟨rfl, rfl⟩, trivial⟩ ?_
                exact ih_18 N_18 0 (g3 + 1) hS (by first | omega | assumption | exact hi2_18.no (by omega) | exact hi2_18.yes (by omega) (se_no (by rw [h86]; assumption)) | exact hi2_18.yes (by omega) (se_yes (lt_nI (by assumption) (by assumption) (by omega) hn) hn h86 (hso (lt_nI (by assumption) (by assumption) (by omega) hn))) | exact seI.bad (by omega) (se_not (lt_nI (by assumption) (by assumption) (by omega) hn) h86 (hso (lt_nI (by assumption) (by assumption) (by omega) hn)))) (by first | omega | assumption | exact hi2_18.no (by omega) | exact hi2_18.yes (by omega) (se_no (by rw [h86]; assumption)) | exact hi2_18.yes (by omega) (se_yes (lt_nI (by assumption) (by assumption) (by omega) hn) hn h86 (hso (lt_nI (by assumption) (by assumption) (by omega) hn))) | exact seI.bad (by omega) (se_not (lt_nI (by assumption) (by assumption) (by omega) hn) h86 (hso (lt_nI (by assumption) (by assumption) (by omega) hn)))) (by first | omega | assumption | exact hi2_18.no (by omega) | exact hi2_18.yes (by omega) (se_no (by rw [h86]; assumption)) | exact hi2_18.yes (by omega) (se_yes (lt_nI (by assumption) (by assumption) (by omega) hn) hn h86 (hso (lt_nI (by assumption) (by assumption) (by omega) hn))) | exact seI.bad (by omega) (se_not (lt_nI (by assumption) (by assumption) (by omega) hn) h86 (hso (lt_nI (by assumption) (by assumption) (by omega) hn)))) (by first | omega | assumption | exact hi2_18.no (by omega) | exact hi2_18.yes (by omega) (se_no (by rw [h86]; assumption)) | exact hi2_18.yes (by omega) (se_yes (lt_nI (by assumption) (by assumption) (by omega) hn) hn h86 (hso (lt_nI (by assumption) (by assumption) (by omega) hn))) | exact seI.bad (by omega) (se_not (lt_nI (by assumption) (by assumption) (by omega) hn) h86 (hso (lt_nI (by assumption) (by assumption) (by omega) hn)))) (by omega)
              · skip
                refine w_load (.aload_n 0) 111 (by decide +kernel) rfl rfl ?_
                refine w_load (.iload 4) 113 (by decide +kernel) rfl rfl ?_
                refine w_callV1 150 8 2 116 (by decide +kernel) sh_76 (Nat.le_of_ble_eq_true rfl) rfl (by decide) (by omega) ?_
                refine k_150 hS.1 (by omega) ((hS.2 76 0 (by (try dsimp only); first | omega | (simp only [Hs, Tl, Sc, isHs, isScr, isTs] at *; omega))).trans en) (by omega) (fun r43 hr43 => ?_)
                dsimp only [Option.toList, List.cons_append, List.nil_append]
                rcases hr43 with ⟨rfl, k44, hk44, ek44⟩ | ⟨rfl, hnok44⟩
                · skip
                  refine w_ieq 124 119 (by decide +kernel) (fun hz => absurd hz (by decide)) (fun _ => ?_)
                  refine w_load (.iload 6) 121 (by decide +kernel) rfl rfl ?_
                  refine w_ieq 128 124 (by decide +kernel) (fun hz => absurd hz (by decide)) (fun _ => ?_)
                  refine w_pushN 1 125 (by decide +kernel) ?_
                  refine w_goto 129 (by decide +kernel) ?_
                  refine w_store (ls' := [.ref 76, .int (nI t), .int (nI 1), .int (nI g3), .int (nI n8), .int v9, .int (nI 1)]) (.istore_n 2) 130 (by decide +kernel) rfl rfl ?_
                  refine w_iincN (z := 3) (g3 + 1) 133 (by decide +kernel) rfl (Nat.le_of_ble_eq_true rfl) rfl rfl ?_
                  show Wp _ _ _ [.ref 76, .int (nI t), .int (nI 1), .int (nI (g3 + 1)), .int (nI n8), .int v9, .int (nI 1)] _ _ _ _
                  refine w_goto 18 (by decide +kernel) ?_
                  refine Wp.forget (ls := [.ref 76, .int (nI t), .int (nI 1), .int (nI (g3 + 1)), .null, .null, .null]) ⟨Or.inl rfl, Or.inl rfl, Or.inl rfl, Or.inl rfl, Or.inr ⟨rfl, rfl⟩, Or.inr ⟨rfl, rfl⟩, Or.inr ⟨rfl, rfl⟩, trivial⟩ ?_
                  exact ih_18 N_18 1 (g3 + 1) hS (by first | omega | assumption | exact hi2_18.no (by omega) | exact hi2_18.yes (by omega) (se_no (by rw [h86]; assumption)) | exact hi2_18.yes (by omega) (se_yes (lt_nI (by assumption) (by assumption) (by omega) hn) hn h86 (hso (lt_nI (by assumption) (by assumption) (by omega) hn))) | exact seI.bad (by omega) (se_not (lt_nI (by assumption) (by assumption) (by omega) hn) h86 (hso (lt_nI (by assumption) (by assumption) (by omega) hn)))) (by first | omega | assumption | exact hi2_18.no (by omega) | exact hi2_18.yes (by omega) (se_no (by rw [h86]; assumption)) | exact hi2_18.yes (by omega) (se_yes (lt_nI (by assumption) (by assumption) (by omega) hn) hn h86 (hso (lt_nI (by assumption) (by assumption) (by omega) hn))) | exact seI.bad (by omega) (se_not (lt_nI (by assumption) (by assumption) (by omega) hn) h86 (hso (lt_nI (by assumption) (by assumption) (by omega) hn)))) (by first | omega | assumption | exact hi2_18.no (by omega) | exact hi2_18.yes (by omega) (se_no (by rw [h86]; assumption)) | exact hi2_18.yes (by omega) (se_yes (lt_nI (by assumption) (by assumption) (by omega) hn) hn h86 (hso (lt_nI (by assumption) (by assumption) (by omega) hn))) | exact seI.bad (by omega) (se_not (lt_nI (by assumption) (by assumption) (by omega) hn) h86 (hso (lt_nI (by assumption) (by assumption) (by omega) hn)))) (by first | omega | assumption | exact hi2_18.no (by omega) | exact hi2_18.yes (by omega) (se_no (by rw [h86]; assumption)) | exact hi2_18.yes (by omega) (se_yes (lt_nI (by assumption) (by assumption) (by omega) hn) hn h86 (hso (lt_nI (by assumption) (by assumption) (by omega) hn))) | exact seI.bad (by omega) (se_not (lt_nI (by assumption) (by assumption) (by omega) hn) h86 (hso (lt_nI (by assumption) (by assumption) (by omega) hn)))) (by omega)
                · skip
                  refine w_ieq 124 119 (by decide +kernel) (fun _ => ?_) (fun hz => absurd hz (by decide))
                  refine w_pushN 1 125 (by decide +kernel) ?_
                  refine w_goto 129 (by decide +kernel) ?_
                  refine w_store (ls' := [.ref 76, .int (nI t), .int (nI 1), .int (nI g3), .int (nI n8), .int v9, .int (nI 1)]) (.istore_n 2) 130 (by decide +kernel) rfl rfl ?_
                  refine w_iincN (z := 3) (g3 + 1) 133 (by decide +kernel) rfl (Nat.le_of_ble_eq_true rfl) rfl rfl ?_
                  show Wp _ _ _ [.ref 76, .int (nI t), .int (nI 1), .int (nI (g3 + 1)), .int (nI n8), .int v9, .int (nI 1)] _ _ _ _
                  refine w_goto 18 (by decide +kernel) ?_
                  refine Wp.forget (ls := [.ref 76, .int (nI t), .int (nI 1), .int (nI (g3 + 1)), .null, .null, .null]) ⟨Or.inl rfl, Or.inl rfl, Or.inl rfl, Or.inl rfl, Or.inr ⟨rfl, rfl⟩, Or.inr ⟨rfl, rfl⟩, Or.inr ⟨rfl, rfl⟩, trivial⟩ ?_
                  exact ih_18 N_18 1 (g3 + 1) hS (by first | omega | assumption | exact hi2_18.no (by omega) | exact hi2_18.yes (by omega) (se_no (by rw [h86]; assumption)) | exact hi2_18.yes (by omega) (se_yes (lt_nI (by assumption) (by assumption) (by omega) hn) hn h86 (hso (lt_nI (by assumption) (by assumption) (by omega) hn))) | exact seI.bad (by omega) (se_not (lt_nI (by assumption) (by assumption) (by omega) hn) h86 (hso (lt_nI (by assumption) (by assumption) (by omega) hn)))) (by first | omega | assumption | exact hi2_18.no (by omega) | exact hi2_18.yes (by omega) (se_no (by rw [h86]; assumption)) | exact hi2_18.yes (by omega) (se_yes (lt_nI (by assumption) (by assumption) (by omega) hn) hn h86 (hso (lt_nI (by assumption) (by assumption) (by omega) hn))) | exact seI.bad (by omega) (se_not (lt_nI (by assumption) (by assumption) (by omega) hn) h86 (hso (lt_nI (by assumption) (by assumption) (by omega) hn)))) (by first | omega | assumption | exact hi2_18.no (by omega) | exact hi2_18.yes (by omega) (se_no (by rw [h86]; assumption)) | exact hi2_18.yes (by omega) (se_yes (lt_nI (by assumption) (by assumption) (by omega) hn) hn h86 (hso (lt_nI (by assumption) (by assumption) (by omega) hn))) | exact seI.bad (by omega) (se_not (lt_nI (by assumption) (by assumption) (by omega) hn) h86 (hso (lt_nI (by assumption) (by assumption) (by omega) hn)))) (by first | omega | assumption | exact hi2_18.no (by omega) | exact hi2_18.yes (by omega) (se_no (by rw [h86]; assumption)) | exact hi2_18.yes (by omega) (se_yes (lt_nI (by assumption) (by assumption) (by omega) hn) hn h86 (hso (lt_nI (by assumption) (by assumption) (by omega) hn))) | exact seI.bad (by omega) (se_not (lt_nI (by assumption) (by assumption) (by omega) hn) h86 (hso (lt_nI (by assumption) (by assumption) (by omega) hn)))) (by omega)
            · skip
              refine w_pushN 1 66 (by decide +kernel) ?_
              refine w_goto 70 (by decide +kernel) ?_
              refine w_cne 77 73 (by decide +kernel) (fun _ => ?_) (fun hz => absurd hz (by decide))
              refine w_pushN 0 78 (by decide +kernel) ?_
              refine w_goto 104 (by decide +kernel) ?_
              refine w_store (ls' := [.ref 76, .int (nI t), .int (nI g2), .int (nI g3), .int (nI n8), .int v9, .int (nI 0)]) (.istore 6) 106 (by decide +kernel) rfl rfl ?_
              have hso : n8 < n → ¬ soP (dawnS (TLw n T pw (nI 0) t c)).1 n8 (sf g3) := fun hlt hz => by first | exact tb_no (by assumption) ((s8_d hi3_18 ok5 hv5 (by assumption) (by assumption)).mp hz) | exact tb_no' (by assumption) ((s8_l hi3_18 ok5 hv5 (by assumption)).mp hz) | exact absurd ((s8_c hi3_18 ok5 hv5 (by assumption) hlt).mp hz) (by assumption)
              refine w_load (.iload_n 2) 107 (by decide +kernel) rfl rfl ?_
              refine w_ieqN 128 110 (by decide +kernel) (by omega) (fun h49 => ?_) (fun h49 => ?_)
              · skip
                refine w_pushN 0 129 (by decide +kernel) ?_
                refine w_store (ls' := [.ref 76, .int (nI t), .int (nI 0), .int (nI g3), .int (nI n8), .int v9, .int (nI 0)]) (.istore_n 2) 130 (by decide +kernel) rfl rfl ?_
                refine w_iincN (z := 3) (g3 + 1) 133 (by decide +kernel) rfl (Nat.le_of_ble_eq_true rfl) rfl rfl ?_
                show Wp _ _ _ [.ref 76, .int (nI t), .int (nI 0), .int (nI (g3 + 1)), .int (nI n8), .int v9, .int (nI 0)] _ _ _ _
                refine w_goto 18 (by decide +kernel) ?_
                refine Wp.forget (ls := [.ref 76, .int (nI t), .int (nI 0), .int (nI (g3 + 1)), .null, .null, .null]) ⟨Or.inl rfl, Or.inl rfl, Or.inl rfl, Or.inl rfl, Or.inr ⟨rfl, rfl⟩, Or.inr ⟨rfl, rfl⟩, Or.inr ⟨rfl, rfl⟩, trivial⟩ ?_
                exact ih_18 N_18 0 (g3 + 1) hS (by first | omega | assumption | exact hi2_18.no (by omega) | exact hi2_18.yes (by omega) (se_no (by rw [h86]; assumption)) | exact hi2_18.yes (by omega) (se_yes (lt_nI (by assumption) (by assumption) (by omega) hn) hn h86 (hso (lt_nI (by assumption) (by assumption) (by omega) hn))) | exact seI.bad (by omega) (se_not (lt_nI (by assumption) (by assumption) (by omega) hn) h86 (hso (lt_nI (by assumption) (by assumption) (by omega) hn)))) (by first | omega | assumption | exact hi2_18.no (by omega) | exact hi2_18.yes (by omega) (se_no (by rw [h86]; assumption)) | exact hi2_18.yes (by omega) (se_yes (lt_nI (by assumption) (by assumption) (by omega) hn) hn h86 (hso (lt_nI (by assumption) (by assumption) (by omega) hn))) | exact seI.bad (by omega) (se_not (lt_nI (by assumption) (by assumption) (by omega) hn) h86 (hso (lt_nI (by assumption) (by assumption) (by omega) hn)))) (by first | omega | assumption | exact hi2_18.no (by omega) | exact hi2_18.yes (by omega) (se_no (by rw [h86]; assumption)) | exact hi2_18.yes (by omega) (se_yes (lt_nI (by assumption) (by assumption) (by omega) hn) hn h86 (hso (lt_nI (by assumption) (by assumption) (by omega) hn))) | exact seI.bad (by omega) (se_not (lt_nI (by assumption) (by assumption) (by omega) hn) h86 (hso (lt_nI (by assumption) (by assumption) (by omega) hn)))) (by first | omega | assumption | exact hi2_18.no (by omega) | exact hi2_18.yes (by omega) (se_no (by rw [h86]; assumption)) | exact hi2_18.yes (by omega) (se_yes (lt_nI (by assumption) (by assumption) (by omega) hn) hn h86 (hso (lt_nI (by assumption) (by assumption) (by omega) hn))) | exact seI.bad (by omega) (se_not (lt_nI (by assumption) (by assumption) (by omega) hn) h86 (hso (lt_nI (by assumption) (by assumption) (by omega) hn)))) (by omega)
              · skip
                refine w_load (.aload_n 0) 111 (by decide +kernel) rfl rfl ?_
                refine w_load (.iload 4) 113 (by decide +kernel) rfl rfl ?_
                refine w_callV1 150 8 2 116 (by decide +kernel) sh_76 (Nat.le_of_ble_eq_true rfl) rfl (by decide) (by omega) ?_
                refine k_150 hS.1 (by omega) ((hS.2 76 0 (by (try dsimp only); first | omega | (simp only [Hs, Tl, Sc, isHs, isScr, isTs] at *; omega))).trans en) (by omega) (fun r50 hr50 => ?_)
                dsimp only [Option.toList, List.cons_append, List.nil_append]
                rcases hr50 with ⟨rfl, k51, hk51, ek51⟩ | ⟨rfl, hnok51⟩
                · skip
                  refine w_ieq 124 119 (by decide +kernel) (fun hz => absurd hz (by decide)) (fun _ => ?_)
                  refine w_load (.iload 6) 121 (by decide +kernel) rfl rfl ?_
                  refine w_ieq 128 124 (by decide +kernel) (fun _ => ?_) (fun hz => absurd hz (by decide))
                  refine w_pushN 0 129 (by decide +kernel) ?_
                  refine w_store (ls' := [.ref 76, .int (nI t), .int (nI 0), .int (nI g3), .int (nI n8), .int v9, .int (nI 0)]) (.istore_n 2) 130 (by decide +kernel) rfl rfl ?_
                  refine w_iincN (z := 3) (g3 + 1) 133 (by decide +kernel) rfl (Nat.le_of_ble_eq_true rfl) rfl rfl ?_
                  show Wp _ _ _ [.ref 76, .int (nI t), .int (nI 0), .int (nI (g3 + 1)), .int (nI n8), .int v9, .int (nI 0)] _ _ _ _
                  refine w_goto 18 (by decide +kernel) ?_
                  refine Wp.forget (ls := [.ref 76, .int (nI t), .int (nI 0), .int (nI (g3 + 1)), .null, .null, .null]) ⟨Or.inl rfl, Or.inl rfl, Or.inl rfl, Or.inl rfl, Or.inr ⟨rfl, rfl⟩, Or.inr ⟨rfl, rfl⟩, Or.inr ⟨rfl, rfl⟩, trivial⟩ ?_
                  exact ih_18 N_18 0 (g3 + 1) hS (by first | omega | assumption | exact hi2_18.no (by omega) | exact hi2_18.yes (by omega) (se_no (by rw [h86]; assumption)) | exact hi2_18.yes (by omega) (se_yes (lt_nI (by assumption) (by assumption) (by omega) hn) hn h86 (hso (lt_nI (by assumption) (by assumption) (by omega) hn))) | exact seI.bad (by omega) (se_not (lt_nI (by assumption) (by assumption) (by omega) hn) h86 (hso (lt_nI (by assumption) (by assumption) (by omega) hn)))) (by first | omega | assumption | exact hi2_18.no (by omega) | exact hi2_18.yes (by omega) (se_no (by rw [h86]; assumption)) | exact hi2_18.yes (by omega) (se_yes (lt_nI (by assumption) (by assumption) (by omega) hn) hn h86 (hso (lt_nI (by assumption) (by assumption) (by omega) hn))) | exact seI.bad (by omega) (se_not (lt_nI (by assumption) (by assumption) (by omega) hn) h86 (hso (lt_nI (by assumption) (by assumption) (by omega) hn)))) (by first | omega | assumption | exact hi2_18.no (by omega) | exact hi2_18.yes (by omega) (se_no (by rw [h86]; assumption)) | exact hi2_18.yes (by omega) (se_yes (lt_nI (by assumption) (by assumption) (by omega) hn) hn h86 (hso (lt_nI (by assumption) (by assumption) (by omega) hn))) | exact seI.bad (by omega) (se_not (lt_nI (by assumption) (by assumption) (by omega) hn) h86 (hso (lt_nI (by assumption) (by assumption) (by omega) hn)))) (by first | omega | assumption | exact hi2_18.no (by omega) | exact hi2_18.yes (by omega) (se_no (by rw [h86]; assumption)) | exact hi2_18.yes (by omega) (se_yes (lt_nI (by assumption) (by assumption) (by omega) hn) hn h86 (hso (lt_nI (by assumption) (by assumption) (by omega) hn))) | exact seI.bad (by omega) (se_not (lt_nI (by assumption) (by assumption) (by omega) hn) h86 (hso (lt_nI (by assumption) (by assumption) (by omega) hn)))) (by omega)
                · skip
                  refine w_ieq 124 119 (by decide +kernel) (fun _ => ?_) (fun hz => absurd hz (by decide))
                  refine w_pushN 1 125 (by decide +kernel) ?_
                  refine w_goto 129 (by decide +kernel) ?_
                  refine w_store (ls' := [.ref 76, .int (nI t), .int (nI 1), .int (nI g3), .int (nI n8), .int v9, .int (nI 0)]) (.istore_n 2) 130 (by decide +kernel) rfl rfl ?_
                  refine w_iincN (z := 3) (g3 + 1) 133 (by decide +kernel) rfl (Nat.le_of_ble_eq_true rfl) rfl rfl ?_
                  show Wp _ _ _ [.ref 76, .int (nI t), .int (nI 1), .int (nI (g3 + 1)), .int (nI n8), .int v9, .int (nI 0)] _ _ _ _
                  refine w_goto 18 (by decide +kernel) ?_
                  refine Wp.forget (ls := [.ref 76, .int (nI t), .int (nI 1), .int (nI (g3 + 1)), .null, .null, .null]) ⟨Or.inl rfl, Or.inl rfl, Or.inl rfl, Or.inl rfl, Or.inr ⟨rfl, rfl⟩, Or.inr ⟨rfl, rfl⟩, Or.inr ⟨rfl, rfl⟩, trivial⟩ ?_
                  exact ih_18 N_18 1 (g3 + 1) hS (by first | omega | assumption | exact hi2_18.no (by omega) | exact hi2_18.yes (by omega) (se_no (by rw [h86]; assumption)) | exact hi2_18.yes (by omega) (se_yes (lt_nI (by assumption) (by assumption) (by omega) hn) hn h86 (hso (lt_nI (by assumption) (by assumption) (by omega) hn))) | exact seI.bad (by omega) (se_not (lt_nI (by assumption) (by assumption) (by omega) hn) h86 (hso (lt_nI (by assumption) (by assumption) (by omega) hn)))) (by first | omega | assumption | exact hi2_18.no (by omega) | exact hi2_18.yes (by omega) (se_no (by rw [h86]; assumption)) | exact hi2_18.yes (by omega) (se_yes (lt_nI (by assumption) (by assumption) (by omega) hn) hn h86 (hso (lt_nI (by assumption) (by assumption) (by omega) hn))) | exact seI.bad (by omega) (se_not (lt_nI (by assumption) (by assumption) (by omega) hn) h86 (hso (lt_nI (by assumption) (by assumption) (by omega) hn)))) (by first | omega | assumption | exact hi2_18.no (by omega) | exact hi2_18.yes (by omega) (se_no (by rw [h86]; assumption)) | exact hi2_18.yes (by omega) (se_yes (lt_nI (by assumption) (by assumption) (by omega) hn) hn h86 (hso (lt_nI (by assumption) (by assumption) (by omega) hn))) | exact seI.bad (by omega) (se_not (lt_nI (by assumption) (by assumption) (by omega) hn) h86 (hso (lt_nI (by assumption) (by assumption) (by omega) hn)))) (by first | omega | assumption | exact hi2_18.no (by omega) | exact hi2_18.yes (by omega) (se_no (by rw [h86]; assumption)) | exact hi2_18.yes (by omega) (se_yes (lt_nI (by assumption) (by assumption) (by omega) hn) hn h86 (hso (lt_nI (by assumption) (by assumption) (by omega) hn))) | exact seI.bad (by omega) (se_not (lt_nI (by assumption) (by assumption) (by omega) hn) h86 (hso (lt_nI (by assumption) (by assumption) (by omega) hn)))) (by omega)
  exact LP_18 _ Nr4 1 0 hS (by first | omega | exact hSt.1 | exact Or.inl ⟨rfl, fun i hi => by omega⟩) (by first | omega | exact hSt.1 | exact Or.inl ⟨rfl, fun i hi => by omega⟩) (by first | omega | exact hSt.1 | exact Or.inl ⟨rfl, fun i hi => by omega⟩) (by first | omega | exact hSt.1 | exact Or.inl ⟨rfl, fun i hi => by omega⟩) (Nat.lt_succ_self _)
-- X8_which#s
set_option maxRecDepth 10000 in
theorem s_which8 {d : Nat} {M : Mt} {L : Lt} {Q : Option Value → Mt → Lt → Prop} {n m : Nat} {c pw sg sf : Row} {T : TLs}  (hI : Inv M) (hn : n ≤ 5) (en : M 76 0 = nI n) (hc : HE n (lvC M 0) c) (hp : LQ n (M 77) pw) (hw : wedOk n c) (hT : tlM T M) (hm : m ≤ 6) (em : M 76 15 = nI m) (hse : ∀ i, i < m → M 86 i = sg i ∧ M 87 i = facM (sf i) ∧ okF (sf i)) (hd : 5 ≤ d) (hq : ∀ (r : Int32) (N : Mt), St (fun i k => (i = 78 ∧ 22 ≤ k) ∨ i = 83 ∨ i = 84 ∨ (i = 76 ∧ (k = 7 ∨ k = 11))) M N → (r = setI 3 (fitB n T pw c m sg sf)) → Q (some (.int r)) N L) : Wp d 192 0 [.ref 76] [] M L Q := by
  refine (show ∀ N : Mt, N = M → St (fun i k => (i = 78 ∧ 22 ≤ k) ∨ i = 83 ∨ i = 84 ∨ (i = 76 ∧ (k = 7 ∨ k = 11))) M N → Wp d 192 0 [.ref 76] [] N L Q from ?_) M rfl (St.rf hI)
  intro N hNM hS
  have kz0 : N (76) 0 = nI n := by rw [hNM]; exact en
  have kz1 : N (76) 15 = nI m := by rw [hNM]; exact em
  refine w_load (.aload_n 0) 1 (by decide +kernel) rfl rfl ?_
  refine w_pushN 0 2 (by decide +kernel) ?_
  refine w_callV1 191 8 7 5 (by decide +kernel) sh_76 (Nat.le_of_ble_eq_true rfl) rfl (by decide) (by omega) ?_
  refine s_isSeen hS.1 (by omega) kz0 (by rw [hNM]; exact hc) (by rw [hS.row (x := 77) (fun k => (by (try dsimp only); first | omega | (simp only [Hs, Tl, Sc, isHs, isScr, isTs] at *; omega)))]; exact hp) hw (hT.keep (hS.row (fun k => (by (try dsimp only); first | omega | (simp only [Hs, Tl, Sc, isHs, isScr, isTs] at *; omega)))) (hS.row (fun k => (by (try dsimp only); first | omega | (simp only [Hs, Tl, Sc, isHs, isScr, isTs] at *; omega))))) (by omega) kz1 (fun i hi => ⟨(hS.2 86 i (by (try dsimp only); first | omega | (simp only [Hs, Tl, Sc, isHs, isScr, isTs] at *; omega))).trans (hse i hi).1, (hS.2 87 i (by (try dsimp only); first | omega | (simp only [Hs, Tl, Sc, isHs, isScr, isTs] at *; omega))).trans (hse i hi).2.1, (hse i hi).2.2⟩) (by omega) (by omega) (fun r1 Nr1 hTr1 hr1 => ?_)
  have kn2 := (hTr1.2 (76) 0 (by (try dsimp only); first | omega | (simp only [Hs, Tl, Sc, isHs, isScr, isTs] at *; omega))).trans kz0
  have kn3 := (hTr1.2 (76) 15 (by (try dsimp only); first | omega | (simp only [Hs, Tl, Sc, isHs, isScr, isTs] at *; omega))).trans kz1
  have hS := hS.tr hTr1 (by intro i k; first | exact rfl | exact fun h => h.elim | omega | (dsimp only; omega) | (simp only [Hs, Tl, Sc, isHs, isScr, isTs] at *; omega))
  dsimp only [Option.toList, List.cons_append, List.nil_append]
  rcases hr1 with ⟨rfl, hfir1⟩ | ⟨rfl, hfir1⟩
  · skip
    refine w_ieq 12 8 (by decide +kernel) (fun hz => absurd hz (by decide)) (fun _ => ?_)
    refine w_pushN 1 9 (by decide +kernel) ?_
    refine w_goto 13 (by decide +kernel) ?_
    refine w_load (.aload_n 0) 14 (by decide +kernel) rfl rfl ?_
    refine w_pushN 1 15 (by decide +kernel) ?_
    refine w_callV1 191 8 7 18 (by decide +kernel) sh_76 (Nat.le_of_ble_eq_true rfl) rfl (by decide) (by omega) ?_
    refine s_isSeen hS.1 (by omega) kn2 (lv_same hn hc (fun k h1 h2 => hS.2 78 k (by (try dsimp only); first | omega | (simp only [Hs, Tl, Sc, isHs, isScr, isTs] at *; omega)))) (by rw [hS.row (x := 77) (fun k => (by (try dsimp only); first | omega | (simp only [Hs, Tl, Sc, isHs, isScr, isTs] at *; omega)))]; exact hp) hw (hT.keep (hS.row (fun k => (by (try dsimp only); first | omega | (simp only [Hs, Tl, Sc, isHs, isScr, isTs] at *; omega)))) (hS.row (fun k => (by (try dsimp only); first | omega | (simp only [Hs, Tl, Sc, isHs, isScr, isTs] at *; omega))))) (by omega) kn3 (fun i hi => ⟨(hS.2 86 i (by (try dsimp only); first | omega | (simp only [Hs, Tl, Sc, isHs, isScr, isTs] at *; omega))).trans (hse i hi).1, (hS.2 87 i (by (try dsimp only); first | omega | (simp only [Hs, Tl, Sc, isHs, isScr, isTs] at *; omega))).trans (hse i hi).2.1, (hse i hi).2.2⟩) (by omega) (by omega) (fun r5 Nr5 hTr5 hr5 => ?_)
    have kn6 := (hTr5.2 (76) 0 (by (try dsimp only); first | omega | (simp only [Hs, Tl, Sc, isHs, isScr, isTs] at *; omega))).trans kn2
    have kn7 := (hTr5.2 (76) 15 (by (try dsimp only); first | omega | (simp only [Hs, Tl, Sc, isHs, isScr, isTs] at *; omega))).trans kn3
    have hS := hS.tr hTr5 (by intro i k; first | exact rfl | exact fun h => h.elim | omega | (dsimp only; omega) | (simp only [Hs, Tl, Sc, isHs, isScr, isTs] at *; omega))
    dsimp only [Option.toList, List.cons_append, List.nil_append]
    rcases hr5 with ⟨rfl, hfir5⟩ | ⟨rfl, hfir5⟩
    · skip
      refine w_ieq 25 21 (by decide +kernel) (fun hz => absurd hz (by decide)) (fun _ => ?_)
      refine w_pushN 2 22 (by decide +kernel) ?_
      refine w_goto 26 (by decide +kernel) ?_
      refine w_addN 3 27 (by decide +kernel) (by omega) ?_
      refine w_load (.aload_n 0) 28 (by decide +kernel) rfl rfl ?_
      refine w_pushN 2 29 (by decide +kernel) ?_
      refine w_callV1 191 8 7 32 (by decide +kernel) sh_76 (Nat.le_of_ble_eq_true rfl) rfl (by decide) (by omega) ?_
      refine s_isSeen hS.1 (by omega) kn6 (lv_same hn hc (fun k h1 h2 => hS.2 78 k (by (try dsimp only); first | omega | (simp only [Hs, Tl, Sc, isHs, isScr, isTs] at *; omega)))) (by rw [hS.row (x := 77) (fun k => (by (try dsimp only); first | omega | (simp only [Hs, Tl, Sc, isHs, isScr, isTs] at *; omega)))]; exact hp) hw (hT.keep (hS.row (fun k => (by (try dsimp only); first | omega | (simp only [Hs, Tl, Sc, isHs, isScr, isTs] at *; omega)))) (hS.row (fun k => (by (try dsimp only); first | omega | (simp only [Hs, Tl, Sc, isHs, isScr, isTs] at *; omega))))) (by omega) kn7 (fun i hi => ⟨(hS.2 86 i (by (try dsimp only); first | omega | (simp only [Hs, Tl, Sc, isHs, isScr, isTs] at *; omega))).trans (hse i hi).1, (hS.2 87 i (by (try dsimp only); first | omega | (simp only [Hs, Tl, Sc, isHs, isScr, isTs] at *; omega))).trans (hse i hi).2.1, (hse i hi).2.2⟩) (by omega) (by omega) (fun r9 Nr9 hTr9 hr9 => ?_)
      have kn10 := (hTr9.2 (76) 0 (by (try dsimp only); first | omega | (simp only [Hs, Tl, Sc, isHs, isScr, isTs] at *; omega))).trans kn6
      have kn11 := (hTr9.2 (76) 15 (by (try dsimp only); first | omega | (simp only [Hs, Tl, Sc, isHs, isScr, isTs] at *; omega))).trans kn7
      have hS := hS.tr hTr9 (by intro i k; first | exact rfl | exact fun h => h.elim | omega | (dsimp only; omega) | (simp only [Hs, Tl, Sc, isHs, isScr, isTs] at *; omega))
      dsimp only [Option.toList, List.cons_append, List.nil_append]
      rcases hr9 with ⟨rfl, hfir9⟩ | ⟨rfl, hfir9⟩
      · skip
        refine w_ieq 39 35 (by decide +kernel) (fun hz => absurd hz (by decide)) (fun _ => ?_)
        refine w_pushN 4 36 (by decide +kernel) ?_
        refine w_goto 40 (by decide +kernel) ?_
        refine w_addN 7 41 (by decide +kernel) (by omega) ?_
        exact w_ret (by decide +kernel) (hq _ Nr9 hS (by rw [← set3, hfir1, hfir5, hfir9] <;> decide))
      · skip
        refine w_ieq 39 35 (by decide +kernel) (fun _ => ?_) (fun hz => absurd hz (by decide))
        refine w_pushN 0 40 (by decide +kernel) ?_
        refine w_addN 3 41 (by decide +kernel) (by omega) ?_
        exact w_ret (by decide +kernel) (hq _ Nr9 hS (by rw [← set3, hfir1, hfir5, hfir9] <;> decide))
    · skip
      refine w_ieq 25 21 (by decide +kernel) (fun _ => ?_) (fun hz => absurd hz (by decide))
      refine w_pushN 0 26 (by decide +kernel) ?_
      refine w_addN 1 27 (by decide +kernel) (by omega) ?_
      refine w_load (.aload_n 0) 28 (by decide +kernel) rfl rfl ?_
      refine w_pushN 2 29 (by decide +kernel) ?_
      refine w_callV1 191 8 7 32 (by decide +kernel) sh_76 (Nat.le_of_ble_eq_true rfl) rfl (by decide) (by omega) ?_
      refine s_isSeen hS.1 (by omega) kn6 (lv_same hn hc (fun k h1 h2 => hS.2 78 k (by (try dsimp only); first | omega | (simp only [Hs, Tl, Sc, isHs, isScr, isTs] at *; omega)))) (by rw [hS.row (x := 77) (fun k => (by (try dsimp only); first | omega | (simp only [Hs, Tl, Sc, isHs, isScr, isTs] at *; omega)))]; exact hp) hw (hT.keep (hS.row (fun k => (by (try dsimp only); first | omega | (simp only [Hs, Tl, Sc, isHs, isScr, isTs] at *; omega)))) (hS.row (fun k => (by (try dsimp only); first | omega | (simp only [Hs, Tl, Sc, isHs, isScr, isTs] at *; omega))))) (by omega) kn7 (fun i hi => ⟨(hS.2 86 i (by (try dsimp only); first | omega | (simp only [Hs, Tl, Sc, isHs, isScr, isTs] at *; omega))).trans (hse i hi).1, (hS.2 87 i (by (try dsimp only); first | omega | (simp only [Hs, Tl, Sc, isHs, isScr, isTs] at *; omega))).trans (hse i hi).2.1, (hse i hi).2.2⟩) (by omega) (by omega) (fun r15 Nr15 hTr15 hr15 => ?_)
      have kn16 := (hTr15.2 (76) 0 (by (try dsimp only); first | omega | (simp only [Hs, Tl, Sc, isHs, isScr, isTs] at *; omega))).trans kn6
      have kn17 := (hTr15.2 (76) 15 (by (try dsimp only); first | omega | (simp only [Hs, Tl, Sc, isHs, isScr, isTs] at *; omega))).trans kn7
      have hS := hS.tr hTr15 (by intro i k; first | exact rfl | exact fun h => h.elim | omega | (dsimp only; omega) | (simp only [Hs, Tl, Sc, isHs, isScr, isTs] at *; omega))
      dsimp only [Option.toList, List.cons_append, List.nil_append]
      rcases hr15 with ⟨rfl, hfir15⟩ | ⟨rfl, hfir15⟩
      · skip
        refine w_ieq 39 35 (by decide +kernel) (fun hz => absurd hz (by decide)) (fun _ => ?_)
        refine w_pushN 4 36 (by decide +kernel) ?_
        refine w_goto 40 (by decide +kernel) ?_
        refine w_addN 5 41 (by decide +kernel) (by omega) ?_
        exact w_ret (by decide +kernel) (hq _ Nr15 hS (by rw [← set3, hfir1, hfir5, hfir15] <;> decide))
      · skip
        refine w_ieq 39 35 (by decide +kernel) (fun _ => ?_) (fun hz => absurd hz (by decide))
        refine w_pushN 0 40 (by decide +kernel) ?_
        refine w_addN 1 41 (by decide +kernel) (by omega) ?_
        exact w_ret (by decide +kernel) (hq _ Nr15 hS (by rw [← set3, hfir1, hfir5, hfir15] <;> decide))
  · skip
    refine w_ieq 12 8 (by decide +kernel) (fun _ => ?_) (fun hz => absurd hz (by decide))
    refine w_pushN 0 13 (by decide +kernel) ?_
    refine w_load (.aload_n 0) 14 (by decide +kernel) rfl rfl ?_
    refine w_pushN 1 15 (by decide +kernel) ?_
    refine w_callV1 191 8 7 18 (by decide +kernel) sh_76 (Nat.le_of_ble_eq_true rfl) rfl (by decide) (by omega) ?_
    refine s_isSeen hS.1 (by omega) kn2 (lv_same hn hc (fun k h1 h2 => hS.2 78 k (by (try dsimp only); first | omega | (simp only [Hs, Tl, Sc, isHs, isScr, isTs] at *; omega)))) (by rw [hS.row (x := 77) (fun k => (by (try dsimp only); first | omega | (simp only [Hs, Tl, Sc, isHs, isScr, isTs] at *; omega)))]; exact hp) hw (hT.keep (hS.row (fun k => (by (try dsimp only); first | omega | (simp only [Hs, Tl, Sc, isHs, isScr, isTs] at *; omega)))) (hS.row (fun k => (by (try dsimp only); first | omega | (simp only [Hs, Tl, Sc, isHs, isScr, isTs] at *; omega))))) (by omega) kn3 (fun i hi => ⟨(hS.2 86 i (by (try dsimp only); first | omega | (simp only [Hs, Tl, Sc, isHs, isScr, isTs] at *; omega))).trans (hse i hi).1, (hS.2 87 i (by (try dsimp only); first | omega | (simp only [Hs, Tl, Sc, isHs, isScr, isTs] at *; omega))).trans (hse i hi).2.1, (hse i hi).2.2⟩) (by omega) (by omega) (fun r21 Nr21 hTr21 hr21 => ?_)
    have kn22 := (hTr21.2 (76) 0 (by (try dsimp only); first | omega | (simp only [Hs, Tl, Sc, isHs, isScr, isTs] at *; omega))).trans kn2
    have kn23 := (hTr21.2 (76) 15 (by (try dsimp only); first | omega | (simp only [Hs, Tl, Sc, isHs, isScr, isTs] at *; omega))).trans kn3
    have hS := hS.tr hTr21 (by intro i k; first | exact rfl | exact fun h => h.elim | omega | (dsimp only; omega) | (simp only [Hs, Tl, Sc, isHs, isScr, isTs] at *; omega))
    dsimp only [Option.toList, List.cons_append, List.nil_append]
    rcases hr21 with ⟨rfl, hfir21⟩ | ⟨rfl, hfir21⟩
    · skip
      refine w_ieq 25 21 (by decide +kernel) (fun hz => absurd hz (by decide)) (fun _ => ?_)
      refine w_pushN 2 22 (by decide +kernel) ?_
      refine w_goto 26 (by decide +kernel) ?_
      refine w_addN 2 27 (by decide +kernel) (by omega) ?_
      refine w_load (.aload_n 0) 28 (by decide +kernel) rfl rfl ?_
      refine w_pushN 2 29 (by decide +kernel) ?_
      refine w_callV1 191 8 7 32 (by decide +kernel) sh_76 (Nat.le_of_ble_eq_true rfl) rfl (by decide) (by omega) ?_
      refine s_isSeen hS.1 (by omega) kn22 (lv_same hn hc (fun k h1 h2 => hS.2 78 k (by (try dsimp only); first | omega | (simp only [Hs, Tl, Sc, isHs, isScr, isTs] at *; omega)))) (by rw [hS.row (x := 77) (fun k => (by (try dsimp only); first | omega | (simp only [Hs, Tl, Sc, isHs, isScr, isTs] at *; omega)))]; exact hp) hw (hT.keep (hS.row (fun k => (by (try dsimp only); first | omega | (simp only [Hs, Tl, Sc, isHs, isScr, isTs] at *; omega)))) (hS.row (fun k => (by (try dsimp only); first | omega | (simp only [Hs, Tl, Sc, isHs, isScr, isTs] at *; omega))))) (by omega) kn23 (fun i hi => ⟨(hS.2 86 i (by (try dsimp only); first | omega | (simp only [Hs, Tl, Sc, isHs, isScr, isTs] at *; omega))).trans (hse i hi).1, (hS.2 87 i (by (try dsimp only); first | omega | (simp only [Hs, Tl, Sc, isHs, isScr, isTs] at *; omega))).trans (hse i hi).2.1, (hse i hi).2.2⟩) (by omega) (by omega) (fun r25 Nr25 hTr25 hr25 => ?_)
      have kn26 := (hTr25.2 (76) 0 (by (try dsimp only); first | omega | (simp only [Hs, Tl, Sc, isHs, isScr, isTs] at *; omega))).trans kn22
      have kn27 := (hTr25.2 (76) 15 (by (try dsimp only); first | omega | (simp only [Hs, Tl, Sc, isHs, isScr, isTs] at *; omega))).trans kn23
      have hS := hS.tr hTr25 (by intro i k; first | exact rfl | exact fun h => h.elim | omega | (dsimp only; omega) | (simp only [Hs, Tl, Sc, isHs, isScr, isTs] at *; omega))
      dsimp only [Option.toList, List.cons_append, List.nil_append]
      rcases hr25 with ⟨rfl, hfir25⟩ | ⟨rfl, hfir25⟩
      · skip
        refine w_ieq 39 35 (by decide +kernel) (fun hz => absurd hz (by decide)) (fun _ => ?_)
        refine w_pushN 4 36 (by decide +kernel) ?_
        refine w_goto 40 (by decide +kernel) ?_
        refine w_addN 6 41 (by decide +kernel) (by omega) ?_
        exact w_ret (by decide +kernel) (hq _ Nr25 hS (by rw [← set3, hfir1, hfir21, hfir25] <;> decide))
      · skip
        refine w_ieq 39 35 (by decide +kernel) (fun _ => ?_) (fun hz => absurd hz (by decide))
        refine w_pushN 0 40 (by decide +kernel) ?_
        refine w_addN 2 41 (by decide +kernel) (by omega) ?_
        exact w_ret (by decide +kernel) (hq _ Nr25 hS (by rw [← set3, hfir1, hfir21, hfir25] <;> decide))
    · skip
      refine w_ieq 25 21 (by decide +kernel) (fun _ => ?_) (fun hz => absurd hz (by decide))
      refine w_pushN 0 26 (by decide +kernel) ?_
      refine w_addN 0 27 (by decide +kernel) (by omega) ?_
      refine w_load (.aload_n 0) 28 (by decide +kernel) rfl rfl ?_
      refine w_pushN 2 29 (by decide +kernel) ?_
      refine w_callV1 191 8 7 32 (by decide +kernel) sh_76 (Nat.le_of_ble_eq_true rfl) rfl (by decide) (by omega) ?_
      refine s_isSeen hS.1 (by omega) kn22 (lv_same hn hc (fun k h1 h2 => hS.2 78 k (by (try dsimp only); first | omega | (simp only [Hs, Tl, Sc, isHs, isScr, isTs] at *; omega)))) (by rw [hS.row (x := 77) (fun k => (by (try dsimp only); first | omega | (simp only [Hs, Tl, Sc, isHs, isScr, isTs] at *; omega)))]; exact hp) hw (hT.keep (hS.row (fun k => (by (try dsimp only); first | omega | (simp only [Hs, Tl, Sc, isHs, isScr, isTs] at *; omega)))) (hS.row (fun k => (by (try dsimp only); first | omega | (simp only [Hs, Tl, Sc, isHs, isScr, isTs] at *; omega))))) (by omega) kn23 (fun i hi => ⟨(hS.2 86 i (by (try dsimp only); first | omega | (simp only [Hs, Tl, Sc, isHs, isScr, isTs] at *; omega))).trans (hse i hi).1, (hS.2 87 i (by (try dsimp only); first | omega | (simp only [Hs, Tl, Sc, isHs, isScr, isTs] at *; omega))).trans (hse i hi).2.1, (hse i hi).2.2⟩) (by omega) (by omega) (fun r31 Nr31 hTr31 hr31 => ?_)
      have kn32 := (hTr31.2 (76) 0 (by (try dsimp only); first | omega | (simp only [Hs, Tl, Sc, isHs, isScr, isTs] at *; omega))).trans kn22
      have kn33 := (hTr31.2 (76) 15 (by (try dsimp only); first | omega | (simp only [Hs, Tl, Sc, isHs, isScr, isTs] at *; omega))).trans kn23
      have hS := hS.tr hTr31 (by intro i k; first | exact rfl | exact fun h => h.elim | omega | (dsimp only; omega) | (simp only [Hs, Tl, Sc, isHs, isScr, isTs] at *; omega))
      dsimp only [Option.toList, List.cons_append, List.nil_append]
      rcases hr31 with ⟨rfl, hfir31⟩ | ⟨rfl, hfir31⟩
      · skip
        refine w_ieq 39 35 (by decide +kernel) (fun hz => absurd hz (by decide)) (fun _ => ?_)
        refine w_pushN 4 36 (by decide +kernel) ?_
        refine w_goto 40 (by decide +kernel) ?_
        refine w_addN 4 41 (by decide +kernel) (by omega) ?_
        exact w_ret (by decide +kernel) (hq _ Nr31 hS (by rw [← set3, hfir1, hfir21, hfir31] <;> decide))
      · skip
        refine w_ieq 39 35 (by decide +kernel) (fun _ => ?_) (fun hz => absurd hz (by decide))
        refine w_pushN 0 40 (by decide +kernel) ?_
        refine w_addN 0 41 (by decide +kernel) (by omega) ?_
        exact w_ret (by decide +kernel) (hq _ Nr31 hS (by rw [← set3, hfir1, hfir21, hfir31] <;> decide))
-- X8_likely#s
set_option maxRecDepth 10000 in
theorem s_likely8 {d : Nat} {M : Mt} {L : Lt} {Q : Option Value → Mt → Lt → Prop} {n m : Nat} {c pw sg sf : Row} {T : TLs} {on : Nat → Nat} {a : Int32} {b : Int32} (hI : Inv M) (hn : n ≤ 5) (en : M 76 0 = nI n) (hc : HE n (lvC M 0) c) (hp : LQ n (M 77) pw) (hw : wedOk n c) (hT : tlM T M) (hm : m ≤ 6) (em : M 76 15 = nI m) (hse : ∀ i, i < m → M 86 i = sg i ∧ M 87 i = facM (sf i) ∧ okF (sf i)) (ho : ∀ t, t < 3 → M 85 t = nI (on t)) (hon : ∀ t, on t ≤ 10) (hd : 6 ≤ d) (hq : ∀ (r : Int32) (N : Mt), St (fun i k => (i = 78 ∧ 22 ≤ k) ∨ i = 83 ∨ i = 84 ∨ (i = 76 ∧ (k = 7 ∨ k = 11))) M N → ((r = -1 ∧ ¬ (∃ k, k < 3 ∧ a = nI k)) ∨ (∃ t, t < 3 ∧ a = nI t ∧ lkR on (fitB n T pw c m sg sf) t b r)) → Q (some (.int r)) N L) : Wp d 194 0 [.ref 76, .int a, .int b, .null, .null, .null, .null] [] M L Q := by
  refine (show ∀ N : Mt, N = M → St (fun i k => (i = 78 ∧ 22 ≤ k) ∨ i = 83 ∨ i = 84 ∨ (i = 76 ∧ (k = 7 ∨ k = 11))) M N → Wp d 194 0 [.ref 76, .int a, .int b, .null, .null, .null, .null] [] N L Q from ?_) M rfl (St.rf hI)
  intro N hNM hS
  have kz0 : N (76) 0 = nI n := by rw [hNM]; exact en
  have kz1 : N (76) 15 = nI m := by rw [hNM]; exact em
  refine w_load (.iload_n 1) 1 (by decide +kernel) rfl rfl ?_
  refine w_callS1 142 1 4 (by decide +kernel) (Nat.le_of_ble_eq_true rfl) rfl (by decide) (by omega) ?_
  refine k_142 hS.1  (by omega) (fun r1 hr1 => ?_)
  dsimp only [Option.toList, List.cons_append, List.nil_append]
  rcases hr1 with ⟨rfl, k2, hk2, rfl⟩ | ⟨rfl, hnok2⟩
  · skip
    refine w_ine 9 7 (by decide +kernel) (fun _ => ?_) (fun hz => absurd hz (by decide))
    refine w_load (.aload_n 0) 10 (by decide +kernel) rfl rfl ?_
    refine w_callV0 192 8 1 13 (by decide +kernel) sh_76 (Nat.le_of_ble_eq_true rfl)  (by decide) (by omega) ?_
    refine s_which8 hS.1 (by omega) kz0 (by rw [hNM]; exact hc) (by rw [hS.row (x := 77) (fun k => (by (try dsimp only); first | omega | (simp only [Hs, Tl, Sc, isHs, isScr, isTs] at *; omega)))]; exact hp) hw (hT.keep (hS.row (fun k => (by (try dsimp only); first | omega | (simp only [Hs, Tl, Sc, isHs, isScr, isTs] at *; omega)))) (hS.row (fun k => (by (try dsimp only); first | omega | (simp only [Hs, Tl, Sc, isHs, isScr, isTs] at *; omega))))) (by omega) kz1 (fun i hi => ⟨(hS.2 86 i (by (try dsimp only); first | omega | (simp only [Hs, Tl, Sc, isHs, isScr, isTs] at *; omega))).trans (hse i hi).1, (hS.2 87 i (by (try dsimp only); first | omega | (simp only [Hs, Tl, Sc, isHs, isScr, isTs] at *; omega))).trans (hse i hi).2.1, (hse i hi).2.2⟩) (by omega) (fun r4 Nr4 hTr4 hr4 => ?_)
    have kn5 := (hTr4.2 (76) 0 (by (try dsimp only); first | omega | (simp only [Hs, Tl, Sc, isHs, isScr, isTs] at *; omega))).trans kz0
    have kn6 := (hTr4.2 (76) 15 (by (try dsimp only); first | omega | (simp only [Hs, Tl, Sc, isHs, isScr, isTs] at *; omega))).trans kz1
    have hS := hS.tr hTr4 (by intro i k; first | exact rfl | exact fun h => h.elim | omega | (dsimp only; omega) | (simp only [Hs, Tl, Sc, isHs, isScr, isTs] at *; omega))
    have esx := hr4
    dsimp only [Option.toList, List.cons_append, List.nil_append]
    refine w_store (ls' := [.ref 76, .int (nI k2), .int b, .int r4, .null, .null, .null]) (.istore_n 3) 14 (by decide +kernel) rfl rfl ?_
    refine w_pushN 0 15 (by decide +kernel) ?_
    refine w_store (ls' := [.ref 76, .int (nI k2), .int b, .int r4, .int (nI 0), .null, .null]) (.istore 4) 17 (by decide +kernel) rfl rfl ?_
    refine w_pushN 0 18 (by decide +kernel) ?_
    refine w_store (ls' := [.ref 76, .int (nI k2), .int b, .int r4, .int (nI 0), .int (nI 0), .null]) (.istore 5) 20 (by decide +kernel) rfl rfl ?_
    have LP_20 : ∀ (kk : Nat) (N_20 : Mt) (g4 : Nat) (g5 : Nat), St (fun i k => (i = 78 ∧ 22 ≤ k) ∨ i = 83 ∨ i = 84 ∨ (i = 76 ∧ (k = 7 ∨ k = 11))) M N_20 → g5 ≤ 3 → g4 = sumN g5 (odF on (fitB n T pw c m sg sf)) → g4 ≤ 10 * g5 → 3 - g5 < kk → Wp d 194 20 [.ref 76, .int (nI k2), .int b, .int r4, .int (nI g4), .int (nI g5), .null] [] N_20 L Q := by
      intro kk
      induction kk with
      | zero => intro N_20 g4 g5 hS hi0_20 hi1_20 hi2_20 hm_20; exact absurd hm_20 (Nat.not_lt_zero _)
      | succ kk ih_20 =>
        intro N_20 g4 g5 hS hi0_20 hi1_20 hi2_20 hm_20
        have hob := hon g5
        refine w_load (.iload 5) 22 (by decide +kernel) rfl rfl ?_
        refine w_pushN 3 23 (by decide +kernel) ?_
        refine w_cgeN 57 26 (by decide +kernel) (by omega) (by omega) (fun h7 => ?_) (fun h7 => ?_)
        · skip
          have hob1 := hon k2
          have hgn : g5 = 3 := (by omega)
          rw [hgn] at hi1_20 hi2_20
          refine w_load (.iload 4) 59 (by decide +kernel) rfl rfl ?_
          refine w_ineN 65 62 (by decide +kernel) (by omega) (fun h8 => ?_) (fun h8 => ?_)
          · skip
            refine w_load (.iload_n 3) 66 (by decide +kernel) rfl rfl ?_
            refine w_load (.iload_n 1) 67 (by decide +kernel) rfl rfl ?_
            refine w_callS2 135 2 70 (by decide +kernel) (Nat.le_of_ble_eq_true rfl) rfl rfl (by decide) (by omega) ?_
            refine k_135 hS.1  (by omega) (fun r9 hr9 => ?_)
            dsimp only [Option.toList, List.cons_append, List.nil_append]
            rcases hr9 with ⟨rfl, hbr9⟩ | ⟨rfl, hbr9⟩
            · skip
              have htr9 := tb_hb (by omega) hbr9
              refine w_ieq 82 73 (by decide +kernel) (fun hz => absurd hz (by decide)) (fun _ => ?_)
              refine w_load (.aload_n 0) 74 (by decide +kernel) rfl rfl ?_
              refine w_getR (k := 14) (r := 85) 77 (by decide +kernel) sh_76 rfl ?_
              refine w_load (.iload_n 1) 78 (by decide +kernel) rfl rfl ?_
              refine w_ialdK 79 (by decide +kernel) sh_85 (by decide) (by omega) ((hS.2 85 k2 (by (try dsimp only); first | omega | (simp only [Hs, Tl, Sc, isHs, isScr, isTs] at *; omega))).trans (ho k2 (by omega))) ?_
              refine w_goto 83 (by decide +kernel) ?_
              refine w_store (ls' := [.ref 76, .int (nI k2), .int b, .int r4, .int (nI g4), .int (nI (on k2)), .null]) (.istore 5) 85 (by decide +kernel) rfl rfl ?_
              have eo : odF on (fitB n T pw c m sg sf) k2 = on k2 := by first | exact od_t (tb_3 (by omega) (by rw [← esx]; assumption)) | exact od_f (tb_3 (by omega) (by rw [← esx]; assumption))
              refine w_load (.iload 5) 87 (by decide +kernel) rfl rfl ?_
              refine w_load (.iload 4) 89 (by decide +kernel) rfl rfl ?_
              refine w_callS2 193 5 92 (by decide +kernel) (Nat.le_of_ble_eq_true rfl) rfl rfl (by decide) (by omega) ?_
              refine s_common hS.1 (by omega) (by omega) (by omega) (by omega) (fun r11 hr11 => ?_)
              dsimp only [Option.toList, List.cons_append, List.nil_append]
              rcases hr11 with rfl
              · skip
                have hgp := Nat.gcd_pos_of_pos_right (on k2) (show 0 < g4 by omega)
                have hgl := Nat.le_of_dvd (show 0 < g4 by omega) (Nat.gcd_dvd_right (on k2) g4)
                refine w_store (ls' := [.ref 76, .int (nI k2), .int b, .int r4, .int (nI g4), .int (nI (on k2)), .int (nI ((Nat.gcd (on k2) g4)))]) (.istore 6) 94 (by decide +kernel) rfl rfl ?_
                refine w_load (.iload_n 2) 95 (by decide +kernel) rfl rfl ?_
                refine w_ieq 106 98 (by decide +kernel) (fun h12 => ?_) (fun h12 => ?_)
                · skip
                  refine w_load (.iload 4) 108 (by decide +kernel) rfl rfl ?_
                  refine w_load (.iload 6) 110 (by decide +kernel) rfl rfl ?_
                  refine w_divN (g4 / (Nat.gcd (on k2) g4)) 111 (by decide +kernel) (by omega) (by omega) (by omega) rfl ?_
                  exact w_ret (by decide +kernel) (hq _ N_20 hS (Or.inr ⟨_, by assumption, rfl, Or.inr ⟨by omega, by rw [← hi1_20, eo]; first | rw [if_pos (by assumption)] | rw [if_neg (by assumption)]⟩⟩))
                · skip
                  refine w_load (.iload 5) 100 (by decide +kernel) rfl rfl ?_
                  refine w_load (.iload 6) 102 (by decide +kernel) rfl rfl ?_
                  refine w_divN ((on k2) / (Nat.gcd (on k2) g4)) 103 (by decide +kernel) (by omega) (by omega) (by omega) rfl ?_
                  refine w_goto 111 (by decide +kernel) ?_
                  exact w_ret (by decide +kernel) (hq _ N_20 hS (Or.inr ⟨_, by assumption, rfl, Or.inr ⟨by omega, by rw [← hi1_20, eo]; first | rw [if_pos (by assumption)] | rw [if_neg (by assumption)]⟩⟩))
            · skip
              have htr9 := tb_nhb (by omega) hbr9
              refine w_ieq 82 73 (by decide +kernel) (fun _ => ?_) (fun hz => absurd hz (by decide))
              refine w_pushN 0 83 (by decide +kernel) ?_
              refine w_store (ls' := [.ref 76, .int (nI k2), .int b, .int r4, .int (nI g4), .int (nI 0), .null]) (.istore 5) 85 (by decide +kernel) rfl rfl ?_
              have eo : odF on (fitB n T pw c m sg sf) k2 = 0 := by first | exact od_t (tb_3 (by omega) (by rw [← esx]; assumption)) | exact od_f (tb_3 (by omega) (by rw [← esx]; assumption))
              refine w_load (.iload 5) 87 (by decide +kernel) rfl rfl ?_
              refine w_load (.iload 4) 89 (by decide +kernel) rfl rfl ?_
              refine w_callS2 193 5 92 (by decide +kernel) (Nat.le_of_ble_eq_true rfl) rfl rfl (by decide) (by omega) ?_
              refine s_common hS.1 (by omega) (by omega) (by omega) (by omega) (fun r14 hr14 => ?_)
              dsimp only [Option.toList, List.cons_append, List.nil_append]
              rcases hr14 with rfl
              · skip
                have hgp := Nat.gcd_pos_of_pos_right 0 (show 0 < g4 by omega)
                have hgl := Nat.le_of_dvd (show 0 < g4 by omega) (Nat.gcd_dvd_right 0 g4)
                refine w_store (ls' := [.ref 76, .int (nI k2), .int b, .int r4, .int (nI g4), .int (nI 0), .int (nI ((Nat.gcd 0 g4)))]) (.istore 6) 94 (by decide +kernel) rfl rfl ?_
                refine w_load (.iload_n 2) 95 (by decide +kernel) rfl rfl ?_
                refine w_ieq 106 98 (by decide +kernel) (fun h15 => ?_) (fun h15 => ?_)
                · skip
                  refine w_load (.iload 4) 108 (by decide +kernel) rfl rfl ?_
                  refine w_load (.iload 6) 110 (by decide +kernel) rfl rfl ?_
                  refine w_divN (g4 / (Nat.gcd 0 g4)) 111 (by decide +kernel) (by omega) (by omega) (by omega) rfl ?_
                  exact w_ret (by decide +kernel) (hq _ N_20 hS (Or.inr ⟨_, by assumption, rfl, Or.inr ⟨by omega, by rw [← hi1_20, eo]; first | rw [if_pos (by assumption)] | rw [if_neg (by assumption)]⟩⟩))
                · skip
                  refine w_load (.iload 5) 100 (by decide +kernel) rfl rfl ?_
                  refine w_load (.iload 6) 102 (by decide +kernel) rfl rfl ?_
                  refine w_divN (0 / (Nat.gcd 0 g4)) 103 (by decide +kernel) (by omega) (by omega) (by omega) rfl ?_
                  refine w_goto 111 (by decide +kernel) ?_
                  exact w_ret (by decide +kernel) (hq _ N_20 hS (Or.inr ⟨_, by assumption, rfl, Or.inr ⟨by omega, by rw [← hi1_20, eo]; first | rw [if_pos (by assumption)] | rw [if_neg (by assumption)]⟩⟩))
          · skip
            refine w_push (-3) 64 (by decide +kernel) ?_
            exact w_ret (by decide +kernel) (hq _ N_20 hS (Or.inr ⟨_, by assumption, rfl, Or.inl ⟨by omega, rfl⟩⟩))
        · skip
          refine w_load (.iload 4) 28 (by decide +kernel) rfl rfl ?_
          refine w_load (.iload_n 3) 29 (by decide +kernel) rfl rfl ?_
          refine w_load (.iload 5) 31 (by decide +kernel) rfl rfl ?_
          refine w_callS2 135 2 34 (by decide +kernel) (Nat.le_of_ble_eq_true rfl) rfl rfl (by decide) (by omega) ?_
          refine k_135 hS.1  (by omega) (fun r16 hr16 => ?_)
          dsimp only [Option.toList, List.cons_append, List.nil_append]
          rcases hr16 with ⟨rfl, hbr16⟩ | ⟨rfl, hbr16⟩
          · skip
            have htr16 := tb_hb (by omega) hbr16
            refine w_ieq 47 37 (by decide +kernel) (fun hz => absurd hz (by decide)) (fun _ => ?_)
            refine w_load (.aload_n 0) 38 (by decide +kernel) rfl rfl ?_
            refine w_getR (k := 14) (r := 85) 41 (by decide +kernel) sh_76 rfl ?_
            refine w_load (.iload 5) 43 (by decide +kernel) rfl rfl ?_
            refine w_ialdK 44 (by decide +kernel) sh_85 (by decide) (by omega) ((hS.2 85 g5 (by (try dsimp only); first | omega | (simp only [Hs, Tl, Sc, isHs, isScr, isTs] at *; omega))).trans (ho g5 (by omega))) ?_
            refine w_goto 48 (by decide +kernel) ?_
            refine w_addN (g4 + on g5) 49 (by decide +kernel) (by omega) ?_
            refine w_store (ls' := [.ref 76, .int (nI k2), .int b, .int r4, .int (nI (g4 + on g5)), .int (nI g5), .null]) (.istore 4) 51 (by decide +kernel) rfl rfl ?_
            refine w_iincN (z := 5) (g5 + 1) 54 (by decide +kernel) rfl (Nat.le_of_ble_eq_true rfl) rfl rfl ?_
            show Wp _ _ _ [.ref 76, .int (nI k2), .int b, .int r4, .int (nI (g4 + on g5)), .int (nI (g5 + 1)), .null] _ _ _ _
            refine w_goto 20 (by decide +kernel) ?_
            exact ih_20 N_20 (g4 + on g5) (g5 + 1) hS (by first | omega | (rw [sN_t (f := (fitB n T pw c m sg sf)) (tb_3 (by omega) (by rw [← esx]; assumption))]; omega) | (rw [sN_f (f := (fitB n T pw c m sg sf)) (tb_3 (by omega) (by rw [← esx]; assumption))]; omega)) (by first | omega | (rw [sN_t (f := (fitB n T pw c m sg sf)) (tb_3 (by omega) (by rw [← esx]; assumption))]; omega) | (rw [sN_f (f := (fitB n T pw c m sg sf)) (tb_3 (by omega) (by rw [← esx]; assumption))]; omega)) (by first | omega | (rw [sN_t (f := (fitB n T pw c m sg sf)) (tb_3 (by omega) (by rw [← esx]; assumption))]; omega) | (rw [sN_f (f := (fitB n T pw c m sg sf)) (tb_3 (by omega) (by rw [← esx]; assumption))]; omega)) (by omega)
          · skip
            have htr16 := tb_nhb (by omega) hbr16
            refine w_ieq 47 37 (by decide +kernel) (fun _ => ?_) (fun hz => absurd hz (by decide))
            refine w_pushN 0 48 (by decide +kernel) ?_
            refine w_addN g4 49 (by decide +kernel) (by omega) ?_
            refine w_store (ls' := [.ref 76, .int (nI k2), .int b, .int r4, .int (nI g4), .int (nI g5), .null]) (.istore 4) 51 (by decide +kernel) rfl rfl ?_
            refine w_iincN (z := 5) (g5 + 1) 54 (by decide +kernel) rfl (Nat.le_of_ble_eq_true rfl) rfl rfl ?_
            show Wp _ _ _ [.ref 76, .int (nI k2), .int b, .int r4, .int (nI g4), .int (nI (g5 + 1)), .null] _ _ _ _
            refine w_goto 20 (by decide +kernel) ?_
            exact ih_20 N_20 g4 (g5 + 1) hS (by first | omega | (rw [sN_t (f := (fitB n T pw c m sg sf)) (tb_3 (by omega) (by rw [← esx]; assumption))]; omega) | (rw [sN_f (f := (fitB n T pw c m sg sf)) (tb_3 (by omega) (by rw [← esx]; assumption))]; omega)) (by first | omega | (rw [sN_t (f := (fitB n T pw c m sg sf)) (tb_3 (by omega) (by rw [← esx]; assumption))]; omega) | (rw [sN_f (f := (fitB n T pw c m sg sf)) (tb_3 (by omega) (by rw [← esx]; assumption))]; omega)) (by first | omega | (rw [sN_t (f := (fitB n T pw c m sg sf)) (tb_3 (by omega) (by rw [← esx]; assumption))]; omega) | (rw [sN_f (f := (fitB n T pw c m sg sf)) (tb_3 (by omega) (by rw [← esx]; assumption))]; omega)) (by omega)
    exact LP_20 _ Nr4 0 0 hS (by first | omega | rfl) (by first | omega | rfl) (by first | omega | rfl) (Nat.lt_succ_self _)
  · skip
    refine w_ine 9 7 (by decide +kernel) (fun hz => absurd hz (by decide)) (fun _ => ?_)
    refine w_push (-1) 8 (by decide +kernel) ?_
    exact w_ret (by decide +kernel) (hq _ N hS (Or.inl ⟨rfl, by assumption⟩))
