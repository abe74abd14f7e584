-- X8_choose#s
set_option maxRecDepth 10000 in
theorem s_choose {d : Nat} {M : Mt} {L : Lt} {Q : Option Value → Mt → Lt → Prop} {lv x k n p : Nat} {s : TSt}  (hI : Inv M) (hlv : lv ≤ 7) (hn : n ≤ 5) (en : M 76 0 = nI n) (hs : HE n (lvC M lv) s.1 ∧ LQ n (lvL M lv) s.2.1) (hw : wedOk n s.1) (hx : x < 64) (hk : k ≤ 40) (hd : 2 ≤ d) (hq : ∀ (r : Int32) (N : Mt), St (fun i k => (i = 78 ∧ 22 * lv ≤ k ∧ k < 22 * lv + 22)) M N → ((r = 1 ∧ k < 40 ∧ ∃ s', chK n (nI x) p s k s' ∧ HE n (lvC N lv) s'.1 ∧ LQ n (lvL N lv) s'.2.1) ∨ (r = 0 ∧ ∀ k', k ≤ k' → ∀ s', ¬ chK n (nI x) p s k' s')) → Q (some (.int r)) N L) : Wp d 176 0 [.ref 76, .int (nI lv), .int (nI x), .int (nI k), .null, .null, .null, .null, .null, .null, .null, .null] [] M L Q := by
  refine (show ∀ N : Mt, N = M → St (fun i k => (i = 78 ∧ 22 * lv ≤ k ∧ k < 22 * lv + 22)) M N → Wp d 176 0 [.ref 76, .int (nI lv), .int (nI x), .int (nI k), .null, .null, .null, .null, .null, .null, .null, .null] [] N L Q from ?_) M rfl (St.rf hI)
  intro N hNM hS
  have kz0 : N (76) 0 = nI n := by rw [hNM]; exact en
  refine w_load (.aload_n 0) 1 (by decide +kernel) rfl rfl ?_
  refine w_load (.iload_n 1) 2 (by decide +kernel) rfl rfl ?_
  refine w_load (.iload_n 2) 3 (by decide +kernel) rfl rfl ?_
  refine w_pushN 4 4 (by decide +kernel) ?_
  refine w_divN (x / 4) 5 (by decide +kernel) (by decide) (by decide) (by omega) rfl ?_
  refine w_pushN 4 6 (by decide +kernel) ?_
  refine w_remN (((x / 4)) % 4) 7 (by decide +kernel) (by decide) (by decide) (by omega) rfl ?_
  refine w_callV2 152 8 6 10 (by decide +kernel) sh_76 (Nat.le_of_ble_eq_true rfl) rfl rfl (by decide) (by omega) ?_
  refine s_bearsAt hS.1 (by omega) (by omega) kz0 (by rw [hNM]; exact hs.1) (by omega) (fun r1 hr1 => ?_)
  dsimp only [Option.toList, List.cons_append, List.nil_append]
  rcases hr1 with rfl
  · skip
    refine w_topi (fun v2 ev2 => ?_)
    refine w_store (ls' := [.ref 76, .int (nI lv), .int (nI x), .int (nI k), .int v2, .null, .null, .null, .null, .null, .null, .null]) (.istore 4) 12 (by decide +kernel) rfl rfl ?_
    have eB : v2 = bears n s.1 (fstD (nI x)) := by rw [ev2, fst_num hx]
    have hv5 : is5 v2 := by rw [eB]; exact is5_set hn
    refine w_load (.aload_n 0) 13 (by decide +kernel) rfl rfl ?_
    refine w_load (.iload_n 1) 14 (by decide +kernel) rfl rfl ?_
    refine w_load (.iload 4) 16 (by decide +kernel) rfl rfl ?_
    refine w_callV2 155 8 5 19 (by decide +kernel) sh_76 (Nat.le_of_ble_eq_true rfl) rfl rfl (by decide) (by omega) ?_
    refine s_strong hS.1 (by omega) (by omega) kz0 (by rw [hNM]; exact hs.2) (by omega) (fun r3 hr3 => ?_)
    dsimp only [Option.toList, List.cons_append, List.nil_append]
    rcases hr3 with rfl
    · skip
      refine w_topi (fun v4 ev4 => ?_)
      refine w_store (ls' := [.ref 76, .int (nI lv), .int (nI x), .int (nI k), .int v2, .int v4, .null, .null, .null, .null, .null, .null]) (.istore 5) 21 (by decide +kernel) rfl rfl ?_
      have eD : v4 = dorI n (nI x) s := by rw [ev4, eB]; rfl
      have hv6 : is5 v4 := by rw [eD]; exact is5_dor hn
      refine w_load (.iload 5) 23 (by decide +kernel) rfl rfl ?_
      refine w_ine 66 26 (by decide +kernel) (fun h5 => ?_) (fun h5 => ?_)
      · skip
        have hnz : ¬ dorI n (nI x) s = 0 := fun z => h5 (eD.trans z)
        refine w_load (.iload_n 3) 67 (by decide +kernel) rfl rfl ?_
        refine w_store (ls' := [.ref 76, .int (nI lv), .int (nI x), .int (nI k), .int v2, .int v4, .int (nI k), .null, .null, .null, .null, .null]) (.istore 6) 69 (by decide +kernel) rfl rfl ?_
        refine w_pushN 0 70 (by decide +kernel) ?_
        refine w_store (ls' := [.ref 76, .int (nI lv), .int (nI x), .int (nI k), .int v2, .int v4, .int (nI k), .int (nI 0), .null, .null, .null, .null]) (.istore 7) 72 (by decide +kernel) rfl rfl ?_
        have LP_72 : ∀ (kk : Nat) (N_72 : Mt) (g6 : Nat) (g7 : Nat), St (fun i k => (i = 78 ∧ 22 * lv ≤ k ∧ k < 22 * lv + 22)) M N_72 → g7 ≤ 5 → ofD n (nI x) s g7 + g6 = k → g7 ≤ n → HE n (lvC N_72 lv) s.1 → LQ n (lvL N_72 lv) s.2.1 → 5 - g7 < kk → Wp d 176 72 [.ref 76, .int (nI lv), .int (nI x), .int (nI k), .int v2, .int v4, .int (nI g6), .int (nI g7), .null, .null, .null, .null] [] N_72 L Q := by
          intro kk
          induction kk with
          | zero => intro N_72 g6 g7 hS hi0_72 hi1_72 hi2_72 hi3_72 hi4_72 hm_72; exact absurd hm_72 (Nat.not_lt_zero _)
          | succ kk ih_72 =>
            intro N_72 g6 g7 hS hi0_72 hi1_72 hi2_72 hi3_72 hi4_72 hm_72
            refine w_load (.iload 7) 74 (by decide +kernel) rfl rfl ?_
            refine w_load (.aload_n 0) 75 (by decide +kernel) rfl rfl ?_
            refine w_getK (k := 0) 78 (by decide +kernel) sh_76 rfl ((hS.2 76 0 (by (try dsimp only); first | omega | (simp only [Hs, Tl, Sc, isHs, isScr, isTs] at *; omega))).trans en) ?_
            refine w_cgeN 229 81 (by decide +kernel) (by omega) (by omega) (fun h6 => ?_) (fun h6 => ?_)
            · skip
              refine w_pushN 0 230 (by decide +kernel) ?_
              exact w_retZ (by decide +kernel) (Or.inl rfl) (hq _ N_72 hS (Or.inr ⟨rfl, ch_no hnz (by have hgn : g7 = n := (by omega); rw [hgn] at hi1_72; omega)⟩))
            · skip
              refine w_load (.iload 5) 83 (by decide +kernel) rfl rfl ?_
              refine w_load (.iload 7) 85 (by decide +kernel) rfl rfl ?_
              refine w_callS2 135 2 88 (by decide +kernel) (Nat.le_of_ble_eq_true rfl) rfl rfl (by decide) (by omega) ?_
              refine k_135 hS.1  (by omega) (fun r7 hr7 => ?_)
              dsimp only [Option.toList, List.cons_append, List.nil_append]
              rcases hr7 with ⟨rfl, hbr7⟩ | ⟨rfl, hbr7⟩
              · skip
                have htr7 := tb_hb (by omega) hbr7
                refine w_ieq 109 91 (by decide +kernel) (fun hz => absurd hz (by decide)) (fun _ => ?_)
                refine w_load (.aload_n 0) 92 (by decide +kernel) rfl rfl ?_
                refine w_load (.iload_n 1) 93 (by decide +kernel) rfl rfl ?_
                refine w_load (.iload_n 2) 94 (by decide +kernel) rfl rfl ?_
                refine w_pushN 4 95 (by decide +kernel) ?_
                refine w_remN (x % 4) 96 (by decide +kernel) (by decide) (by decide) (by omega) rfl ?_
                refine w_callV2 152 8 6 99 (by decide +kernel) sh_76 (Nat.le_of_ble_eq_true rfl) rfl rfl (by decide) (by omega) ?_
                refine s_bearsAt hS.1 (by omega) (by omega) ((hS.2 76 0 (by (try dsimp only); first | omega | (simp only [Hs, Tl, Sc, isHs, isScr, isTs] at *; omega))).trans en) hi3_72 (by omega) (fun r9 hr9 => ?_)
                dsimp only [Option.toList, List.cons_append, List.nil_append]
                rcases hr9 with rfl
                · skip
                  refine w_pushN 1 100 (by decide +kernel) ?_
                  refine w_load (.iload 7) 102 (by decide +kernel) rfl rfl ?_
                  refine w_pure .ishl 103 (by decide +kernel) rfl rfl ?_
                  refine w_push (-1) 104 (by decide +kernel) ?_
                  refine w_pure .ixor 105 (by decide +kernel) rfl rfl ?_
                  refine w_pure .iand 106 (by decide +kernel) rfl rfl ?_
                  refine w_goto 110 (by decide +kernel) ?_
                  refine w_topi (fun v10 ev10 => ?_)
                  refine w_store (ls' := [.ref 76, .int (nI lv), .int (nI x), .int (nI k), .int v2, .int v4, .int (nI g6), .int (nI g7), .int v10, .null, .null, .null]) (.istore 8) 112 (by decide +kernel) rfl rfl ?_
                  have eO : v10 = othI n (nI x) s g7 := by rw [ev10]; unfold othI clr; rw [snd_num2 hx]; rfl
                  have hv8 : is5 v10 := by rw [eO]; exact is5_oth hn
                  have hdr : tb (dorI n (nI x) s) g7 = true := by rw [← eD]; exact tb_hb (by omega) hbr7
                  have hdn : g7 < n := dor_lt hn hdr
                  refine w_load (.iload 5) 114 (by decide +kernel) rfl rfl ?_
                  refine w_load (.iload 7) 116 (by decide +kernel) rfl rfl ?_
                  refine w_callS2 135 2 119 (by decide +kernel) (Nat.le_of_ble_eq_true rfl) rfl rfl (by decide) (by omega) ?_
                  refine k_135 hS.1  (by omega) (fun r11 hr11 => ?_)
                  dsimp only [Option.toList, List.cons_append, List.nil_append]
                  rcases hr11 with ⟨rfl, hbr11⟩ | ⟨rfl, hbr11⟩
                  · skip
                    refine w_ine 126 122 (by decide +kernel) (fun _ => ?_) (fun hz => absurd hz (by decide))
                    refine w_load (.iload 8) 128 (by decide +kernel) rfl rfl ?_
                    refine w_ine 135 131 (by decide +kernel) (fun h13 => ?_) (fun h13 => ?_)
                    · skip
                      refine w_load (.iload 8) 137 (by decide +kernel) rfl rfl ?_
                      refine w_callS1 136 3 140 (by decide +kernel) (Nat.le_of_ble_eq_true rfl) rfl (by decide) (by omega) ?_
                      refine s_ones5 hS.1 hv8 (by omega) (fun r14 hr14 => ?_)
                      dsimp only [Option.toList, List.cons_append, List.nil_append]
                      rcases hr14 with rfl
                      · skip
                        have hcb := cb_le (x := v10) 5
                        refine w_store (ls' := [.ref 76, .int (nI lv), .int (nI x), .int (nI k), .int v2, .int v4, .int (nI g6), .int (nI g7), .int v10, .int (nI ((cntB v10 5))), .null, .null]) (.istore 9) 142 (by decide +kernel) rfl rfl ?_
                        refine w_load (.iload 6) 144 (by decide +kernel) rfl rfl ?_
                        refine w_iltN 216 147 (by decide +kernel) (by omega) ?_
                        refine w_load (.iload 6) 149 (by decide +kernel) rfl rfl ?_
                        refine w_load (.iload 9) 151 (by decide +kernel) rfl rfl ?_
                        refine w_cgeN 216 154 (by decide +kernel) (by omega) (by omega) (fun h16 => ?_) (fun h16 => ?_)
                        · skip
                          have hmn : mnD n (nI x) s g7 = (cntB v10 5) := by rw [eO]; exact mn_t hdr (fun z => (by assumption : ¬ v10 = 0) (eO.trans z))
                          have hof : ofD n (nI x) s (g7 + 1) = ofD n (nI x) s g7 + mnD n (nI x) s g7 := rfl
                          refine w_load (.iload 6) 218 (by decide +kernel) rfl rfl ?_
                          refine w_load (.iload 9) 220 (by decide +kernel) rfl rfl ?_
                          refine w_subN (g6 - (cntB v10 5)) 221 (by decide +kernel) (by omega) rfl ?_
                          refine w_store (ls' := [.ref 76, .int (nI lv), .int (nI x), .int (nI k), .int v2, .int v4, .int (nI ((g6 - (cntB v10 5)))), .int (nI g7), .int v10, .int (nI ((cntB v10 5))), .null, .null]) (.istore 6) 223 (by decide +kernel) rfl rfl ?_
                          refine w_iincN (z := 7) (g7 + 1) 226 (by decide +kernel) rfl (Nat.le_of_ble_eq_true rfl) rfl rfl ?_
                          show Wp _ _ _ [.ref 76, .int (nI lv), .int (nI x), .int (nI k), .int v2, .int v4, .int (nI ((g6 - (cntB v10 5)))), .int (nI (g7 + 1)), .int v10, .int (nI ((cntB v10 5))), .null, .null] _ _ _ _
                          refine w_goto 72 (by decide +kernel) ?_
                          refine Wp.forget (ls := [.ref 76, .int (nI lv), .int (nI x), .int (nI k), .int v2, .int v4, .int (nI ((g6 - (cntB v10 5)))), .int (nI (g7 + 1)), .null, .null, .null, .null]) ⟨Or.inl rfl, Or.inl rfl, Or.inl rfl, Or.inl rfl, Or.inl rfl, Or.inl rfl, Or.inl rfl, Or.inl rfl, Or.inr ⟨rfl, rfl⟩, Or.inr ⟨rfl, rfl⟩, Or.inl rfl, Or.inl rfl, trivial⟩ ?_
                          exact ih_72 N_72 ((g6 - (cntB v10 5))) (g7 + 1) hS (by first | omega | assumption) (by first | omega | assumption) (by first | omega | assumption) (by first | omega | assumption) (by first | omega | assumption) (by omega)
                        · skip
                          have hmn : mnD n (nI x) s g7 = (cntB v10 5) := by rw [eO]; exact mn_t hdr (fun z => (by assumption : ¬ v10 = 0) (eO.trans z))
                          have hof : ofD n (nI x) s (g7 + 1) = ofD n (nI x) s g7 + mnD n (nI x) s g7 := rfl
                          refine w_push (-9) 156 (by decide +kernel) ?_
                          refine w_store (ls' := [.ref 76, .int (nI lv), .int (nI x), .int (nI k), .int v2, .int v4, .int (nI g6), .int (nI g7), .int v10, .int (nI ((cntB v10 5))), .int (-9), .null]) (.istore 10) 158 (by decide +kernel) rfl rfl ?_
                          refine w_pushN 0 159 (by decide +kernel) ?_
                          refine w_store (ls' := [.ref 76, .int (nI lv), .int (nI x), .int (nI k), .int v2, .int v4, .int (nI g6), .int (nI g7), .int v10, .int (nI ((cntB v10 5))), .int (-9), .int (nI 0)]) (.istore 11) 161 (by decide +kernel) rfl rfl ?_
                          have LP_161 : ∀ (kk : Nat) (N_161 : Mt) (x6_161 : Int32) (x10_161 : Int32) (g11 : Nat), St (fun i k => (i = 78 ∧ 22 * lv ≤ k ∧ k < 22 * lv + 22)) M N_161 → g11 ≤ 5 → inQ v10 g6 g11 x6_161 x10_161 → g11 ≤ n → HE n (lvC N_161 lv) s.1 → LQ n (lvL N_161 lv) s.2.1 → 5 - g11 < kk → Wp d 176 161 [.ref 76, .int (nI lv), .int (nI x), .int (nI k), .int v2, .int v4, .int x6_161, .int (nI g7), .int v10, .int (nI ((cntB v10 5))), .int x10_161, .int (nI g11)] [] N_161 L Q := by
                            intro kk
                            induction kk with
                            | zero => intro N_161 x6_161 x10_161 g11 hS hi0_161 hi1_161 hi2_161 hi3_161 hi4_161 hm_161; exact absurd hm_161 (Nat.not_lt_zero _)
                            | succ kk ih_161 =>
                              intro N_161 x6_161 x10_161 g11 hS hi0_161 hi1_161 hi2_161 hi3_161 hi4_161 hm_161
                              refine w_load (.iload 11) 163 (by decide +kernel) rfl rfl ?_
                              refine w_load (.aload_n 0) 164 (by decide +kernel) rfl rfl ?_
                              refine w_getK (k := 0) 167 (by decide +kernel) sh_76 rfl ((hS.2 76 0 (by (try dsimp only); first | omega | (simp only [Hs, Tl, Sc, isHs, isScr, isTs] at *; omega))).trans en) ?_
                              refine w_cgeN 203 170 (by decide +kernel) (by omega) (by omega) (fun h17 => ?_) (fun h17 => ?_)
                              · skip
                                obtain ⟨s', ho', hch⟩ := ch_pick (p := p) hn hdr hi1_72 (by omega) (by rw [← eO]; exact hi1_161) (by omega) (by omega)
                                refine w_load (.aload_n 0) 204 (by decide +kernel) rfl rfl ?_
                                refine w_load (.iload_n 1) 205 (by decide +kernel) rfl rfl ?_
                                refine w_load (.iload_n 2) 206 (by decide +kernel) rfl rfl ?_
                                refine w_load (.iload 7) 208 (by decide +kernel) rfl rfl ?_
                                refine w_load (.iload 10) 210 (by decide +kernel) rfl rfl ?_
                                refine w_callV4 156 8 9 213 (by decide +kernel) sh_76 (Nat.le_of_ble_eq_true rfl) rfl rfl rfl rfl (by decide) (by omega) ?_
                                refine s_act (p := p) hS.1 (by omega) (by omega) ⟨hi3_161, hi4_161⟩ hw hdn ho' (by omega) (fun r18 Nr18 hTr18 hr18 => ?_)
                                have kn19 := (hTr18.2 (76) 0 (by (try dsimp only); first | omega | (simp only [Hs, Tl, Sc, isHs, isScr, isTs] at *; omega))).trans ((hS.2 76 0 (by (try dsimp only); first | omega | (simp only [Hs, Tl, Sc, isHs, isScr, isTs] at *; omega))).trans en)
                                have hS := hS.tr hTr18 (by intro i k; first | exact rfl | exact fun h => h.elim | omega | (dsimp only; omega) | (simp only [Hs, Tl, Sc, isHs, isScr, isTs] at *; omega))
                                have hA := hr18.elim (fun z => z.2.1) (fun z => z.2.1)
                                have hB2 := hr18.elim (fun z => z.2.2.1) (fun z => z.2.2.1)
                                dsimp only [Option.toList, List.cons_append, List.nil_append]
                                refine w_pure .pop 214 (by decide +kernel) rfl rfl ?_
                                refine w_pushN 1 215 (by decide +kernel) ?_
                                exact w_retZ (by decide +kernel) (Or.inr rfl) (hq _ Nr18 hS (Or.inl ⟨rfl, hch.lt hn, s', hch, hA, hB2⟩))
                              · skip
                                refine w_load (.iload 8) 172 (by decide +kernel) rfl rfl ?_
                                refine w_load (.iload 11) 174 (by decide +kernel) rfl rfl ?_
                                refine w_callS2 135 2 177 (by decide +kernel) (Nat.le_of_ble_eq_true rfl) rfl rfl (by decide) (by omega) ?_
                                refine k_135 hS.1  (by omega) (fun r20 hr20 => ?_)
                                dsimp only [Option.toList, List.cons_append, List.nil_append]
                                rcases hr20 with ⟨rfl, hbr20⟩ | ⟨rfl, hbr20⟩
                                · skip
                                  have htr20 := tb_hb (by omega) hbr20
                                  refine w_ieq 197 180 (by decide +kernel) (fun hz => absurd hz (by decide)) (fun _ => ?_)
                                  refine w_load (.iload 6) 182 (by decide +kernel) rfl rfl ?_
                                  refine w_ine 190 185 (by decide +kernel) (fun h22 => ?_) (fun h22 => ?_)
                                  · skip
                                    refine w_load (.iload 10) 192 (by decide +kernel) rfl rfl ?_
                                    refine w_store (ls' := [.ref 76, .int (nI lv), .int (nI x), .int (nI k), .int v2, .int v4, .int x6_161, .int (nI g7), .int v10, .int (nI ((cntB v10 5))), .int x10_161, .int (nI g11)]) (.istore 10) 194 (by decide +kernel) rfl rfl ?_
                                    obtain ⟨v23, ev23⟩ : ∃ y : Int32, y = x6_161 + Int32.ofInt (-1) := ⟨_, rfl⟩
                                    refine w_store (ls' := [.ref 76, .int (nI lv), .int (nI x), .int (nI k), .int v2, .int v4, .int v23, .int (nI g7), .int v10, .int (nI ((cntB v10 5))), .int x10_161, .int (nI g11)]) (.iinc 6 (-1)) 197 (by decide +kernel) rfl (by rw [ev23]; rfl) ?_
                                    refine w_iincN (z := 11) (g11 + 1) 200 (by decide +kernel) rfl (Nat.le_of_ble_eq_true rfl) rfl rfl ?_
                                    show Wp _ _ _ [.ref 76, .int (nI lv), .int (nI x), .int (nI k), .int v2, .int v4, .int v23, .int (nI g7), .int v10, .int (nI ((cntB v10 5))), .int x10_161, .int (nI (g11 + 1))] _ _ _ _
                                    refine w_goto 161 (by decide +kernel) ?_
                                    exact ih_161 N_161 _ _ (g11 + 1) hS (by first | omega | assumption | exact hi1_161.hit (by omega) (by assumption) (by assumption) (by assumption) | exact hi1_161.miss (by omega) (by omega) (by assumption) (by assumption) (by assumption) | exact hi1_161.f (by assumption)) (by first | omega | assumption | exact hi1_161.hit (by omega) (by assumption) (by assumption) (by assumption) | exact hi1_161.miss (by omega) (by omega) (by assumption) (by assumption) (by assumption) | exact hi1_161.f (by assumption)) (by first | omega | assumption | exact hi1_161.hit (by omega) (by assumption) (by assumption) (by assumption) | exact hi1_161.miss (by omega) (by omega) (by assumption) (by assumption) (by assumption) | exact hi1_161.f (by assumption)) (by first | omega | assumption | exact hi1_161.hit (by omega) (by assumption) (by assumption) (by assumption) | exact hi1_161.miss (by omega) (by omega) (by assumption) (by assumption) (by assumption) | exact hi1_161.f (by assumption)) (by first | omega | assumption | exact hi1_161.hit (by omega) (by assumption) (by assumption) (by assumption) | exact hi1_161.miss (by omega) (by omega) (by assumption) (by assumption) (by assumption) | exact hi1_161.f (by assumption)) (by omega)
                                  · skip
                                    refine w_load (.iload 11) 187 (by decide +kernel) rfl rfl ?_
                                    refine w_goto 192 (by decide +kernel) ?_
                                    refine w_store (ls' := [.ref 76, .int (nI lv), .int (nI x), .int (nI k), .int v2, .int v4, .int x6_161, .int (nI g7), .int v10, .int (nI ((cntB v10 5))), .int (nI g11), .int (nI g11)]) (.istore 10) 194 (by decide +kernel) rfl rfl ?_
                                    obtain ⟨v24, ev24⟩ : ∃ y : Int32, y = x6_161 + Int32.ofInt (-1) := ⟨_, rfl⟩
                                    refine w_store (ls' := [.ref 76, .int (nI lv), .int (nI x), .int (nI k), .int v2, .int v4, .int v24, .int (nI g7), .int v10, .int (nI ((cntB v10 5))), .int (nI g11), .int (nI g11)]) (.iinc 6 (-1)) 197 (by decide +kernel) rfl (by rw [ev24]; rfl) ?_
                                    refine w_iincN (z := 11) (g11 + 1) 200 (by decide +kernel) rfl (Nat.le_of_ble_eq_true rfl) rfl rfl ?_
                                    show Wp _ _ _ [.ref 76, .int (nI lv), .int (nI x), .int (nI k), .int v2, .int v4, .int v24, .int (nI g7), .int v10, .int (nI ((cntB v10 5))), .int (nI g11), .int (nI (g11 + 1))] _ _ _ _
                                    refine w_goto 161 (by decide +kernel) ?_
                                    exact ih_161 N_161 _ _ (g11 + 1) hS (by first | omega | assumption | exact hi1_161.hit (by omega) (by assumption) (by assumption) (by assumption) | exact hi1_161.miss (by omega) (by omega) (by assumption) (by assumption) (by assumption) | exact hi1_161.f (by assumption)) (by first | omega | assumption | exact hi1_161.hit (by omega) (by assumption) (by assumption) (by assumption) | exact hi1_161.miss (by omega) (by omega) (by assumption) (by assumption) (by assumption) | exact hi1_161.f (by assumption)) (by first | omega | assumption | exact hi1_161.hit (by omega) (by assumption) (by assumption) (by assumption) | exact hi1_161.miss (by omega) (by omega) (by assumption) (by assumption) (by assumption) | exact hi1_161.f (by assumption)) (by first | omega | assumption | exact hi1_161.hit (by omega) (by assumption) (by assumption) (by assumption) | exact hi1_161.miss (by omega) (by omega) (by assumption) (by assumption) (by assumption) | exact hi1_161.f (by assumption)) (by first | omega | assumption | exact hi1_161.hit (by omega) (by assumption) (by assumption) (by assumption) | exact hi1_161.miss (by omega) (by omega) (by assumption) (by assumption) (by assumption) | exact hi1_161.f (by assumption)) (by omega)
                                · skip
                                  have htr20 := tb_nhb (by omega) hbr20
                                  refine w_ieq 197 180 (by decide +kernel) (fun _ => ?_) (fun hz => absurd hz (by decide))
                                  refine w_iincN (z := 11) (g11 + 1) 200 (by decide +kernel) rfl (Nat.le_of_ble_eq_true rfl) rfl rfl ?_
                                  show Wp _ _ _ [.ref 76, .int (nI lv), .int (nI x), .int (nI k), .int v2, .int v4, .int x6_161, .int (nI g7), .int v10, .int (nI ((cntB v10 5))), .int x10_161, .int (nI (g11 + 1))] _ _ _ _
                                  refine w_goto 161 (by decide +kernel) ?_
                                  exact ih_161 N_161 _ _ (g11 + 1) hS (by first | omega | assumption | exact hi1_161.hit (by omega) (by assumption) (by assumption) (by assumption) | exact hi1_161.miss (by omega) (by omega) (by assumption) (by assumption) (by assumption) | exact hi1_161.f (by assumption)) (by first | omega | assumption | exact hi1_161.hit (by omega) (by assumption) (by assumption) (by assumption) | exact hi1_161.miss (by omega) (by omega) (by assumption) (by assumption) (by assumption) | exact hi1_161.f (by assumption)) (by first | omega | assumption | exact hi1_161.hit (by omega) (by assumption) (by assumption) (by assumption) | exact hi1_161.miss (by omega) (by omega) (by assumption) (by assumption) (by assumption) | exact hi1_161.f (by assumption)) (by first | omega | assumption | exact hi1_161.hit (by omega) (by assumption) (by assumption) (by assumption) | exact hi1_161.miss (by omega) (by omega) (by assumption) (by assumption) (by assumption) | exact hi1_161.f (by assumption)) (by first | omega | assumption | exact hi1_161.hit (by omega) (by assumption) (by assumption) (by assumption) | exact hi1_161.miss (by omega) (by omega) (by assumption) (by assumption) (by assumption) | exact hi1_161.f (by assumption)) (by omega)
                          exact LP_161 _ N_72 _ _ 0 hS (by first | omega | assumption | exact inQ.start (by omega)) (by first | omega | assumption | exact inQ.start (by omega)) (by first | omega | assumption | exact inQ.start (by omega)) (by first | omega | assumption | exact inQ.start (by omega)) (by first | omega | assumption | exact inQ.start (by omega)) (Nat.lt_succ_self _)
                    · skip
                      refine w_pushN 1 132 (by decide +kernel) ?_
                      refine w_goto 140 (by decide +kernel) ?_
                      refine w_store (ls' := [.ref 76, .int (nI lv), .int (nI x), .int (nI k), .int v2, .int v4, .int (nI g6), .int (nI g7), .int v10, .int (nI 1), .null, .null]) (.istore 9) 142 (by decide +kernel) rfl rfl ?_
                      refine w_load (.iload 6) 144 (by decide +kernel) rfl rfl ?_
                      refine w_iltN 216 147 (by decide +kernel) (by omega) ?_
                      refine w_load (.iload 6) 149 (by decide +kernel) rfl rfl ?_
                      refine w_load (.iload 9) 151 (by decide +kernel) rfl rfl ?_
                      refine w_cgeN 216 154 (by decide +kernel) (by omega) (by omega) (fun h27 => ?_) (fun h27 => ?_)
                      · skip
                        have hmn : mnD n (nI x) s g7 = 1 := mn_t1 hdr (eO.symm.trans (by assumption))
                        have hof : ofD n (nI x) s (g7 + 1) = ofD n (nI x) s g7 + mnD n (nI x) s g7 := rfl
                        refine w_load (.iload 6) 218 (by decide +kernel) rfl rfl ?_
                        refine w_load (.iload 9) 220 (by decide +kernel) rfl rfl ?_
                        refine w_subN (g6 - 1) 221 (by decide +kernel) (by omega) rfl ?_
                        refine w_store (ls' := [.ref 76, .int (nI lv), .int (nI x), .int (nI k), .int v2, .int v4, .int (nI ((g6 - 1))), .int (nI g7), .int v10, .int (nI 1), .null, .null]) (.istore 6) 223 (by decide +kernel) rfl rfl ?_
                        refine w_iincN (z := 7) (g7 + 1) 226 (by decide +kernel) rfl (Nat.le_of_ble_eq_true rfl) rfl rfl ?_
                        show Wp _ _ _ [.ref 76, .int (nI lv), .int (nI x), .int (nI k), .int v2, .int v4, .int (nI ((g6 - 1))), .int (nI (g7 + 1)), .int v10, .int (nI 1), .null, .null] _ _ _ _
                        refine w_goto 72 (by decide +kernel) ?_
                        refine Wp.forget (ls := [.ref 76, .int (nI lv), .int (nI x), .int (nI k), .int v2, .int v4, .int (nI ((g6 - 1))), .int (nI (g7 + 1)), .null, .null, .null, .null]) ⟨Or.inl rfl, Or.inl rfl, Or.inl rfl, Or.inl rfl, Or.inl rfl, Or.inl rfl, Or.inl rfl, Or.inl rfl, Or.inr ⟨rfl, rfl⟩, Or.inr ⟨rfl, rfl⟩, Or.inl rfl, Or.inl rfl, trivial⟩ ?_
                        exact ih_72 N_72 ((g6 - 1)) (g7 + 1) hS (by first | omega | assumption) (by first | omega | assumption) (by first | omega | assumption) (by first | omega | assumption) (by first | omega | assumption) (by omega)
                      · skip
                        have hmn : mnD n (nI x) s g7 = 1 := mn_t1 hdr (eO.symm.trans (by assumption))
                        have hof : ofD n (nI x) s (g7 + 1) = ofD n (nI x) s g7 + mnD n (nI x) s g7 := rfl
                        refine w_push (-9) 156 (by decide +kernel) ?_
                        refine w_store (ls' := [.ref 76, .int (nI lv), .int (nI x), .int (nI k), .int v2, .int v4, .int (nI g6), .int (nI g7), .int v10, .int (nI 1), .int (-9), .null]) (.istore 10) 158 (by decide +kernel) rfl rfl ?_
                        refine w_pushN 0 159 (by decide +kernel) ?_
                        refine w_store (ls' := [.ref 76, .int (nI lv), .int (nI x), .int (nI k), .int v2, .int v4, .int (nI g6), .int (nI g7), .int v10, .int (nI 1), .int (-9), .int (nI 0)]) (.istore 11) 161 (by decide +kernel) rfl rfl ?_
                        have LP_161 : ∀ (kk : Nat) (N_161 : Mt) (x6_161 : Int32) (x10_161 : Int32) (g11 : Nat), St (fun i k => (i = 78 ∧ 22 * lv ≤ k ∧ k < 22 * lv + 22)) M N_161 → g11 ≤ 5 → inQ v10 g6 g11 x6_161 x10_161 → g11 ≤ n → HE n (lvC N_161 lv) s.1 → LQ n (lvL N_161 lv) s.2.1 → 5 - g11 < kk → Wp d 176 161 [.ref 76, .int (nI lv), .int (nI x), .int (nI k), .int v2, .int v4, .int x6_161, .int (nI g7), .int v10, .int (nI 1), .int x10_161, .int (nI g11)] [] N_161 L Q := by
                          intro kk
                          induction kk with
                          | zero => intro N_161 x6_161 x10_161 g11 hS hi0_161 hi1_161 hi2_161 hi3_161 hi4_161 hm_161; exact absurd hm_161 (Nat.not_lt_zero _)
                          | succ kk ih_161 =>
                            intro N_161 x6_161 x10_161 g11 hS hi0_161 hi1_161 hi2_161 hi3_161 hi4_161 hm_161
                            refine w_load (.iload 11) 163 (by decide +kernel) rfl rfl ?_
                            refine w_load (.aload_n 0) 164 (by decide +kernel) rfl rfl ?_
                            refine w_getK (k := 0) 167 (by decide +kernel) sh_76 rfl ((hS.2 76 0 (by (try dsimp only); first | omega | (simp only [Hs, Tl, Sc, isHs, isScr, isTs] at *; omega))).trans en) ?_
                            refine w_cgeN 203 170 (by decide +kernel) (by omega) (by omega) (fun h28 => ?_) (fun h28 => ?_)
                            · skip
                              obtain ⟨s', ho', hch⟩ := ch_pick (p := p) hn hdr hi1_72 (by omega) (by rw [← eO]; exact hi1_161) (by omega) (by omega)
                              refine w_load (.aload_n 0) 204 (by decide +kernel) rfl rfl ?_
                              refine w_load (.iload_n 1) 205 (by decide +kernel) rfl rfl ?_
                              refine w_load (.iload_n 2) 206 (by decide +kernel) rfl rfl ?_
                              refine w_load (.iload 7) 208 (by decide +kernel) rfl rfl ?_
                              refine w_load (.iload 10) 210 (by decide +kernel) rfl rfl ?_
                              refine w_callV4 156 8 9 213 (by decide +kernel) sh_76 (Nat.le_of_ble_eq_true rfl) rfl rfl rfl rfl (by decide) (by omega) ?_
                              refine s_act (p := p) hS.1 (by omega) (by omega) ⟨hi3_161, hi4_161⟩ hw hdn ho' (by omega) (fun r29 Nr29 hTr29 hr29 => ?_)
                              have kn30 := (hTr29.2 (76) 0 (by (try dsimp only); first | omega | (simp only [Hs, Tl, Sc, isHs, isScr, isTs] at *; omega))).trans ((hS.2 76 0 (by (try dsimp only); first | omega | (simp only [Hs, Tl, Sc, isHs, isScr, isTs] at *; omega))).trans en)
                              have hS := hS.tr hTr29 (by intro i k; first | exact rfl | exact fun h => h.elim | omega | (dsimp only; omega) | (simp only [Hs, Tl, Sc, isHs, isScr, isTs] at *; omega))
                              have hA := hr29.elim (fun z => z.2.1) (fun z => z.2.1)
                              have hB2 := hr29.elim (fun z => z.2.2.1) (fun z => z.2.2.1)
                              dsimp only [Option.toList, List.cons_append, List.nil_append]
                              refine w_pure .pop 214 (by decide +kernel) rfl rfl ?_
                              refine w_pushN 1 215 (by decide +kernel) ?_
                              exact w_retZ (by decide +kernel) (Or.inr rfl) (hq _ Nr29 hS (Or.inl ⟨rfl, hch.lt hn, s', hch, hA, hB2⟩))
                            · skip
                              refine w_load (.iload 8) 172 (by decide +kernel) rfl rfl ?_
                              refine w_load (.iload 11) 174 (by decide +kernel) rfl rfl ?_
                              refine w_callS2 135 2 177 (by decide +kernel) (Nat.le_of_ble_eq_true rfl) rfl rfl (by decide) (by omega) ?_
                              refine k_135 hS.1  (by omega) (fun r31 hr31 => ?_)
                              dsimp only [Option.toList, List.cons_append, List.nil_append]
                              rcases hr31 with ⟨rfl, hbr31⟩ | ⟨rfl, hbr31⟩
                              · skip
                                have htr31 := tb_hb (by omega) hbr31
                                refine w_ieq 197 180 (by decide +kernel) (fun hz => absurd hz (by decide)) (fun _ => ?_)
                                refine w_load (.iload 6) 182 (by decide +kernel) rfl rfl ?_
                                refine w_ine 190 185 (by decide +kernel) (fun h33 => ?_) (fun h33 => ?_)
                                · skip
                                  refine w_load (.iload 10) 192 (by decide +kernel) rfl rfl ?_
                                  refine w_store (ls' := [.ref 76, .int (nI lv), .int (nI x), .int (nI k), .int v2, .int v4, .int x6_161, .int (nI g7), .int v10, .int (nI 1), .int x10_161, .int (nI g11)]) (.istore 10) 194 (by decide +kernel) rfl rfl ?_
                                  obtain ⟨v34, ev34⟩ : ∃ y : Int32, y = x6_161 + Int32.ofInt (-1) := ⟨_, rfl⟩
                                  refine w_store (ls' := [.ref 76, .int (nI lv), .int (nI x), .int (nI k), .int v2, .int v4, .int v34, .int (nI g7), .int v10, .int (nI 1), .int x10_161, .int (nI g11)]) (.iinc 6 (-1)) 197 (by decide +kernel) rfl (by rw [ev34]; rfl) ?_
                                  refine w_iincN (z := 11) (g11 + 1) 200 (by decide +kernel) rfl (Nat.le_of_ble_eq_true rfl) rfl rfl ?_
                                  show Wp _ _ _ [.ref 76, .int (nI lv), .int (nI x), .int (nI k), .int v2, .int v4, .int v34, .int (nI g7), .int v10, .int (nI 1), .int x10_161, .int (nI (g11 + 1))] _ _ _ _
                                  refine w_goto 161 (by decide +kernel) ?_
                                  exact ih_161 N_161 _ _ (g11 + 1) hS (by first | omega | assumption | exact hi1_161.hit (by omega) (by assumption) (by assumption) (by assumption) | exact hi1_161.miss (by omega) (by omega) (by assumption) (by assumption) (by assumption) | exact hi1_161.f (by assumption)) (by first | omega | assumption | exact hi1_161.hit (by omega) (by assumption) (by assumption) (by assumption) | exact hi1_161.miss (by omega) (by omega) (by assumption) (by assumption) (by assumption) | exact hi1_161.f (by assumption)) (by first | omega | assumption | exact hi1_161.hit (by omega) (by assumption) (by assumption) (by assumption) | exact hi1_161.miss (by omega) (by omega) (by assumption) (by assumption) (by assumption) | exact hi1_161.f (by assumption)) (by first | omega | assumption | exact hi1_161.hit (by omega) (by assumption) (by assumption) (by assumption) | exact hi1_161.miss (by omega) (by omega) (by assumption) (by assumption) (by assumption) | exact hi1_161.f (by assumption)) (by first | omega | assumption | exact hi1_161.hit (by omega) (by assumption) (by assumption) (by assumption) | exact hi1_161.miss (by omega) (by omega) (by assumption) (by assumption) (by assumption) | exact hi1_161.f (by assumption)) (by omega)
                                · skip
                                  refine w_load (.iload 11) 187 (by decide +kernel) rfl rfl ?_
                                  refine w_goto 192 (by decide +kernel) ?_
                                  refine w_store (ls' := [.ref 76, .int (nI lv), .int (nI x), .int (nI k), .int v2, .int v4, .int x6_161, .int (nI g7), .int v10, .int (nI 1), .int (nI g11), .int (nI g11)]) (.istore 10) 194 (by decide +kernel) rfl rfl ?_
                                  obtain ⟨v35, ev35⟩ : ∃ y : Int32, y = x6_161 + Int32.ofInt (-1) := ⟨_, rfl⟩
                                  refine w_store (ls' := [.ref 76, .int (nI lv), .int (nI x), .int (nI k), .int v2, .int v4, .int v35, .int (nI g7), .int v10, .int (nI 1), .int (nI g11), .int (nI g11)]) (.iinc 6 (-1)) 197 (by decide +kernel) rfl (by rw [ev35]; rfl) ?_
                                  refine w_iincN (z := 11) (g11 + 1) 200 (by decide +kernel) rfl (Nat.le_of_ble_eq_true rfl) rfl rfl ?_
                                  show Wp _ _ _ [.ref 76, .int (nI lv), .int (nI x), .int (nI k), .int v2, .int v4, .int v35, .int (nI g7), .int v10, .int (nI 1), .int (nI g11), .int (nI (g11 + 1))] _ _ _ _
                                  refine w_goto 161 (by decide +kernel) ?_
                                  exact ih_161 N_161 _ _ (g11 + 1) hS (by first | omega | assumption | exact hi1_161.hit (by omega) (by assumption) (by assumption) (by assumption) | exact hi1_161.miss (by omega) (by omega) (by assumption) (by assumption) (by assumption) | exact hi1_161.f (by assumption)) (by first | omega | assumption | exact hi1_161.hit (by omega) (by assumption) (by assumption) (by assumption) | exact hi1_161.miss (by omega) (by omega) (by assumption) (by assumption) (by assumption) | exact hi1_161.f (by assumption)) (by first | omega | assumption | exact hi1_161.hit (by omega) (by assumption) (by assumption) (by assumption) | exact hi1_161.miss (by omega) (by omega) (by assumption) (by assumption) (by assumption) | exact hi1_161.f (by assumption)) (by first | omega | assumption | exact hi1_161.hit (by omega) (by assumption) (by assumption) (by assumption) | exact hi1_161.miss (by omega) (by omega) (by assumption) (by assumption) (by assumption) | exact hi1_161.f (by assumption)) (by first | omega | assumption | exact hi1_161.hit (by omega) (by assumption) (by assumption) (by assumption) | exact hi1_161.miss (by omega) (by omega) (by assumption) (by assumption) (by assumption) | exact hi1_161.f (by assumption)) (by omega)
                              · skip
                                have htr31 := tb_nhb (by omega) hbr31
                                refine w_ieq 197 180 (by decide +kernel) (fun _ => ?_) (fun hz => absurd hz (by decide))
                                refine w_iincN (z := 11) (g11 + 1) 200 (by decide +kernel) rfl (Nat.le_of_ble_eq_true rfl) rfl rfl ?_
                                show Wp _ _ _ [.ref 76, .int (nI lv), .int (nI x), .int (nI k), .int v2, .int v4, .int x6_161, .int (nI g7), .int v10, .int (nI 1), .int x10_161, .int (nI (g11 + 1))] _ _ _ _
                                refine w_goto 161 (by decide +kernel) ?_
                                exact ih_161 N_161 _ _ (g11 + 1) hS (by first | omega | assumption | exact hi1_161.hit (by omega) (by assumption) (by assumption) (by assumption) | exact hi1_161.miss (by omega) (by omega) (by assumption) (by assumption) (by assumption) | exact hi1_161.f (by assumption)) (by first | omega | assumption | exact hi1_161.hit (by omega) (by assumption) (by assumption) (by assumption) | exact hi1_161.miss (by omega) (by omega) (by assumption) (by assumption) (by assumption) | exact hi1_161.f (by assumption)) (by first | omega | assumption | exact hi1_161.hit (by omega) (by assumption) (by assumption) (by assumption) | exact hi1_161.miss (by omega) (by omega) (by assumption) (by assumption) (by assumption) | exact hi1_161.f (by assumption)) (by first | omega | assumption | exact hi1_161.hit (by omega) (by assumption) (by assumption) (by assumption) | exact hi1_161.miss (by omega) (by omega) (by assumption) (by assumption) (by assumption) | exact hi1_161.f (by assumption)) (by first | omega | assumption | exact hi1_161.hit (by omega) (by assumption) (by assumption) (by assumption) | exact hi1_161.miss (by omega) (by omega) (by assumption) (by assumption) (by assumption) | exact hi1_161.f (by assumption)) (by omega)
                        exact LP_161 _ N_72 _ _ 0 hS (by first | omega | assumption | exact inQ.start (by omega)) (by first | omega | assumption | exact inQ.start (by omega)) (by first | omega | assumption | exact inQ.start (by omega)) (by first | omega | assumption | exact inQ.start (by omega)) (by first | omega | assumption | exact inQ.start (by omega)) (Nat.lt_succ_self _)
                  · skip
                    exact absurd hbr7 hbr11
              · skip
                have htr7 := tb_nhb (by omega) hbr7
                refine w_ieq 109 91 (by decide +kernel) (fun _ => ?_) (fun hz => absurd hz (by decide))
                refine w_pushN 0 110 (by decide +kernel) ?_
                refine w_store (ls' := [.ref 76, .int (nI lv), .int (nI x), .int (nI k), .int v2, .int v4, .int (nI g6), .int (nI g7), .int (nI 0), .null, .null, .null]) (.istore 8) 112 (by decide +kernel) rfl rfl ?_
                refine w_load (.iload 5) 114 (by decide +kernel) rfl rfl ?_
                refine w_load (.iload 7) 116 (by decide +kernel) rfl rfl ?_
                refine w_callS2 135 2 119 (by decide +kernel) (Nat.le_of_ble_eq_true rfl) rfl rfl (by decide) (by omega) ?_
                refine k_135 hS.1  (by omega) (fun r38 hr38 => ?_)
                dsimp only [Option.toList, List.cons_append, List.nil_append]
                rcases hr38 with ⟨rfl, hbr38⟩ | ⟨rfl, hbr38⟩
                · skip
                  exact absurd hbr38 hbr7
                · skip
                  refine w_ine 126 122 (by decide +kernel) (fun hz => absurd hz (by decide)) (fun _ => ?_)
                  refine w_pushN 0 123 (by decide +kernel) ?_
                  refine w_goto 140 (by decide +kernel) ?_
                  refine w_store (ls' := [.ref 76, .int (nI lv), .int (nI x), .int (nI k), .int v2, .int v4, .int (nI g6), .int (nI g7), .int (nI 0), .int (nI 0), .null, .null]) (.istore 9) 142 (by decide +kernel) rfl rfl ?_
                  refine w_load (.iload 6) 144 (by decide +kernel) rfl rfl ?_
                  refine w_iltN 216 147 (by decide +kernel) (by omega) ?_
                  refine w_load (.iload 6) 149 (by decide +kernel) rfl rfl ?_
                  refine w_load (.iload 9) 151 (by decide +kernel) rfl rfl ?_
                  refine w_cgeN 216 154 (by decide +kernel) (by omega) (by omega) (fun h41 => ?_) (fun h41 => ?_)
                  · skip
                    have hmn : mnD n (nI x) s g7 = 0 := mn_f (by rw [← eD]; exact tb_nhb (by omega) hbr7)
                    have hof : ofD n (nI x) s (g7 + 1) = ofD n (nI x) s g7 + mnD n (nI x) s g7 := rfl
                    refine w_load (.iload 6) 218 (by decide +kernel) rfl rfl ?_
                    refine w_load (.iload 9) 220 (by decide +kernel) rfl rfl ?_
                    refine w_subN (g6 - 0) 221 (by decide +kernel) (by omega) rfl ?_
                    refine w_store (ls' := [.ref 76, .int (nI lv), .int (nI x), .int (nI k), .int v2, .int v4, .int (nI ((g6 - 0))), .int (nI g7), .int (nI 0), .int (nI 0), .null, .null]) (.istore 6) 223 (by decide +kernel) rfl rfl ?_
                    refine w_iincN (z := 7) (g7 + 1) 226 (by decide +kernel) rfl (Nat.le_of_ble_eq_true rfl) rfl rfl ?_
                    show Wp _ _ _ [.ref 76, .int (nI lv), .int (nI x), .int (nI k), .int v2, .int v4, .int (nI ((g6 - 0))), .int (nI (g7 + 1)), .int (nI 0), .int (nI 0), .null, .null] _ _ _ _
                    refine w_goto 72 (by decide +kernel) ?_
                    refine Wp.forget (ls := [.ref 76, .int (nI lv), .int (nI x), .int (nI k), .int v2, .int v4, .int (nI ((g6 - 0))), .int (nI (g7 + 1)), .null, .null, .null, .null]) ⟨Or.inl rfl, Or.inl rfl, Or.inl rfl, Or.inl rfl, Or.inl rfl, Or.inl rfl, Or.inl rfl, Or.inl rfl, Or.inr ⟨rfl, rfl⟩, Or.inr ⟨rfl, rfl⟩, Or.inl rfl, Or.inl rfl, trivial⟩ ?_
                    exact ih_72 N_72 ((g6 - 0)) (g7 + 1) hS (by first | omega | assumption) (by first | omega | assumption) (by first | omega | assumption) (by first | omega | assumption) (by first | omega | assumption) (by omega)
                  · skip
                    have hmn : mnD n (nI x) s g7 = 0 := mn_f (by rw [← eD]; exact tb_nhb (by omega) hbr7)
                    omega
        exact LP_72 _ N k 0 hS (by first | omega | (rw [hNM]; first | exact hs.1 | exact hs.2) | (show 0 + k = k; omega)) (by first | omega | (rw [hNM]; first | exact hs.1 | exact hs.2) | (show 0 + k = k; omega)) (by first | omega | (rw [hNM]; first | exact hs.1 | exact hs.2) | (show 0 + k = k; omega)) (by first | omega | (rw [hNM]; first | exact hs.1 | exact hs.2) | (show 0 + k = k; omega)) (by first | omega | (rw [hNM]; first | exact hs.1 | exact hs.2) | (show 0 + k = k; omega)) (Nat.lt_succ_self _)
      · skip
        have hz0 : dorI n (nI x) s = 0 := eD.symm.trans h5
        refine w_load (.iload_n 3) 27 (by decide +kernel) rfl rfl ?_
        refine w_ineN 56 30 (by decide +kernel) (by omega) (fun h42 => ?_) (fun h42 => ?_)
        · skip
          refine w_load (.iload_n 3) 57 (by decide +kernel) rfl rfl ?_
          refine w_ineN 64 60 (by decide +kernel) (by omega) (fun h43 => ?_) (fun h43 => ?_)
          · skip
            refine w_pushN 0 65 (by decide +kernel) ?_
            exact w_retZ (by decide +kernel) (Or.inl rfl) (hq _ N hS (by first | exact Or.inr ⟨rfl, ch_no0 hz0 (by omega)⟩ | (exfalso; omega)))
          · skip
            refine w_pushN 1 61 (by decide +kernel) ?_
            refine w_goto 65 (by decide +kernel) ?_
            exact w_retZ (by decide +kernel) (Or.inr rfl) (hq _ N hS (by first | (refine Or.inl ⟨rfl, by omega, s, Or.inl ⟨hz0, by omega, ?_⟩, by rw [hNM]; exact hs.1, by rw [hNM]; exact hs.2⟩; unfold failS; rw [← eB, if_pos (by assumption)]) | (exfalso; omega)))
        · skip
          refine w_load (.iload 4) 32 (by decide +kernel) rfl rfl ?_
          refine w_ieq 56 35 (by decide +kernel) (fun h44 => ?_) (fun h44 => ?_)
          · skip
            refine w_load (.iload_n 3) 57 (by decide +kernel) rfl rfl ?_
            refine w_ineN 64 60 (by decide +kernel) (by omega) (fun h45 => ?_) (fun h45 => ?_)
            · skip
              refine w_pushN 0 65 (by decide +kernel) ?_
              exact w_retZ (by decide +kernel) (Or.inl rfl) (hq _ N hS (by first | exact Or.inr ⟨rfl, ch_no0 hz0 (by omega)⟩ | (exfalso; omega)))
            · skip
              refine w_pushN 1 61 (by decide +kernel) ?_
              refine w_goto 65 (by decide +kernel) ?_
              exact w_retZ (by decide +kernel) (Or.inr rfl) (hq _ N hS (by first | (refine Or.inl ⟨rfl, by omega, s, Or.inl ⟨hz0, by omega, ?_⟩, by rw [hNM]; exact hs.1, by rw [hNM]; exact hs.2⟩; unfold failS; rw [← eB, if_pos (by assumption)]) | (exfalso; omega)))
          · skip
            refine w_load (.aload_n 0) 36 (by decide +kernel) rfl rfl ?_
            refine w_getR (k := 2) (r := 78) 39 (by decide +kernel) sh_76 rfl ?_
            refine w_pushN 22 41 (by decide +kernel) ?_
            refine w_load (.iload_n 1) 42 (by decide +kernel) rfl rfl ?_
            refine w_mulN (22 * lv) 43 (by decide +kernel) rfl ?_
            refine w_pushN 5 44 (by decide +kernel) ?_
            refine w_addN (22 * lv + 5) 45 (by decide +kernel) (by omega) ?_
            refine w_load (.iload 4) 47 (by decide +kernel) rfl rfl ?_
            refine w_callS1 154 2 50 (by decide +kernel) (Nat.le_of_ble_eq_true rfl) rfl (by decide) (by omega) ?_
            refine s_least hS.1  (by omega) (fun r46 hr46 => ?_)
            dsimp only [Option.toList, List.cons_append, List.nil_append]
            rcases hr46 with ⟨kr46, hkr46, rfl, hLr46⟩ | ⟨rfl, hnor46⟩
            · skip
              refine w_addN (22 * lv + 5 + kr46) 51 (by decide +kernel) (by omega) ?_
              refine w_pure .dup2 52 (by decide +kernel) rfl rfl ?_
              refine w_ialdN 53 (by decide +kernel) sh_78 (by omega) (by omega) ?_
              refine w_pushN 1 54 (by decide +kernel) ?_
              refine w_pure .isub 55 (by decide +kernel) rfl rfl ?_
              refine w_iastE 56 (by decide +kernel) sh_78 (by omega) (by omega) hS (rg_78 (fun h1 h2 => by first | omega | exact Or.inl rfl | exact Or.inr ⟨_, by omega, rfl⟩ | exact inv_78 hS.1 _ (by omega) (by omega) | exact inv_82 hS.1 _ (by omega) (by omega) | exact inv_89 hS.1 _ (by omega) (by omega))) (by first | exact rfl | omega | (dsimp only; omega) | (simp only [Hs, Tl, Sc, isHs, isScr, isTs] at *; omega)) (fun Nq47 hS hq47 oq47 mq47 => ?_)
              have kn48 := (oq47 (76) 0 (by first | omega | (simp only [Hs, Tl, Sc, isHs, isScr, isTs] at *; omega))).trans kz0
              have hbn : kr46 < n := (isL_lt hn (P := fun g => decide (s.1 g = fstD (nI x)) && tb (s.1 15) g) (by rw [eB] at hLr46; exact hLr46.1)).1
              have cRb := lvC_up' (lv := lv) (j := 5 + kr46) mq47 (by omega)
              rw [rdC (M := N) (lv := lv) (i := 22 * lv + 5 + kr46) (j := 5 + kr46) (by omega)] at cRb
              have lLb := lvL_ne' (lv := lv) mq47 (by omega)
              refine w_load (.iload_n 3) 57 (by decide +kernel) rfl rfl ?_
              refine w_ineN 64 60 (by decide +kernel) (by omega) (fun h49 => ?_) (fun h49 => ?_)
              · skip
                refine w_pushN 0 65 (by decide +kernel) ?_
                exact w_retZ (by decide +kernel) (Or.inl rfl) (hq _ Nq47 hS (by first | exact Or.inr ⟨rfl, ch_no0 hz0 (by omega)⟩ | (exfalso; omega)))
              · skip
                refine w_pushN 1 61 (by decide +kernel) ?_
                refine w_goto 65 (by decide +kernel) ?_
                exact w_retZ (by decide +kernel) (Or.inr rfl) (hq _ Nq47 hS (by first | exact Or.inl ⟨rfl, by omega, fineS s kr46, Or.inl ⟨hz0, by omega, by unfold failS; rw [← eB, if_neg (by assumption), lsN_eq hLr46 hkr46]⟩, by rw [cRb, hNM]; exact hs.1.up _ (by rw [(hs.1.1 kr46 hbn).2.1]), by rw [lLb, hNM]; exact hs.2⟩ | (exfalso; omega)))
            · skip
              exact (no_ls (by first | assumption | (subst_vars; first | exact is5_dor (by omega) | exact is5_oth (by omega) | exact is5_set (by omega))) (by assumption) hnor46).elim
-- X8_chosen#s
set_option maxRecDepth 10000 in
theorem s_chosen8 {d : Nat} {M : Mt} {L : Lt} {Q : Option Value → Mt → Lt → Prop} {n : Nat} {c pw : Row} {T : TLs} {a : Int32} {b : Int32} (hI : Inv M) (hn : n ≤ 5) (en : M 76 0 = nI n) (hc : HE n (lvC M 0) c) (hp : LQ n (M 77) pw) (hw : wedOk n c) (hT : tlM T M) (hd : 3 ≤ d) (hq : ∀ (r : Int32) (N : Mt), St (fun i k => (i = 78 ∧ 22 ≤ k) ∨ i = 83 ∨ i = 84 ∨ (i = 76 ∧ (k = 7 ∨ k = 11))) M N → ((r = -1 ∧ ¬ (∃ k, k < 3 ∧ a = nI k)) ∨ (∃ t, t < 3 ∧ a = nI t ∧ ((r = -3 ∧ 4 < nD T t) ∨ (nD T t ≤ 4 ∧ chR n (dvT T t) (nD T t) (c, pw, nI 0, nI 0) b r)))) → Q (some (.int r)) N L) : Wp d 177 0 [.ref 76, .int a, .int b, .null, .null, .null, .null, .null] [] M L Q := by
  refine (show ∀ N : Mt, N = M → St (fun i k => (i = 78 ∧ 22 ≤ k) ∨ i = 83 ∨ i = 84 ∨ (i = 76 ∧ (k = 7 ∨ k = 11))) M N → Wp d 177 0 [.ref 76, .int a, .int b, .null, .null, .null, .null, .null] [] N L Q from ?_) M rfl (St.rf hI)
  intro N hNM hS
  have kz0 : N (76) 0 = nI n := by rw [hNM]; exact en
  refine w_load (.iload_n 1) 1 (by decide +kernel) rfl rfl ?_
  refine w_callS1 142 1 4 (by decide +kernel) (Nat.le_of_ble_eq_true rfl) rfl (by decide) (by omega) ?_
  refine k_142 hS.1  (by omega) (fun r1 hr1 => ?_)
  dsimp only [Option.toList, List.cons_append, List.nil_append]
  rcases hr1 with ⟨rfl, k2, hk2, rfl⟩ | ⟨rfl, hnok2⟩
  · skip
    refine w_ine 9 7 (by decide +kernel) (fun _ => ?_) (fun hz => absurd hz (by decide))
    refine w_load (.aload_n 0) 10 (by decide +kernel) rfl rfl ?_
    refine w_load (.iload_n 1) 11 (by decide +kernel) rfl rfl ?_
    refine w_callV1 148 8 3 14 (by decide +kernel) sh_76 (Nat.le_of_ble_eq_true rfl) rfl (by decide) (by omega) ?_
    refine s_deedsT hS.1 (by omega) (hT.keep (hS.row (fun k => (by (try dsimp only); first | omega | (simp only [Hs, Tl, Sc, isHs, isScr, isTs] at *; omega)))) (hS.row (fun k => (by (try dsimp only); first | omega | (simp only [Hs, Tl, Sc, isHs, isScr, isTs] at *; omega))))) (by omega) (fun r4 hr4 => ?_)
    dsimp only [Option.toList, List.cons_append, List.nil_append]
    rcases hr4 with rfl
    · skip
      have hndr4 := nD_m hT (show k2 < 3 by omega)
      refine w_store (ls' := [.ref 76, .int (nI k2), .int b, .int (nI ((nD T k2))), .null, .null, .null, .null]) (.istore_n 3) 15 (by decide +kernel) rfl rfl ?_
      refine w_load (.iload_n 3) 16 (by decide +kernel) rfl rfl ?_
      refine w_pushN 4 17 (by decide +kernel) ?_
      refine w_cleN 23 20 (by decide +kernel) (by omega) (by omega) (fun h5 => ?_) (fun h5 => ?_)
      · skip
        refine w_pushN 0 24 (by decide +kernel) ?_
        refine w_store (ls' := [.ref 76, .int (nI k2), .int b, .int (nI ((nD T k2))), .int (nI 0), .null, .null, .null]) (.istore 4) 26 (by decide +kernel) rfl rfl ?_
        refine w_pushN 1 27 (by decide +kernel) ?_
        refine w_load (.aload_n 0) 28 (by decide +kernel) rfl rfl ?_
        refine w_getK (k := 0) 31 (by decide +kernel) sh_76 rfl kz0 ?_
        refine w_pure .ishl 32 (by decide +kernel) rfl rfl ?_
        refine w_pushN 1 33 (by decide +kernel) ?_
        refine w_pure .isub 34 (by decide +kernel) rfl rfl ?_
        refine w_topi (fun v6 ev6 => ?_)
        refine w_store (ls' := [.ref 76, .int (nI k2), .int b, .int (nI ((nD T k2))), .int (nI 0), .int v6, .null, .null]) (.istore 5) 36 (by decide +kernel) rfl rfl ?_
        refine w_pushN 1 37 (by decide +kernel) ?_
        refine w_store (ls' := [.ref 76, .int (nI k2), .int b, .int (nI ((nD T k2))), .int (nI 0), .int v6, .int (nI 1), .null]) (.istore 6) 39 (by decide +kernel) rfl rfl ?_
        refine w_load (.aload_n 0) 40 (by decide +kernel) rfl rfl ?_
        refine w_pushN 0 41 (by decide +kernel) ?_
        refine w_pushN 1 42 (by decide +kernel) ?_
        refine w_callV2 160 8 4 45 (by decide +kernel) sh_76 (Nat.le_of_ble_eq_true rfl) rfl rfl (by decide) (by omega) ?_
        refine s_lay hS.1 (by omega) (by omega) (by omega) (by omega) (fun Nr7 hTr7 hr7 => ?_)
        have kn8 := (hTr7.2 (76) 0 (by (try dsimp only); first | omega | (simp only [Hs, Tl, Sc, isHs, isScr, isTs] at *; omega))).trans kz0
        have hS := hS.tr hTr7 (by intro i k; first | exact rfl | exact fun h => h.elim | omega | (dsimp only; omega) | (simp only [Hs, Tl, Sc, isHs, isScr, isTs] at *; omega))
        have hl1 : HE n (lvC Nr7 1) c := lay_HE hn hr7 (by rw [hNM]; exact hc)
        dsimp only [Option.toList, List.nil_append]
        refine w_load (.aload_n 0) 46 (by decide +kernel) rfl rfl ?_
        refine w_pushN 1 47 (by decide +kernel) ?_
        refine w_callV1 158 8 3 50 (by decide +kernel) sh_76 (Nat.le_of_ble_eq_true rfl) rfl (by decide) (by omega) ?_
        refine s_dusk hS.1 (by omega) (by omega) hl1 (by rw [hS.row (x := 77) (fun k => (by (try dsimp only); first | omega | (simp only [Hs, Tl, Sc, isHs, isScr, isTs] at *; omega)))]; exact hp) (by omega) (fun Nr9 hTr9 hr9 => ?_)
        have kn10 := (hTr9.2 (76) 0 (by (try dsimp only); first | omega | (simp only [Hs, Tl, Sc, isHs, isScr, isTs] at *; omega))).trans kn8
        have hS := hS.tr hTr9 (by intro i k; first | exact rfl | exact fun h => h.elim | omega | (dsimp only; omega) | (simp only [Hs, Tl, Sc, isHs, isScr, isTs] at *; omega))
        have sA := hr9
        dsimp only [Option.toList, List.nil_append]
        refine w_load (.aload_n 0) 51 (by decide +kernel) rfl rfl ?_
        refine w_getR (k := 12) (r := 83) 54 (by decide +kernel) sh_76 rfl ?_
        refine w_pushN 1 55 (by decide +kernel) ?_
        refine w_pushN 0 56 (by decide +kernel) ?_
        refine w_iastE 57 (by decide +kernel) sh_83 (by omega) (by omega) hS (Rg.free (by simp only [Hs, Tl, Sc, isScr, isHs, isTs] at *; omega)) (by first | exact rfl | omega | (dsimp only; omega) | (simp only [Hs, Tl, Sc, isHs, isScr, isTs] at *; omega)) (fun Nq11 hS hq11 oq11 mq11 => ?_)
        have kn12 := (oq11 (76) 0 (by first | omega | (simp only [Hs, Tl, Sc, isHs, isScr, isTs] at *; omega))).trans kn10
        have z57 : chZ n (dvT T k2) (nD T k2) Nq11 1 (nI 0) v6 (c, pw, nI 0, nI 0) := chZ.start hn (by rw [mq11, lvC_76 (by decide)]; exact sA.1) (by rw [mq11, lvL_76 (by decide)]; exact sA.2.1) hw (by rw [mq11, up2_eq]) rfl ev6
        have LP_57 : ∀ (kk : Nat) (N_57 : Mt) (x4_57 : Int32) (x5_57 : Int32) (g6 : Nat), St (fun i k => (i = 78 ∧ 22 ≤ k) ∨ i = 83 ∨ i = 84 ∨ (i = 76 ∧ (k = 7 ∨ k = 11))) M N_57 → g6 ≤ ((nD T k2)) + 1 → chI (N_57 83) ((nD T k2)) g6 → chZ n (dvT T k2) ((nD T k2)) N_57 g6 x4_57 x5_57 (c, pw, nI 0, nI 0) → chM (N_57 83) ((nD T k2)) g6 < kk → Wp d 177 57 [.ref 76, .int (nI k2), .int b, .int (nI ((nD T k2))), .int x4_57, .int x5_57, .int (nI g6), .null] [] N_57 L Q := by
          intro kk
          induction kk with
          | zero => intro N_57 x4_57 x5_57 g6 hS hi0_57 hi1_57 hi2_57 hm_57; exact absurd hm_57 (Nat.not_lt_zero _)
          | succ kk ih_57 =>
            intro N_57 x4_57 x5_57 g6 hS hi0_57 hi1_57 hi2_57 hm_57
            have hS0 := hS
            refine w_load (.iload 6) 59 (by decide +kernel) rfl rfl ?_
            refine w_ileN 170 62 (by decide +kernel) (by omega) (fun h13 => ?_) (fun h13 => ?_)
            · skip
              refine w_load (.iload_n 2) 171 (by decide +kernel) rfl rfl ?_
              refine w_ieq 179 174 (by decide +kernel) (fun h14 => ?_) (fun h14 => ?_)
              · skip
                refine w_load (.iload 4) 181 (by decide +kernel) rfl rfl ?_
                exact w_ret (by decide +kernel) (hq _ N_57 hS (Or.inr ⟨_, by assumption, rfl, Or.inr ⟨by omega, hi2_57.fin hn (by omega) (fun z => by first | rfl | exact absurd z (by assumption)) (fun z => by first | rfl | exact absurd (by assumption) z)⟩⟩))
              · skip
                refine w_load (.iload 5) 176 (by decide +kernel) rfl rfl ?_
                refine w_goto 181 (by decide +kernel) ?_
                exact w_ret (by decide +kernel) (hq _ N_57 hS (Or.inr ⟨_, by assumption, rfl, Or.inr ⟨by omega, hi2_57.fin hn (by omega) (fun z => by first | rfl | exact absurd z (by assumption)) (fun z => by first | rfl | exact absurd (by assumption) z)⟩⟩))
            · skip
              refine w_load (.iload 6) 64 (by decide +kernel) rfl rfl ?_
              refine w_load (.iload_n 3) 65 (by decide +kernel) rfl rfl ?_
              refine w_pushN 1 66 (by decide +kernel) ?_
              refine w_addN ((nD T k2) + 1) 67 (by decide +kernel) (by omega) ?_
              refine w_cneN 98 70 (by decide +kernel) (by omega) (by omega) (fun h15 => ?_) (fun h15 => ?_)
              · skip
                obtain ⟨f, hf⟩ : ∃ f : Nat → Int32, f = N_57 83 := ⟨_, rfl⟩
                rw [← hf] at hi1_57 hm_57
                replace hf : ∀ i, N_57 83 i = f i := fun i => by rw [hf]
                obtain ⟨tk, htk, etf⟩ := hi1_57 g6 (by omega) (by omega) (by omega)
                have etk := (hf g6).trans etf
                obtain ⟨st, tr, hst, htr, hz⟩ := hi2_57
                have htk2 : tk = tr g6 := nI_same (etk.symm.trans (htr g6 (by omega) (by omega) (by omega)).1) (by omega) (by have := (htr g6 (by omega) (by omega) (by omega)).2; omega)
                refine w_load (.aload_n 0) 99 (by decide +kernel) rfl rfl ?_
                refine w_load (.iload 6) 101 (by decide +kernel) rfl rfl ?_
                refine w_load (.iload 6) 103 (by decide +kernel) rfl rfl ?_
                refine w_pushN 1 104 (by decide +kernel) ?_
                refine w_addN (g6 + 1) 105 (by decide +kernel) (by omega) ?_
                refine w_callV2 160 8 4 108 (by decide +kernel) sh_76 (Nat.le_of_ble_eq_true rfl) rfl rfl (by decide) (by omega) ?_
                refine s_lay hS.1 (by omega) (by omega) (by omega) (by omega) (fun Nr16 hTr16 hr16 => ?_)
                have kn17 := (hTr16.2 (76) 0 (by (try dsimp only); first | omega | (simp only [Hs, Tl, Sc, isHs, isScr, isTs] at *; omega))).trans ((hS.2 76 0 (by (try dsimp only); first | omega | (simp only [Hs, Tl, Sc, isHs, isScr, isTs] at *; omega))).trans en)
                have kn18 := (hTr16.2 (83) g6 (by (try dsimp only); first | omega | (simp only [Hs, Tl, Sc, isHs, isScr, isTs] at *; omega))).trans etk
                have hS := hS.tr hTr16 (by intro i k; first | exact rfl | exact fun h => h.elim | omega | (dsimp only; omega) | (simp only [Hs, Tl, Sc, isHs, isScr, isTs] at *; omega))
                have hf : ∀ i, Nr16 83 i = f i := fun i => (hTr16.2 83 i (by (try dsimp only); omega)).trans (hf i)
                have c105 : HE n (lvC Nr16 (g6 + 1)) (st g6).1 := lay_HE hn hr16 (hst g6 (by omega) (by omega)).1
                have l105 : LQ n (lvL Nr16 (g6 + 1)) (st g6).2.1 := lay_LQ hn hr16 (hst g6 (by omega) (by omega)).2.1
                have e105 : ∀ k, k < 22 * (g6 + 1) → Nr16 78 k = N_57 78 k := fun k hk => hTr16.2 78 k (by (try dsimp only); first | omega | (simp only [Hs, Tl, Sc, isHs, isScr, isTs] at *; omega))
                dsimp only [Option.toList, List.nil_append]
                refine w_load (.aload_n 0) 109 (by decide +kernel) rfl rfl ?_
                refine w_load (.iload 6) 111 (by decide +kernel) rfl rfl ?_
                refine w_pushN 1 112 (by decide +kernel) ?_
                refine w_addN (g6 + 1) 113 (by decide +kernel) (by omega) ?_
                refine w_load (.aload_n 0) 114 (by decide +kernel) rfl rfl ?_
                refine w_load (.iload_n 1) 115 (by decide +kernel) rfl rfl ?_
                refine w_load (.iload 6) 117 (by decide +kernel) rfl rfl ?_
                refine w_pushN 1 118 (by decide +kernel) ?_
                refine w_subN (g6 - 1) 119 (by decide +kernel) (by omega) rfl ?_
                refine w_callV2 149 8 4 122 (by decide +kernel) sh_76 (Nat.le_of_ble_eq_true rfl) rfl rfl (by decide) (by omega) ?_
                refine s_deedOfT hS.1 (by omega) (hT.keep (hS.row (fun k => (by (try dsimp only); first | omega | (simp only [Hs, Tl, Sc, isHs, isScr, isTs] at *; omega)))) (hS.row (fun k => (by (try dsimp only); first | omega | (simp only [Hs, Tl, Sc, isHs, isScr, isTs] at *; omega))))) (by omega) (by omega) (fun r19 hr19 => ?_)
                dsimp only [Option.toList, List.cons_append, List.nil_append]
                rcases hr19 with rfl
                · skip
                  have hdnr19 := dn_num (T := T) (t := k2) (p := ((g6 - 1))) (by omega)
                  have hdbr19 := hdnr19.2
                  refine w_load (.aload_n 0) 123 (by decide +kernel) rfl rfl ?_
                  refine w_getR (k := 12) (r := 83) 126 (by decide +kernel) sh_76 rfl ?_
                  refine w_load (.iload 6) 128 (by decide +kernel) rfl rfl ?_
                  refine w_ialdK 129 (by decide +kernel) sh_83 (by decide) (by omega) kn18 ?_
                  refine w_callV3 176 8 12 132 (by decide +kernel) sh_76 (Nat.le_of_ble_eq_true rfl) rfl rfl rfl (by decide) (by omega) ?_
                  refine s_choose (p := g6 - 1) hS.1 (by omega) (by omega) kn17 ⟨c105, l105⟩ (hst g6 (by omega) (by omega)).2.2 (by omega) (by omega) (by omega) (fun r20 Nr20 hTr20 hr20 => ?_)
                  have kn21 := (hTr20.2 (76) 0 (by (try dsimp only); first | omega | (simp only [Hs, Tl, Sc, isHs, isScr, isTs] at *; omega))).trans kn17
                  have kn22 := (hTr20.2 (83) g6 (by (try dsimp only); first | omega | (simp only [Hs, Tl, Sc, isHs, isScr, isTs] at *; omega))).trans kn18
                  have hS := hS.tr hTr20 (by intro i k; first | exact rfl | exact fun h => h.elim | omega | (dsimp only; omega) | (simp only [Hs, Tl, Sc, isHs, isScr, isTs] at *; omega))
                  have hf : ∀ i, Nr20 83 i = f i := fun i => (hTr20.2 83 i (by (try dsimp only); omega)).trans (hf i)
                  have e129 : ∀ k, k < 22 * (g6 + 1) → Nr20 78 k = N_57 78 k := fun k hk => (hTr20.2 78 k (by (try dsimp only); first | omega | (simp only [Hs, Tl, Sc, isHs, isScr, isTs] at *; omega))).trans (e105 k hk)
                  have f129 : ∀ i, Nr20 83 i = N_57 83 i := fun i => (hTr20.2 83 i (by (try dsimp only); first | omega | (simp only [Hs, Tl, Sc, isHs, isScr, isTs] at *; omega))).trans (hTr16.2 83 i (by (try dsimp only); first | omega | (simp only [Hs, Tl, Sc, isHs, isScr, isTs] at *; omega)))
                  dsimp only [Option.toList, List.cons_append, List.nil_append]
                  rcases hr20 with ⟨rfl, hkr20, s', hch, hE, hL⟩ | ⟨rfl, hnone⟩
                  · skip
                    refine w_store (ls' := [.ref 76, .int (nI k2), .int b, .int (nI ((nD T k2))), .int x4_57, .int x5_57, .int (nI g6), .int (1)]) (.istore 7) 134 (by decide +kernel) rfl rfl ?_
                    refine w_load (.aload_n 0) 135 (by decide +kernel) rfl rfl ?_
                    refine w_getR (k := 12) (r := 83) 138 (by decide +kernel) sh_76 rfl ?_
                    refine w_load (.iload 6) 140 (by decide +kernel) rfl rfl ?_
                    refine w_pure .dup2 141 (by decide +kernel) rfl rfl ?_
                    refine w_ialdK 142 (by decide +kernel) sh_83 (by decide) (by omega) kn22 ?_
                    refine w_pushN 1 143 (by decide +kernel) ?_
                    refine w_addN (tk + 1) 144 (by decide +kernel) (by omega) ?_
                    refine w_iastE 145 (by decide +kernel) sh_83 (by omega) (by omega) hS (Rg.free (by simp only [Hs, Tl, Sc, isScr, isHs, isTs] at *; omega)) (by first | exact rfl | omega | (dsimp only; omega) | (simp only [Hs, Tl, Sc, isHs, isScr, isTs] at *; omega)) (fun Nq23 hS hq23 oq23 mq23 => ?_)
                    have kn24 := (oq23 (76) 0 (by first | omega | (simp only [Hs, Tl, Sc, isHs, isScr, isTs] at *; omega))).trans kn21
                    have hf : ∀ i, i ≠ g6 → Nq23 83 i = f i := fun i hi => (oq23 83 i (fun hz => hi hz.2)).trans (hf i)
                    have hg6 := hq23
                    have e144 : ∀ k, k < 22 * (g6 + 1) → Nq23 78 k = N_57 78 k := fun k hk => by rw [mq23, up2_ne (by omega)]; exact e129 k hk
                    have f144 : ∀ i, ¬ i = g6 → Nq23 83 i = N_57 83 i := fun i hi => by rw [mq23, up2_ne (by omega)]; exact f129 i
                    have n144 : Nq23 83 g6 = nI (tk + 1) := hq23
                    refine w_load (.iload 7) 147 (by decide +kernel) rfl rfl ?_
                    refine w_ieq 164 150 (by decide +kernel) (fun hz => absurd hz (by decide)) (fun _ => ?_)
                    refine w_iincN (z := 6) (g6 + 1) 153 (by decide +kernel) rfl (Nat.le_of_ble_eq_true rfl) rfl rfl ?_
                    show Wp _ _ _ [.ref 76, .int (nI k2), .int b, .int (nI ((nD T k2))), .int x4_57, .int x5_57, .int (nI (g6 + 1)), .int (1)] _ _ _ _
                    refine w_load (.aload_n 0) 154 (by decide +kernel) rfl rfl ?_
                    refine w_getR (k := 12) (r := 83) 157 (by decide +kernel) sh_76 rfl ?_
                    refine w_load (.iload 6) 159 (by decide +kernel) rfl rfl ?_
                    refine w_pushN 0 160 (by decide +kernel) ?_
                    refine w_iastE 161 (by decide +kernel) sh_83 (by omega) (by omega) hS (Rg.free (by simp only [Hs, Tl, Sc, isScr, isHs, isTs] at *; omega)) (by first | exact rfl | omega | (dsimp only; omega) | (simp only [Hs, Tl, Sc, isHs, isScr, isTs] at *; omega)) (fun Nq26 hS hq26 oq26 mq26 => ?_)
                    have kn27 := (oq26 (76) 0 (by first | omega | (simp only [Hs, Tl, Sc, isHs, isScr, isTs] at *; omega))).trans kn24
                    have hf : ∀ i, i ≠ g6 → i ≠ g6 + 1 → Nq26 83 i = f i := fun i hi1 hi2 => (oq26 83 i (fun hz => hi2 hz.2)).trans (hf i hi1)
                    have hg6 := (oq26 83 g6 (by omega)).trans hg6
                    have hg7 := hq26
                    have zB : chZ n (dvT T k2) (nD T k2) Nq26 (g6 + 1) x4_57 x5_57 (c, pw, nI 0, nI 0) := chz_push hn (by omega) hst htr hz (by omega) (by rw [← htk2]; exact hch) (by rw [mq26, lvC_76 (by decide), mq23, lvC_76 (by decide)]; exact hE) (by rw [mq26, lvL_76 (by decide), mq23, lvL_76 (by decide)]; exact hL) (fun k hk => by rw [mq26, up2_ne (by omega)]; exact e144 k hk) (fun i h1 h2 => by rw [mq26, up2_ne (by omega)]; exact f144 i h1) (by rw [mq26, up2_ne (by omega), ← htk2]; exact n144) (by rw [mq26, up2_eq])
                    refine w_goto 167 (by decide +kernel) ?_
                    refine w_goto 57 (by decide +kernel) ?_
                    refine Wp.forget (ls := [.ref 76, .int (nI k2), .int b, .int (nI ((nD T k2))), .int x4_57, .int x5_57, .int (nI (g6 + 1)), .null]) ⟨Or.inl rfl, Or.inl rfl, Or.inl rfl, Or.inl rfl, Or.inl rfl, Or.inl rfl, Or.inl rfl, Or.inr ⟨rfl, rfl⟩, trivial⟩ ?_
                    exact ih_57 Nq26 _ _ (g6 + 1) hS (by first | omega | exact ch_t (by omega) hf hi1_57 | exact ch_a (by omega) hf hi1_57 | exact ch_b hf hi1_57 hg6 (by omega) hg7 | exact zT | exact zA | exact zB) (by first | omega | exact ch_t (by omega) hf hi1_57 | exact ch_a (by omega) hf hi1_57 | exact ch_b hf hi1_57 hg6 (by omega) hg7 | exact zT | exact zA | exact zB) (by first | omega | exact ch_t (by omega) hf hi1_57 | exact ch_a (by omega) hf hi1_57 | exact ch_b hf hi1_57 hg6 (by omega) hg7 | exact zT | exact zA | exact zB) (by first | exact Nat.lt_of_lt_of_le (cm_t (by omega) hf) (Nat.le_of_lt_succ hm_57) | exact Nat.lt_of_lt_of_le (cm_a (by omega) (by omega) etf (by omega) hf) (Nat.le_of_lt_succ hm_57) | exact Nat.lt_of_lt_of_le (cm_b (by omega) (by omega) etf (by omega) hg6 hg7 hf) (Nat.le_of_lt_succ hm_57))
                  · skip
                    refine w_store (ls' := [.ref 76, .int (nI k2), .int b, .int (nI ((nD T k2))), .int x4_57, .int x5_57, .int (nI g6), .int (0)]) (.istore 7) 134 (by decide +kernel) rfl rfl ?_
                    refine w_load (.aload_n 0) 135 (by decide +kernel) rfl rfl ?_
                    refine w_getR (k := 12) (r := 83) 138 (by decide +kernel) sh_76 rfl ?_
                    refine w_load (.iload 6) 140 (by decide +kernel) rfl rfl ?_
                    refine w_pure .dup2 141 (by decide +kernel) rfl rfl ?_
                    refine w_ialdK 142 (by decide +kernel) sh_83 (by decide) (by omega) kn22 ?_
                    refine w_pushN 1 143 (by decide +kernel) ?_
                    refine w_addN (tk + 1) 144 (by decide +kernel) (by omega) ?_
                    refine w_iastE 145 (by decide +kernel) sh_83 (by omega) (by omega) hS (Rg.free (by simp only [Hs, Tl, Sc, isScr, isHs, isTs] at *; omega)) (by first | exact rfl | omega | (dsimp only; omega) | (simp only [Hs, Tl, Sc, isHs, isScr, isTs] at *; omega)) (fun Nq28 hS hq28 oq28 mq28 => ?_)
                    have kn29 := (oq28 (76) 0 (by first | omega | (simp only [Hs, Tl, Sc, isHs, isScr, isTs] at *; omega))).trans kn21
                    have hf : ∀ i, i ≠ g6 → Nq28 83 i = f i := fun i hi => (oq28 83 i (fun hz => hi hz.2)).trans (hf i)
                    have hg6 := hq28
                    have e144 : ∀ k, k < 22 * (g6 + 1) → Nq28 78 k = N_57 78 k := fun k hk => by rw [mq28, up2_ne (by omega)]; exact e129 k hk
                    have f144 : ∀ i, ¬ i = g6 → Nq28 83 i = N_57 83 i := fun i hi => by rw [mq28, up2_ne (by omega)]; exact f129 i
                    have n144 : Nq28 83 g6 = nI (tk + 1) := hq28
                    have zA : chZ n (dvT T k2) (nD T k2) Nq28 (g6 - 1) x4_57 x5_57 (c, pw, nI 0, nI 0) := chz_none hn (by omega) hst htr hz (by omega) (by rw [← htk2]; exact hnone) e144 f144
                    refine w_load (.iload 7) 147 (by decide +kernel) rfl rfl ?_
                    refine w_ieq 164 150 (by decide +kernel) (fun _ => ?_) (fun hz => absurd hz (by decide))
                    refine w_idecN (z := 6) ((g6 - 1)) 167 (by decide +kernel) rfl (Nat.le_of_ble_eq_true rfl) rfl (by omega) rfl ?_
                    show Wp _ _ _ [.ref 76, .int (nI k2), .int b, .int (nI ((nD T k2))), .int x4_57, .int x5_57, .int (nI ((g6 - 1))), .int (0)] _ _ _ _
                    refine w_goto 57 (by decide +kernel) ?_
                    refine Wp.forget (ls := [.ref 76, .int (nI k2), .int b, .int (nI ((nD T k2))), .int x4_57, .int x5_57, .int (nI ((g6 - 1))), .null]) ⟨Or.inl rfl, Or.inl rfl, Or.inl rfl, Or.inl rfl, Or.inl rfl, Or.inl rfl, Or.inl rfl, Or.inr ⟨rfl, rfl⟩, trivial⟩ ?_
                    exact ih_57 Nq28 _ _ ((g6 - 1)) hS (by first | omega | exact ch_t (by omega) hf hi1_57 | exact ch_a (by omega) hf hi1_57 | exact ch_b hf hi1_57 hg6 (by omega) hg7 | exact zT | exact zA | exact zB) (by first | omega | exact ch_t (by omega) hf hi1_57 | exact ch_a (by omega) hf hi1_57 | exact ch_b hf hi1_57 hg6 (by omega) hg7 | exact zT | exact zA | exact zB) (by first | omega | exact ch_t (by omega) hf hi1_57 | exact ch_a (by omega) hf hi1_57 | exact ch_b hf hi1_57 hg6 (by omega) hg7 | exact zT | exact zA | exact zB) (by first | exact Nat.lt_of_lt_of_le (cm_t (by omega) hf) (Nat.le_of_lt_succ hm_57) | exact Nat.lt_of_lt_of_le (cm_a (by omega) (by omega) etf (by omega) hf) (Nat.le_of_lt_succ hm_57) | exact Nat.lt_of_lt_of_le (cm_b (by omega) (by omega) etf (by omega) hg6 hg7 hf) (Nat.le_of_lt_succ hm_57))
              · skip
                obtain ⟨f, hf⟩ : ∃ f : Nat → Int32, f = N_57 83 := ⟨_, rfl⟩
                rw [← hf] at hi1_57 hm_57
                replace hf : ∀ i, N_57 83 i = f i := fun i => by rw [hf]
                obtain ⟨st, tr, hst, htr, hz⟩ := hi2_57
                refine w_load (.iload 4) 72 (by decide +kernel) rfl rfl ?_
                refine w_load (.aload_n 0) 73 (by decide +kernel) rfl rfl ?_
                refine w_load (.iload 6) 75 (by decide +kernel) rfl rfl ?_
                refine w_callV1 165 8 2 78 (by decide +kernel) sh_76 (Nat.le_of_ble_eq_true rfl) rfl (by decide) (by omega) ?_
                refine s_dead8 hS.1 (by omega) (by omega) ((hS.2 76 0 (by (try dsimp only); first | omega | (simp only [Hs, Tl, Sc, isHs, isScr, isTs] at *; omega))).trans en) (hst g6 (by omega) (by omega)).1 (by omega) (fun r31 hr31 => ?_)
                dsimp only [Option.toList, List.cons_append, List.nil_append]
                rcases hr31 with rfl
                · skip
                  refine w_pure .ior 79 (by decide +kernel) rfl rfl ?_
                  refine w_topi (fun v32 ev32 => ?_)
                  refine w_store (ls' := [.ref 76, .int (nI k2), .int b, .int (nI ((nD T k2))), .int v32, .int x5_57, .int (nI g6), .null]) (.istore 4) 81 (by decide +kernel) rfl rfl ?_
                  have eS := ev32
                  refine w_load (.iload 5) 83 (by decide +kernel) rfl rfl ?_
                  refine w_load (.aload_n 0) 84 (by decide +kernel) rfl rfl ?_
                  refine w_load (.iload 6) 86 (by decide +kernel) rfl rfl ?_
                  refine w_callV1 165 8 2 89 (by decide +kernel) sh_76 (Nat.le_of_ble_eq_true rfl) rfl (by decide) (by omega) ?_
                  refine s_dead8 hS.1 (by omega) (by omega) ((hS.2 76 0 (by (try dsimp only); first | omega | (simp only [Hs, Tl, Sc, isHs, isScr, isTs] at *; omega))).trans en) (hst g6 (by omega) (by omega)).1 (by omega) (fun r33 hr33 => ?_)
                  dsimp only [Option.toList, List.cons_append, List.nil_append]
                  rcases hr33 with rfl
                  · skip
                    refine w_pure .iand 90 (by decide +kernel) rfl rfl ?_
                    refine w_topi (fun v34 ev34 => ?_)
                    refine w_store (ls' := [.ref 76, .int (nI k2), .int b, .int (nI ((nD T k2))), .int v32, .int v34, .int (nI g6), .null]) (.istore 5) 92 (by decide +kernel) rfl rfl ?_
                    have zT : chZ n (dvT T k2) (nD T k2) N_57 (g6 - 1) v32 v34 (c, pw, nI 0, nI 0) := by rw [eS, ev34]; exact chz_leaf hst htr hz (by omega)
                    refine w_idecN (z := 6) ((g6 - 1)) 95 (by decide +kernel) rfl (Nat.le_of_ble_eq_true rfl) rfl (by omega) rfl ?_
                    show Wp _ _ _ [.ref 76, .int (nI k2), .int b, .int (nI ((nD T k2))), .int v32, .int v34, .int (nI ((g6 - 1))), .null] _ _ _ _
                    refine w_goto 57 (by decide +kernel) ?_
                    exact ih_57 N_57 _ _ ((g6 - 1)) hS (by first | omega | exact ch_t (by omega) hf hi1_57 | exact ch_a (by omega) hf hi1_57 | exact ch_b hf hi1_57 hg6 (by omega) hg7 | exact zT | exact zA | exact zB) (by first | omega | exact ch_t (by omega) hf hi1_57 | exact ch_a (by omega) hf hi1_57 | exact ch_b hf hi1_57 hg6 (by omega) hg7 | exact zT | exact zA | exact zB) (by first | omega | exact ch_t (by omega) hf hi1_57 | exact ch_a (by omega) hf hi1_57 | exact ch_b hf hi1_57 hg6 (by omega) hg7 | exact zT | exact zA | exact zB) (by first | exact Nat.lt_of_lt_of_le (cm_t (by omega) hf) (Nat.le_of_lt_succ hm_57) | exact Nat.lt_of_lt_of_le (cm_a (by omega) (by omega) etf (by omega) hf) (Nat.le_of_lt_succ hm_57) | exact Nat.lt_of_lt_of_le (cm_b (by omega) (by omega) etf (by omega) hg6 hg7 hf) (Nat.le_of_lt_succ hm_57))
        exact LP_57 _ Nq11 _ _ 1 hS (by first | omega | (intro i hi1 hi2 hi3; exact ⟨0, by omega, by rw [show i = 1 by omega]; assumption⟩) | exact z57) (by first | omega | (intro i hi1 hi2 hi3; exact ⟨0, by omega, by rw [show i = 1 by omega]; assumption⟩) | exact z57) (by first | omega | (intro i hi1 hi2 hi3; exact ⟨0, by omega, by rw [show i = 1 by omega]; assumption⟩) | exact z57) (Nat.lt_succ_self _)
      · skip
        refine w_push (-3) 22 (by decide +kernel) ?_
        exact w_ret (by decide +kernel) (hq _ N hS (Or.inr ⟨_, by assumption, rfl, Or.inl ⟨rfl, by omega⟩⟩))
  · skip
    refine w_ine 9 7 (by decide +kernel) (fun hz => absurd hz (by decide)) (fun _ => ?_)
    refine w_push (-1) 8 (by decide +kernel) ?_
    exact w_ret (by decide +kernel) (hq _ N hS (Or.inl ⟨rfl, by assumption⟩))
