-- X7_kindOf#n
set_option maxRecDepth 10000 in
theorem s_kindN {d : Nat} {M : Mt} {L : Lt} {Q : Option Value → Mt → Lt → Prop} {a : Nat} (hI : Inv M) (ha : a < 64) (hd : 0 ≤ d) (hq : ∀ (r : Int32), (r = nI (a / 16)) → Q (some (.int r)) M L) : Wp d 117 0 [.int (nI a)] [] M L Q := by
  refine w_load (.iload_n 0) 1 (by decide +kernel) rfl rfl ?_
  refine w_pushN 16 3 (by decide +kernel) ?_
  refine w_divN (a / 16) 4 (by decide +kernel) (by decide) (by decide) (by omega) rfl ?_
  exact w_ret (by decide +kernel) (hq _ rfl)
-- X0_isSettled#s
set_option maxRecDepth 10000 in
theorem s_isSettled {d : Nat} {M : Mt} {L : Lt} {Q : Option Value → Mt → Lt → Prop} {n : Nat} {b B : Int32} (hI : Inv M) (hn : n ≤ 5) (en0 : M 34 2 = nI n) (hb : M 31 1 = b) (hB : M 31 4 = B) (hd : 1 ≤ d) (hq : ∀ (r : Int32), ((r = 1 ∧ stQ n b B (M 31 2) (M 31 3)) ∨ r = 0) → Q (some (.int r)) M L) : Wp d 3 0 [.ref 31] [] M L Q := by
  refine w_load (.aload_n 0) 1 (by decide +kernel) rfl rfl ?_
  refine w_getI (k := 1) 4 (by decide +kernel) sh_31 rfl ?_
  refine w_ieq 26 7 (by decide +kernel) (fun h1 => ?_) (fun h1 => ?_)
  · skip
    refine w_load (.aload_n 0) 27 (by decide +kernel) rfl rfl ?_
    refine w_getI (k := 2) 30 (by decide +kernel) sh_31 rfl ?_
    refine w_load (.aload_n 0) 31 (by decide +kernel) rfl rfl ?_
    refine w_getR (k := 0) (r := 32) 34 (by decide +kernel) sh_31 rfl ?_
    refine w_pushN 0 35 (by decide +kernel) ?_
    refine w_step5 36 (by decide +kernel) (by omega) ?_
    show Wp _ _ _ _ (.ref 33 :: _) _ _ _
    refine w_getR (k := 0) (r := 34) 39 (by decide +kernel) sh_33 rfl ?_
    refine w_callV0 18 1 1 42 (by decide +kernel) sh_34 (Nat.le_of_ble_eq_true rfl)  (by decide) (by omega) ?_
    refine s_everyoneE hI hs_34 (by omega) en0 (by omega) (fun r2 hr2 => ?_)
    dsimp only [Option.toList, List.cons_append, List.nil_append]
    rcases hr2 with rfl
    · skip
      refine w_cne 49 45 (by decide +kernel) (fun h3 => ?_) (fun h3 => ?_)
      · skip
        refine w_pushN 0 50 (by decide +kernel) ?_
        exact w_retZ (by decide +kernel) (Or.inl rfl) (hq _ (Or.inr rfl))
      · skip
        refine w_pushN 1 46 (by decide +kernel) ?_
        refine w_goto 50 (by decide +kernel) ?_
        exact w_retZ (by decide +kernel) (Or.inr rfl) (hq _ (Or.inl ⟨rfl, by first | exact ⟨fun z => absurd (hb.trans z) (by assumption), fun _ => (show M 31 3 = M 31 4 by assumption).trans hB⟩ | exact ⟨fun _ => (show M 31 2 = evI n by assumption), fun z => absurd (hb.symm.trans (show M 31 1 = 0 by assumption)) z⟩⟩))
  · skip
    refine w_load (.aload_n 0) 8 (by decide +kernel) rfl rfl ?_
    refine w_getI (k := 3) 11 (by decide +kernel) sh_31 rfl ?_
    refine w_load (.aload_n 0) 12 (by decide +kernel) rfl rfl ?_
    refine w_getI (k := 4) 15 (by decide +kernel) sh_31 rfl ?_
    refine w_cne 22 18 (by decide +kernel) (fun h4 => ?_) (fun h4 => ?_)
    · skip
      refine w_pushN 0 23 (by decide +kernel) ?_
      refine w_goto 50 (by decide +kernel) ?_
      exact w_retZ (by decide +kernel) (Or.inl rfl) (hq _ (Or.inr rfl))
    · skip
      refine w_pushN 1 19 (by decide +kernel) ?_
      refine w_goto 50 (by decide +kernel) ?_
      exact w_retZ (by decide +kernel) (Or.inr rfl) (hq _ (Or.inl ⟨rfl, by first | exact ⟨fun z => absurd (hb.trans z) (by assumption), fun _ => (show M 31 3 = M 31 4 by assumption).trans hB⟩ | exact ⟨fun _ => (show M 31 2 = evI n by assumption), fun z => absurd (hb.symm.trans (show M 31 1 = 0 by assumption)) z⟩⟩))
-- X0_followDoer#s
set_option maxRecDepth 10000 in
theorem s_followDoer {d : Nat} {M : Mt} {L : Lt} {Q : Option Value → Mt → Lt → Prop} {n t m k dd : Nat} {s : TSt} {T : TLs} {b B : Int32}  (hI : Inv M) (ht : t < 3) (hT : tlX T M) (hm : m ≤ nD T t ∧ m ≤ 4) (hk : k < m) (hn : n ≤ 5) (en : M (33 + 5 * k + 1) 2 = nI n) (en0 : M 34 2 = nI n) (hs : shT n (33 + 5 * k) M s) (hw : wedOk n s.1) (hb : M 31 1 = b) (hB : M 31 4 = B) (hBs : subI B (deadI n s.1)) (hd2 : tb (dorI n (dvT T t k) s) dd = true) (hrec : (∀ {d : Nat} {N0 : Mt} {L : Lt} {Q : Option Value → Mt → Lt → Prop} {s' : TSt}, Inv N0 → tlX T N0 → N0 (33 + 5 * (k + 1) + 1) 2 = nI n → N0 34 2 = nI n → shT n (33 + 5 * (k + 1)) N0 s' → wedOk n s'.1 → N0 31 1 = b → N0 31 4 = B → subI B (deadI n s'.1) → 2 * (4 - (k + 1)) + 8 ≤ d → (∀ N : Mt, St (fun i z => (38 + 5 * (k + 1) ≤ i ∧ i ≤ 57) ∨ (i = 31 ∧ (z = 2 ∨ z = 3))) N0 N → accQ n b (lf n (dvT T t) (m - (k + 1)) (k + 1) s') (N0 31 2) (N0 31 3) (N 31 2) (N 31 3) → Q none N L) → Wp d 4 0 [.ref 31, .ref (70 + 2 * t), .int (nI m), .int (nI (k + 1)), .null, .null, .null] [] N0 L Q)) (hd : 2 * (4 - k) + 7 ≤ d) (hq : ∀ (N : Mt), St (fun i z => (38 + 5 * k ≤ i ∧ i ≤ 57) ∨ (i = 31 ∧ (z = 2 ∨ z = 3))) M N → (accQ n b (pdQ n (dvT T t) (m - (k + 1)) k s dd) (M 31 2) (M 31 3) (N 31 2) (N 31 3)) → Q none N L) : Wp d 5 0 [.ref 31, .ref (70 + 2 * t), .int (nI m), .int (nI k), .int (nI dd), .null, .null, .null, .null] [] M L Q := by
  refine (show ∀ N : Mt, N = M → St (fun i z => (38 + 5 * k ≤ i ∧ i ≤ 57) ∨ (i = 31 ∧ (z = 2 ∨ z = 3))) M N → Wp d 5 0 [.ref 31, .ref (70 + 2 * t), .int (nI m), .int (nI k), .int (nI dd), .null, .null, .null, .null] [] N L Q from ?_) M rfl (St.rf hI)
  intro N hNM hS
  have kz0 : N (33 + 5 * k + 1) 2 = nI n := by rw [hNM]; exact en
  have hdn : dd < n := dor_lt hn hd2
  refine w_load (.aload_n 1) 1 (by decide +kernel) rfl rfl ?_
  refine w_load (.iload_n 3) 2 (by decide +kernel) rfl rfl ?_
  refine w_callV1 44 2 4 5 (by decide +kernel) (sc_tale t ht).1.1 (Nat.le_of_ble_eq_true rfl) rfl (by decide) (by omega) ?_
  refine s_deedAtT hS.1 (by omega) (hT.keep (fun i k h1 h2 => hS.2 i k (by (try dsimp only); first | omega | (simp only [Hs, Tl, Sc, isHs, isScr, isTs] at *; omega)))) (by omega) (by omega) (fun r1 hr1 => ?_)
  dsimp only [Option.toList, List.cons_append, List.nil_append]
  rcases hr1 with rfl
  · skip
    have hdnr1 := dn_num (T := T) (t := t) (p := k) (by omega)
    have hdbr1 := hdnr1.2
    refine w_store (ls' := [.ref 31, .ref (70 + 2 * t), .int (nI m), .int (nI k), .int (nI dd), .int (nI ((dnum T t k))), .null, .null, .null]) (.istore 5) 7 (by decide +kernel) rfl rfl ?_
    refine w_load (.aload_n 0) 8 (by decide +kernel) rfl rfl ?_
    refine w_getR (k := 0) (r := 32) 11 (by decide +kernel) sh_31 rfl ?_
    refine w_load (.iload_n 3) 12 (by decide +kernel) rfl rfl ?_
    refine w_pushN 1 13 (by decide +kernel) ?_
    refine w_addN (k + 1) 14 (by decide +kernel) (by omega) ?_
    refine w_step5 15 (by decide +kernel) (by omega) ?_
    refine w_store (ls' := [.ref 31, .ref (70 + 2 * t), .int (nI m), .int (nI k), .int (nI dd), .int (nI ((dnum T t k))), .ref (33 + 5 * (k + 1)), .null, .null]) (.astore 6) 17 (by decide +kernel) rfl rfl ?_
    refine w_load (.aload_n 0) 18 (by decide +kernel) rfl rfl ?_
    refine w_getR (k := 0) (r := 32) 21 (by decide +kernel) sh_31 rfl ?_
    refine w_load (.iload_n 3) 22 (by decide +kernel) rfl rfl ?_
    refine w_step5 23 (by decide +kernel) (by omega) ?_
    refine w_load (.iload 5) 25 (by decide +kernel) rfl rfl ?_
    refine w_load (.iload 4) 27 (by decide +kernel) rfl rfl ?_
    refine w_callV2 71 6 3 30 (by decide +kernel) (tl_step k (by omega)).1.1 (Nat.le_of_ble_eq_true rfl) rfl rfl (by decide) (by omega) ?_
    refine s_othersOf hS.1 (tl_step k (by omega)) (by omega) kz0 (by rw [hNM]; exact hs) (by omega) (fun r2 hr2 => ?_)
    dsimp only [Option.toList, List.cons_append, List.nil_append]
    rcases hr2 with rfl
    · skip
      refine w_topi (fun v3 ev3 => ?_)
      refine w_store (ls' := [.ref 31, .ref (70 + 2 * t), .int (nI m), .int (nI k), .int (nI dd), .int (nI ((dnum T t k))), .ref (33 + 5 * (k + 1)), .int v3, .null]) (.istore 7) 32 (by decide +kernel) rfl rfl ?_
      have eO : v3 = othI n (dvT T t k) s dd := ev3
      refine w_load (.iload 7) 34 (by decide +kernel) rfl rfl ?_
      refine w_ine 64 37 (by decide +kernel) (fun h4 => ?_) (fun h4 => ?_)
      · skip
        have hnz : ¬ othI n (dvT T t k) s dd = 0 := fun z => h4 (eO.trans z)
        refine w_pushN 0 65 (by decide +kernel) ?_
        refine w_store (ls' := [.ref 31, .ref (70 + 2 * t), .int (nI m), .int (nI k), .int (nI dd), .int (nI ((dnum T t k))), .ref (33 + 5 * (k + 1)), .int v3, .int (nI 0)]) (.istore 8) 67 (by decide +kernel) rfl rfl ?_
        have LP_67 : ∀ (kk : Nat) (N_67 : Mt) (g8 : Nat), St (fun i z => (38 + 5 * k ≤ i ∧ i ≤ 57) ∨ (i = 31 ∧ (z = 2 ∨ z = 3))) M N_67 → g8 ≤ 5 → accQ n b (fdQ n (dvT T t) (m - (k + 1)) k s dd g8) (M 31 2) (M 31 3) (N_67 31 2) (N_67 31 3) → 5 - g8 < kk → Wp d 5 67 [.ref 31, .ref (70 + 2 * t), .int (nI m), .int (nI k), .int (nI dd), .int (nI ((dnum T t k))), .ref (33 + 5 * (k + 1)), .int v3, .int (nI g8)] [] N_67 L Q := by
          intro kk
          induction kk with
          | zero => intro N_67 g8 hS hi0_67 hi1_67 hm_67; exact absurd hm_67 (Nat.not_lt_zero _)
          | succ kk ih_67 =>
            intro N_67 g8 hS hi0_67 hi1_67 hm_67
            refine w_load (.iload 8) 69 (by decide +kernel) rfl rfl ?_
            refine w_pushN 5 70 (by decide +kernel) ?_
            refine w_cgeN 128 73 (by decide +kernel) (by omega) (by omega) (fun h5 => ?_) (fun h5 => ?_)
            · skip
              exact w_retV (by decide +kernel) (hq N_67 hS (by first | exact hi1_67.cg (fun l => fdQ.all hn (by omega)) | exact hi1_67.set hst (fun l z => z.le) (fun l z => hBs.tr (lf.dead hn _ _ _ _ (pd_lf hd2 z)))))
            · skip
              refine w_load (.aload_n 0) 74 (by decide +kernel) rfl rfl ?_
              refine w_callV0 3 0 1 77 (by decide +kernel) sh_31 (Nat.le_of_ble_eq_true rfl)  (by decide) (by omega) ?_
              refine s_isSettled hS.1 hn ((hS.2 34 2 (by (try dsimp only); first | omega | (simp only [Hs, Tl, Sc, isHs, isScr, isTs] at *; omega))).trans en0) ((hS.2 31 1 (by (try dsimp only); first | omega | (simp only [Hs, Tl, Sc, isHs, isScr, isTs] at *; omega))).trans hb) ((hS.2 31 4 (by (try dsimp only); first | omega | (simp only [Hs, Tl, Sc, isHs, isScr, isTs] at *; omega))).trans hB) (by omega) (fun r6 hr6 => ?_)
              dsimp only [Option.toList, List.cons_append, List.nil_append]
              rcases hr6 with ⟨rfl, hst⟩ | rfl
              · skip
                refine w_ine 128 80 (by decide +kernel) (fun _ => ?_) (fun hz => absurd hz (by decide))
                exact w_retV (by decide +kernel) (hq N_67 hS (by first | exact hi1_67.cg (fun l => fdQ.all hn (by omega)) | exact hi1_67.set hst (fun l z => z.le) (fun l z => hBs.tr (lf.dead hn _ _ _ _ (pd_lf hd2 z)))))
              · skip
                refine w_ine 128 80 (by decide +kernel) (fun hz => absurd hz (by decide)) (fun _ => ?_)
                refine w_load (.iload 7) 82 (by decide +kernel) rfl rfl ?_
                refine w_load (.iload 8) 84 (by decide +kernel) rfl rfl ?_
                refine w_callS2 115 2 87 (by decide +kernel) (Nat.le_of_ble_eq_true rfl) rfl rfl (by decide) (by omega) ?_
                refine s_holds hS.1 (by omega) (by omega) (fun r9 hr9 => ?_)
                dsimp only [Option.toList, List.cons_append, List.nil_append]
                rcases hr9 with ⟨rfl, htr9⟩ | ⟨rfl, htr9⟩
                · skip
                  refine w_ieq 122 90 (by decide +kernel) (fun hz => absurd hz (by decide)) (fun _ => ?_)
                  refine w_load (.aload 6) 92 (by decide +kernel) rfl rfl ?_
                  refine w_load (.aload_n 0) 93 (by decide +kernel) rfl rfl ?_
                  refine w_getR (k := 0) (r := 32) 96 (by decide +kernel) sh_31 rfl ?_
                  refine w_load (.iload_n 3) 97 (by decide +kernel) rfl rfl ?_
                  refine w_step5 98 (by decide +kernel) (by omega) ?_
                  refine w_callV1 67 6 2 101 (by decide +kernel) (tl_step (k + 1) (by omega)).1.1 (Nat.le_of_ble_eq_true rfl) rfl (by decide) (by omega) ?_
                  refine s_tcopy hS.1 (tl_step (k + 1) (by omega)) (tl_step k (by omega)) (by omega) (by omega) ((hS.2 (33 + 5 * k + 1) 2 (by (try dsimp only); first | omega | (simp only [Hs, Tl, Sc, isHs, isScr, isTs] at *; omega))).trans en) (shT.keep hs (hS.row (fun k => (by (try dsimp only); first | omega | (simp only [Hs, Tl, Sc, isHs, isScr, isTs] at *; omega)))) (hS.row (fun k => (by (try dsimp only); first | omega | (simp only [Hs, Tl, Sc, isHs, isScr, isTs] at *; omega)))) (hS.row (fun k => (by (try dsimp only); first | omega | (simp only [Hs, Tl, Sc, isHs, isScr, isTs] at *; omega))))) (by omega) (fun Nr11 hTr11 hr11 => ?_)
                  have kn12 := (hTr11.2 (33 + 5 * k + 1) 2 (by (try dsimp only); first | omega | (simp only [Hs, Tl, Sc, isHs, isScr, isTs] at *; omega))).trans ((hS.2 (33 + 5 * k + 1) 2 (by (try dsimp only); first | omega | (simp only [Hs, Tl, Sc, isHs, isScr, isTs] at *; omega))).trans en)
                  have hS := hS.tr hTr11 (by intro i k; first | exact rfl | exact fun h => h.elim | omega | (dsimp only; omega) | (simp only [Hs, Tl, Sc, isHs, isScr, isTs] at *; omega))
                  have s98 := hr11.1
                  have s98g := hr11.2
                  have hto : tb (othI n (dvT T t k) s dd) g8 = true := by rw [← eO]; assumption
                  have hon : g8 < n := oth_lt hn hto
                  have hnx : nxt n (dvT T t k) k s (actS (dvT T t k) k s dd g8) := Or.inr ⟨dd, hd2, Or.inr ⟨g8, hto, rfl⟩⟩
                  dsimp only [Option.toList, List.nil_append]
                  refine w_load (.aload 6) 103 (by decide +kernel) rfl rfl ?_
                  refine w_load (.iload 5) 105 (by decide +kernel) rfl rfl ?_
                  refine w_load (.iload_n 3) 106 (by decide +kernel) rfl rfl ?_
                  refine w_load (.iload 4) 108 (by decide +kernel) rfl rfl ?_
                  refine w_load (.iload 8) 110 (by decide +kernel) rfl rfl ?_
                  refine w_callV4 73 6 6 113 (by decide +kernel) (tl_step (k + 1) (by omega)).1.1 (Nat.le_of_ble_eq_true rfl) rfl rfl rfl rfl (by decide) (by omega) ?_
                  refine s_attempt hS.1 (tl_step (k + 1) (by omega)) (by omega) s98g s98 hdn hon hw (by omega) (fun Nr13 hTr13 hr13 => ?_)
                  have kn14 := (hTr13.2 (33 + 5 * k + 1) 2 (by (try dsimp only); first | omega | (simp only [Hs, Tl, Sc, isHs, isScr, isTs] at *; omega))).trans kn12
                  have hS := hS.tr hTr13 (by intro i k; first | exact rfl | exact fun h => h.elim | omega | (dsimp only; omega) | (simp only [Hs, Tl, Sc, isHs, isScr, isTs] at *; omega))
                  have s110 := hr13
                  have s110g : Nr13 (33 + 5 * (k + 1) + 1) 2 = nI n := (hTr13.2 _ 2 (by (try dsimp only); first | omega | (simp only [Hs, Tl, Sc, isHs, isScr, isTs] at *; omega))).trans s98g
                  have e31_2 : Nr13 31 2 = N_67 31 2 := (hTr13.2 31 2 (by (try dsimp only); first | omega | (simp only [Hs, Tl, Sc, isHs, isScr, isTs] at *; omega))).trans (hTr11.2 31 2 (by (try dsimp only); first | omega | (simp only [Hs, Tl, Sc, isHs, isScr, isTs] at *; omega)))
                  have e31_3 : Nr13 31 3 = N_67 31 3 := (hTr13.2 31 3 (by (try dsimp only); first | omega | (simp only [Hs, Tl, Sc, isHs, isScr, isTs] at *; omega))).trans (hTr11.2 31 3 (by (try dsimp only); first | omega | (simp only [Hs, Tl, Sc, isHs, isScr, isTs] at *; omega)))
                  dsimp only [Option.toList, List.nil_append]
                  refine w_load (.aload_n 0) 114 (by decide +kernel) rfl rfl ?_
                  refine w_load (.aload_n 1) 115 (by decide +kernel) rfl rfl ?_
                  refine w_load (.iload_n 2) 116 (by decide +kernel) rfl rfl ?_
                  refine w_load (.iload_n 3) 117 (by decide +kernel) rfl rfl ?_
                  refine w_pushN 1 118 (by decide +kernel) ?_
                  refine w_addN (k + 1) 119 (by decide +kernel) (by omega) ?_
                  refine w_callV3 4 0 7 122 (by decide +kernel) sh_31 (Nat.le_of_ble_eq_true rfl) rfl rfl rfl (by decide) (by omega) ?_
                  refine hrec hS.1 (hT.keep (fun i k h1 h2 => hS.2 i k (by (try dsimp only); first | omega | (simp only [Hs, Tl, Sc, isHs, isScr, isTs] at *; omega)))) s110g ((hS.2 34 2 (by (try dsimp only); first | omega | (simp only [Hs, Tl, Sc, isHs, isScr, isTs] at *; omega))).trans en0) s110 (hnx.wed hn hw) ((hS.2 31 1 (by (try dsimp only); first | omega | (simp only [Hs, Tl, Sc, isHs, isScr, isTs] at *; omega))).trans hb) ((hS.2 31 4 (by (try dsimp only); first | omega | (simp only [Hs, Tl, Sc, isHs, isScr, isTs] at *; omega))).trans hB) (hBs.tr (hnx.dead hn)) (by omega) (fun Nr15 hTr15 hr15 => ?_)
                  have kn16 := (hTr15.2 (33 + 5 * k + 1) 2 (by (try dsimp only); first | omega | (simp only [Hs, Tl, Sc, isHs, isScr, isTs] at *; omega))).trans kn14
                  have hS := hS.tr hTr15 (by intro i k; first | exact rfl | exact fun h => h.elim | omega | (dsimp only; omega) | (simp only [Hs, Tl, Sc, isHs, isScr, isTs] at *; omega))
                  rw [e31_2, e31_3] at hr15
                  have a119 := hi1_67.tr hr15 (fun l => fdQ.t hto)
                  dsimp only [Option.toList, List.nil_append]
                  refine w_iincN (z := 8) (g8 + 1) 125 (by decide +kernel) rfl (Nat.le_of_ble_eq_true rfl) rfl rfl ?_
                  show Wp _ _ _ [.ref 31, .ref (70 + 2 * t), .int (nI m), .int (nI k), .int (nI dd), .int (nI ((dnum T t k))), .ref (33 + 5 * (k + 1)), .int v3, .int (nI (g8 + 1))] _ _ _ _
                  refine w_goto 67 (by decide +kernel) ?_
                  exact ih_67 Nr15 (g8 + 1) hS (by first | omega | exact a119 | exact hi1_67.cg (fun l => fdQ.f (by rw [← eO]; assumption))) (by first | omega | exact a119 | exact hi1_67.cg (fun l => fdQ.f (by rw [← eO]; assumption))) (by omega)
                · skip
                  refine w_ieq 122 90 (by decide +kernel) (fun _ => ?_) (fun hz => absurd hz (by decide))
                  refine w_iincN (z := 8) (g8 + 1) 125 (by decide +kernel) rfl (Nat.le_of_ble_eq_true rfl) rfl rfl ?_
                  show Wp _ _ _ [.ref 31, .ref (70 + 2 * t), .int (nI m), .int (nI k), .int (nI dd), .int (nI ((dnum T t k))), .ref (33 + 5 * (k + 1)), .int v3, .int (nI (g8 + 1))] _ _ _ _
                  refine w_goto 67 (by decide +kernel) ?_
                  exact ih_67 N_67 (g8 + 1) hS (by first | omega | exact a119 | exact hi1_67.cg (fun l => fdQ.f (by rw [← eO]; assumption))) (by first | omega | exact a119 | exact hi1_67.cg (fun l => fdQ.f (by rw [← eO]; assumption))) (by omega)
        exact LP_67 _ N 0 hS (by first | omega | exact a61 | (rw [hNM]; exact accQ.emp (fun l => fdQ.z hnz))) (by first | omega | exact a61 | (rw [hNM]; exact accQ.emp (fun l => fdQ.z hnz))) (Nat.lt_succ_self _)
      · skip
        have hz0 : othI n (dvT T t k) s dd = 0 := eO.symm.trans h4
        have hnx : nxt n (dvT T t k) k s (fineS s dd) := Or.inr ⟨dd, hd2, Or.inl ⟨hz0, rfl⟩⟩
        refine w_load (.aload 6) 39 (by decide +kernel) rfl rfl ?_
        refine w_load (.aload_n 0) 40 (by decide +kernel) rfl rfl ?_
        refine w_getR (k := 0) (r := 32) 43 (by decide +kernel) sh_31 rfl ?_
        refine w_load (.iload_n 3) 44 (by decide +kernel) rfl rfl ?_
        refine w_step5 45 (by decide +kernel) (by omega) ?_
        refine w_callV1 67 6 2 48 (by decide +kernel) (tl_step (k + 1) (by omega)).1.1 (Nat.le_of_ble_eq_true rfl) rfl (by decide) (by omega) ?_
        refine s_tcopy hS.1 (tl_step (k + 1) (by omega)) (tl_step k (by omega)) (by omega) (by omega) kz0 (by rw [hNM]; exact hs) (by omega) (fun Nr18 hTr18 hr18 => ?_)
        have kn19 := (hTr18.2 (33 + 5 * k + 1) 2 (by (try dsimp only); first | omega | (simp only [Hs, Tl, Sc, isHs, isScr, isTs] at *; omega))).trans kz0
        have hS := hS.tr hTr18 (by intro i k; first | exact rfl | exact fun h => h.elim | omega | (dsimp only; omega) | (simp only [Hs, Tl, Sc, isHs, isScr, isTs] at *; omega))
        have s45 := hr18.1
        have s45g := hr18.2
        dsimp only [Option.toList, List.nil_append]
        refine w_load (.aload 6) 50 (by decide +kernel) rfl rfl ?_
        refine w_load (.iload 4) 52 (by decide +kernel) rfl rfl ?_
        refine w_callV1 74 6 2 55 (by decide +kernel) (tl_step (k + 1) (by omega)).1.1 (Nat.le_of_ble_eq_true rfl) rfl (by decide) (by omega) ?_
        refine s_fine hS.1 (tl_step (k + 1) (by omega)) (by omega) s45g s45 (by omega) (by omega) (fun Nr20 hTr20 hr20 => ?_)
        have kn21 := (hTr20.2 (33 + 5 * k + 1) 2 (by (try dsimp only); first | omega | (simp only [Hs, Tl, Sc, isHs, isScr, isTs] at *; omega))).trans kn19
        have hS := hS.tr hTr20 (by intro i k; first | exact rfl | exact fun h => h.elim | omega | (dsimp only; omega) | (simp only [Hs, Tl, Sc, isHs, isScr, isTs] at *; omega))
        have s52 := hr20
        have s52g : Nr20 (33 + 5 * (k + 1) + 1) 2 = nI n := (hTr20.2 _ 2 (by (try dsimp only); first | omega | (simp only [Hs, Tl, Sc, isHs, isScr, isTs] at *; omega))).trans s45g
        have e31_2 : Nr20 31 2 = N 31 2 := (hTr20.2 31 2 (by (try dsimp only); first | omega | (simp only [Hs, Tl, Sc, isHs, isScr, isTs] at *; omega))).trans (hTr18.2 31 2 (by (try dsimp only); first | omega | (simp only [Hs, Tl, Sc, isHs, isScr, isTs] at *; omega)))
        have e31_3 : Nr20 31 3 = N 31 3 := (hTr20.2 31 3 (by (try dsimp only); first | omega | (simp only [Hs, Tl, Sc, isHs, isScr, isTs] at *; omega))).trans (hTr18.2 31 3 (by (try dsimp only); first | omega | (simp only [Hs, Tl, Sc, isHs, isScr, isTs] at *; omega)))
        dsimp only [Option.toList, List.nil_append]
        refine w_load (.aload_n 0) 56 (by decide +kernel) rfl rfl ?_
        refine w_load (.aload_n 1) 57 (by decide +kernel) rfl rfl ?_
        refine w_load (.iload_n 2) 58 (by decide +kernel) rfl rfl ?_
        refine w_load (.iload_n 3) 59 (by decide +kernel) rfl rfl ?_
        refine w_pushN 1 60 (by decide +kernel) ?_
        refine w_addN (k + 1) 61 (by decide +kernel) (by omega) ?_
        refine w_callV3 4 0 7 64 (by decide +kernel) sh_31 (Nat.le_of_ble_eq_true rfl) rfl rfl rfl (by decide) (by omega) ?_
        refine hrec hS.1 (hT.keep (fun i k h1 h2 => hS.2 i k (by (try dsimp only); first | omega | (simp only [Hs, Tl, Sc, isHs, isScr, isTs] at *; omega)))) s52g ((hS.2 34 2 (by (try dsimp only); first | omega | (simp only [Hs, Tl, Sc, isHs, isScr, isTs] at *; omega))).trans en0) s52 (hnx.wed hn hw) ((hS.2 31 1 (by (try dsimp only); first | omega | (simp only [Hs, Tl, Sc, isHs, isScr, isTs] at *; omega))).trans hb) ((hS.2 31 4 (by (try dsimp only); first | omega | (simp only [Hs, Tl, Sc, isHs, isScr, isTs] at *; omega))).trans hB) (hBs.tr (hnx.dead hn)) (by omega) (fun Nr22 hTr22 hr22 => ?_)
        have kn23 := (hTr22.2 (33 + 5 * k + 1) 2 (by (try dsimp only); first | omega | (simp only [Hs, Tl, Sc, isHs, isScr, isTs] at *; omega))).trans kn21
        have hS := hS.tr hTr22 (by intro i k; first | exact rfl | exact fun h => h.elim | omega | (dsimp only; omega) | (simp only [Hs, Tl, Sc, isHs, isScr, isTs] at *; omega))
        rw [e31_2, e31_3, hNM] at hr22
        have a61 := hr22.cg (fun l => fdQ.a hz0)
        dsimp only [Option.toList, List.nil_append]
        refine w_pushN 0 65 (by decide +kernel) ?_
        refine w_store (ls' := [.ref 31, .ref (70 + 2 * t), .int (nI m), .int (nI k), .int (nI dd), .int (nI ((dnum T t k))), .ref (33 + 5 * (k + 1)), .int v3, .int (nI 0)]) (.istore 8) 67 (by decide +kernel) rfl rfl ?_
        have LP_67 : ∀ (kk : Nat) (N_67 : Mt) (g8 : Nat), St (fun i z => (38 + 5 * k ≤ i ∧ i ≤ 57) ∨ (i = 31 ∧ (z = 2 ∨ z = 3))) M N_67 → g8 ≤ 5 → accQ n b (fdQ n (dvT T t) (m - (k + 1)) k s dd g8) (M 31 2) (M 31 3) (N_67 31 2) (N_67 31 3) → 5 - g8 < kk → Wp d 5 67 [.ref 31, .ref (70 + 2 * t), .int (nI m), .int (nI k), .int (nI dd), .int (nI ((dnum T t k))), .ref (33 + 5 * (k + 1)), .int v3, .int (nI g8)] [] N_67 L Q := by
          intro kk
          induction kk with
          | zero => intro N_67 g8 hS hi0_67 hi1_67 hm_67; exact absurd hm_67 (Nat.not_lt_zero _)
          | succ kk ih_67 =>
            intro N_67 g8 hS hi0_67 hi1_67 hm_67
            refine w_load (.iload 8) 69 (by decide +kernel) rfl rfl ?_
            refine w_pushN 5 70 (by decide +kernel) ?_
            refine w_cgeN 128 73 (by decide +kernel) (by omega) (by omega) (fun h24 => ?_) (fun h24 => ?_)
            · skip
              exact w_retV (by decide +kernel) (hq N_67 hS (by first | exact hi1_67.cg (fun l => fdQ.all hn (by omega)) | exact hi1_67.set hst (fun l z => z.le) (fun l z => hBs.tr (lf.dead hn _ _ _ _ (pd_lf hd2 z)))))
            · skip
              refine w_load (.aload_n 0) 74 (by decide +kernel) rfl rfl ?_
              refine w_callV0 3 0 1 77 (by decide +kernel) sh_31 (Nat.le_of_ble_eq_true rfl)  (by decide) (by omega) ?_
              refine s_isSettled hS.1 hn ((hS.2 34 2 (by (try dsimp only); first | omega | (simp only [Hs, Tl, Sc, isHs, isScr, isTs] at *; omega))).trans en0) ((hS.2 31 1 (by (try dsimp only); first | omega | (simp only [Hs, Tl, Sc, isHs, isScr, isTs] at *; omega))).trans hb) ((hS.2 31 4 (by (try dsimp only); first | omega | (simp only [Hs, Tl, Sc, isHs, isScr, isTs] at *; omega))).trans hB) (by omega) (fun r25 hr25 => ?_)
              dsimp only [Option.toList, List.cons_append, List.nil_append]
              rcases hr25 with ⟨rfl, hst⟩ | rfl
              · skip
                refine w_ine 128 80 (by decide +kernel) (fun _ => ?_) (fun hz => absurd hz (by decide))
                exact w_retV (by decide +kernel) (hq N_67 hS (by first | exact hi1_67.cg (fun l => fdQ.all hn (by omega)) | exact hi1_67.set hst (fun l z => z.le) (fun l z => hBs.tr (lf.dead hn _ _ _ _ (pd_lf hd2 z)))))
              · skip
                refine w_ine 128 80 (by decide +kernel) (fun hz => absurd hz (by decide)) (fun _ => ?_)
                refine w_load (.iload 7) 82 (by decide +kernel) rfl rfl ?_
                refine w_load (.iload 8) 84 (by decide +kernel) rfl rfl ?_
                refine w_callS2 115 2 87 (by decide +kernel) (Nat.le_of_ble_eq_true rfl) rfl rfl (by decide) (by omega) ?_
                refine s_holds hS.1 (by omega) (by omega) (fun r28 hr28 => ?_)
                dsimp only [Option.toList, List.cons_append, List.nil_append]
                rcases hr28 with ⟨rfl, htr28⟩ | ⟨rfl, htr28⟩
                · skip
                  refine w_ieq 122 90 (by decide +kernel) (fun hz => absurd hz (by decide)) (fun _ => ?_)
                  refine w_load (.aload 6) 92 (by decide +kernel) rfl rfl ?_
                  refine w_load (.aload_n 0) 93 (by decide +kernel) rfl rfl ?_
                  refine w_getR (k := 0) (r := 32) 96 (by decide +kernel) sh_31 rfl ?_
                  refine w_load (.iload_n 3) 97 (by decide +kernel) rfl rfl ?_
                  refine w_step5 98 (by decide +kernel) (by omega) ?_
                  refine w_callV1 67 6 2 101 (by decide +kernel) (tl_step (k + 1) (by omega)).1.1 (Nat.le_of_ble_eq_true rfl) rfl (by decide) (by omega) ?_
                  refine s_tcopy hS.1 (tl_step (k + 1) (by omega)) (tl_step k (by omega)) (by omega) (by omega) ((hS.2 (33 + 5 * k + 1) 2 (by (try dsimp only); first | omega | (simp only [Hs, Tl, Sc, isHs, isScr, isTs] at *; omega))).trans en) (shT.keep hs (hS.row (fun k => (by (try dsimp only); first | omega | (simp only [Hs, Tl, Sc, isHs, isScr, isTs] at *; omega)))) (hS.row (fun k => (by (try dsimp only); first | omega | (simp only [Hs, Tl, Sc, isHs, isScr, isTs] at *; omega)))) (hS.row (fun k => (by (try dsimp only); first | omega | (simp only [Hs, Tl, Sc, isHs, isScr, isTs] at *; omega))))) (by omega) (fun Nr30 hTr30 hr30 => ?_)
                  have kn31 := (hTr30.2 (33 + 5 * k + 1) 2 (by (try dsimp only); first | omega | (simp only [Hs, Tl, Sc, isHs, isScr, isTs] at *; omega))).trans ((hS.2 (33 + 5 * k + 1) 2 (by (try dsimp only); first | omega | (simp only [Hs, Tl, Sc, isHs, isScr, isTs] at *; omega))).trans en)
                  have hS := hS.tr hTr30 (by intro i k; first | exact rfl | exact fun h => h.elim | omega | (dsimp only; omega) | (simp only [Hs, Tl, Sc, isHs, isScr, isTs] at *; omega))
                  have s98 := hr30.1
                  have s98g := hr30.2
                  have hto : tb (othI n (dvT T t k) s dd) g8 = true := by rw [← eO]; assumption
                  have hon : g8 < n := oth_lt hn hto
                  have hnx : nxt n (dvT T t k) k s (actS (dvT T t k) k s dd g8) := Or.inr ⟨dd, hd2, Or.inr ⟨g8, hto, rfl⟩⟩
                  dsimp only [Option.toList, List.nil_append]
                  refine w_load (.aload 6) 103 (by decide +kernel) rfl rfl ?_
                  refine w_load (.iload 5) 105 (by decide +kernel) rfl rfl ?_
                  refine w_load (.iload_n 3) 106 (by decide +kernel) rfl rfl ?_
                  refine w_load (.iload 4) 108 (by decide +kernel) rfl rfl ?_
                  refine w_load (.iload 8) 110 (by decide +kernel) rfl rfl ?_
                  refine w_callV4 73 6 6 113 (by decide +kernel) (tl_step (k + 1) (by omega)).1.1 (Nat.le_of_ble_eq_true rfl) rfl rfl rfl rfl (by decide) (by omega) ?_
                  refine s_attempt hS.1 (tl_step (k + 1) (by omega)) (by omega) s98g s98 hdn hon hw (by omega) (fun Nr32 hTr32 hr32 => ?_)
                  have kn33 := (hTr32.2 (33 + 5 * k + 1) 2 (by (try dsimp only); first | omega | (simp only [Hs, Tl, Sc, isHs, isScr, isTs] at *; omega))).trans kn31
                  have hS := hS.tr hTr32 (by intro i k; first | exact rfl | exact fun h => h.elim | omega | (dsimp only; omega) | (simp only [Hs, Tl, Sc, isHs, isScr, isTs] at *; omega))
                  have s110 := hr32
                  have s110g : Nr32 (33 + 5 * (k + 1) + 1) 2 = nI n := (hTr32.2 _ 2 (by (try dsimp only); first | omega | (simp only [Hs, Tl, Sc, isHs, isScr, isTs] at *; omega))).trans s98g
                  have e31_2 : Nr32 31 2 = N_67 31 2 := (hTr32.2 31 2 (by (try dsimp only); first | omega | (simp only [Hs, Tl, Sc, isHs, isScr, isTs] at *; omega))).trans (hTr30.2 31 2 (by (try dsimp only); first | omega | (simp only [Hs, Tl, Sc, isHs, isScr, isTs] at *; omega)))
                  have e31_3 : Nr32 31 3 = N_67 31 3 := (hTr32.2 31 3 (by (try dsimp only); first | omega | (simp only [Hs, Tl, Sc, isHs, isScr, isTs] at *; omega))).trans (hTr30.2 31 3 (by (try dsimp only); first | omega | (simp only [Hs, Tl, Sc, isHs, isScr, isTs] at *; omega)))
                  dsimp only [Option.toList, List.nil_append]
                  refine w_load (.aload_n 0) 114 (by decide +kernel) rfl rfl ?_
                  refine w_load (.aload_n 1) 115 (by decide +kernel) rfl rfl ?_
                  refine w_load (.iload_n 2) 116 (by decide +kernel) rfl rfl ?_
                  refine w_load (.iload_n 3) 117 (by decide +kernel) rfl rfl ?_
                  refine w_pushN 1 118 (by decide +kernel) ?_
                  refine w_addN (k + 1) 119 (by decide +kernel) (by omega) ?_
                  refine w_callV3 4 0 7 122 (by decide +kernel) sh_31 (Nat.le_of_ble_eq_true rfl) rfl rfl rfl (by decide) (by omega) ?_
                  refine hrec hS.1 (hT.keep (fun i k h1 h2 => hS.2 i k (by (try dsimp only); first | omega | (simp only [Hs, Tl, Sc, isHs, isScr, isTs] at *; omega)))) s110g ((hS.2 34 2 (by (try dsimp only); first | omega | (simp only [Hs, Tl, Sc, isHs, isScr, isTs] at *; omega))).trans en0) s110 (hnx.wed hn hw) ((hS.2 31 1 (by (try dsimp only); first | omega | (simp only [Hs, Tl, Sc, isHs, isScr, isTs] at *; omega))).trans hb) ((hS.2 31 4 (by (try dsimp only); first | omega | (simp only [Hs, Tl, Sc, isHs, isScr, isTs] at *; omega))).trans hB) (hBs.tr (hnx.dead hn)) (by omega) (fun Nr34 hTr34 hr34 => ?_)
                  have kn35 := (hTr34.2 (33 + 5 * k + 1) 2 (by (try dsimp only); first | omega | (simp only [Hs, Tl, Sc, isHs, isScr, isTs] at *; omega))).trans kn33
                  have hS := hS.tr hTr34 (by intro i k; first | exact rfl | exact fun h => h.elim | omega | (dsimp only; omega) | (simp only [Hs, Tl, Sc, isHs, isScr, isTs] at *; omega))
                  rw [e31_2, e31_3] at hr34
                  have a119 := hi1_67.tr hr34 (fun l => fdQ.t hto)
                  dsimp only [Option.toList, List.nil_append]
                  refine w_iincN (z := 8) (g8 + 1) 125 (by decide +kernel) rfl (Nat.le_of_ble_eq_true rfl) rfl rfl ?_
                  show Wp _ _ _ [.ref 31, .ref (70 + 2 * t), .int (nI m), .int (nI k), .int (nI dd), .int (nI ((dnum T t k))), .ref (33 + 5 * (k + 1)), .int v3, .int (nI (g8 + 1))] _ _ _ _
                  refine w_goto 67 (by decide +kernel) ?_
                  exact ih_67 Nr34 (g8 + 1) hS (by first | omega | exact a119 | exact hi1_67.cg (fun l => fdQ.f (by rw [← eO]; assumption))) (by first | omega | exact a119 | exact hi1_67.cg (fun l => fdQ.f (by rw [← eO]; assumption))) (by omega)
                · skip
                  refine w_ieq 122 90 (by decide +kernel) (fun _ => ?_) (fun hz => absurd hz (by decide))
                  refine w_iincN (z := 8) (g8 + 1) 125 (by decide +kernel) rfl (Nat.le_of_ble_eq_true rfl) rfl rfl ?_
                  show Wp _ _ _ [.ref 31, .ref (70 + 2 * t), .int (nI m), .int (nI k), .int (nI dd), .int (nI ((dnum T t k))), .ref (33 + 5 * (k + 1)), .int v3, .int (nI (g8 + 1))] _ _ _ _
                  refine w_goto 67 (by decide +kernel) ?_
                  exact ih_67 N_67 (g8 + 1) hS (by first | omega | exact a119 | exact hi1_67.cg (fun l => fdQ.f (by rw [← eO]; assumption))) (by first | omega | exact a119 | exact hi1_67.cg (fun l => fdQ.f (by rw [← eO]; assumption))) (by omega)
        exact LP_67 _ Nr22 0 hS (by first | omega | exact a61 | (rw [hNM]; exact accQ.emp (fun l => fdQ.z hnz))) (by first | omega | exact a61 | (rw [hNM]; exact accQ.emp (fun l => fdQ.z hnz))) (Nat.lt_succ_self _)
-- X0_follow#s
set_option maxRecDepth 10000 in
theorem s_follow0 {d : Nat} {M : Mt} {L : Lt} {Q : Option Value → Mt → Lt → Prop} {n t m k : Nat} {s : TSt} {T : TLs} {b B : Int32}  (hI : Inv M) (ht : t < 3) (hT : tlX T M) (hm : m ≤ nD T t ∧ m ≤ 4) (hk : k ≤ m) (hn : n ≤ 5) (en : M (33 + 5 * k + 1) 2 = nI n) (en0 : M 34 2 = nI n) (hs : shT n (33 + 5 * k) M s) (hw : wedOk n s.1) (hb : M 31 1 = b) (hB : M 31 4 = B) (hBs : subI B (deadI n s.1)) (hrec : k < m → (∀ {d : Nat} {N0 : Mt} {L : Lt} {Q : Option Value → Mt → Lt → Prop} {s' : TSt}, Inv N0 → tlX T N0 → N0 (33 + 5 * (k + 1) + 1) 2 = nI n → N0 34 2 = nI n → shT n (33 + 5 * (k + 1)) N0 s' → wedOk n s'.1 → N0 31 1 = b → N0 31 4 = B → subI B (deadI n s'.1) → 2 * (4 - (k + 1)) + 8 ≤ d → (∀ N : Mt, St (fun i z => (38 + 5 * (k + 1) ≤ i ∧ i ≤ 57) ∨ (i = 31 ∧ (z = 2 ∨ z = 3))) N0 N → accQ n b (lf n (dvT T t) (m - (k + 1)) (k + 1) s') (N0 31 2) (N0 31 3) (N 31 2) (N 31 3) → Q none N L) → Wp d 4 0 [.ref 31, .ref (70 + 2 * t), .int (nI m), .int (nI (k + 1)), .null, .null, .null] [] N0 L Q)) (hd : 2 * (4 - k) + 8 ≤ d) (hq : ∀ (N : Mt), St (fun i z => (38 + 5 * k ≤ i ∧ i ≤ 57) ∨ (i = 31 ∧ (z = 2 ∨ z = 3))) M N → (accQ n b (lf n (dvT T t) (m - k) k s) (M 31 2) (M 31 3) (N 31 2) (N 31 3)) → Q none N L) : Wp d 4 0 [.ref 31, .ref (70 + 2 * t), .int (nI m), .int (nI k), .null, .null, .null] [] M L Q := by
  refine (show ∀ N : Mt, N = M → St (fun i z => (38 + 5 * k ≤ i ∧ i ≤ 57) ∨ (i = 31 ∧ (z = 2 ∨ z = 3))) M N → Wp d 4 0 [.ref 31, .ref (70 + 2 * t), .int (nI m), .int (nI k), .null, .null, .null] [] N L Q from ?_) M rfl (St.rf hI)
  intro N hNM hS
  have kz0 : N (33 + 5 * k + 1) 2 = nI n := by rw [hNM]; exact en
  refine w_load (.iload_n 3) 1 (by decide +kernel) rfl rfl ?_
  refine w_load (.iload_n 2) 2 (by decide +kernel) rfl rfl ?_
  refine w_cgeN 16 5 (by decide +kernel) (by omega) (by omega) (fun h1 => ?_) (fun h1 => ?_)
  · skip
    refine w_load (.aload_n 0) 17 (by decide +kernel) rfl rfl ?_
    refine w_pure .dup 18 (by decide +kernel) rfl rfl ?_
    refine w_getI (k := 2) 21 (by decide +kernel) sh_31 rfl ?_
    refine w_load (.aload_n 0) 22 (by decide +kernel) rfl rfl ?_
    refine w_getR (k := 0) (r := 32) 25 (by decide +kernel) sh_31 rfl ?_
    refine w_load (.iload_n 3) 26 (by decide +kernel) rfl rfl ?_
    refine w_step5 27 (by decide +kernel) (by omega) ?_
    refine w_getR (k := 0) (r := 33 + 5 * k + 1) 30 (by decide +kernel) (tl_step k (by omega)).1.1 rfl ?_
    refine w_callV0 20 1 1 33 (by decide +kernel) (tl_step k (by omega)).1.2.1.1 (Nat.le_of_ble_eq_true rfl)  (by decide) (by omega) ?_
    refine s_dead hS.1 (tl_h (tl_step k (by omega))) (by omega) kz0 (by rw [hNM]; exact hs.1) (by omega) (fun r2 hr2 => ?_)
    dsimp only [Option.toList, List.cons_append, List.nil_append]
    rcases hr2 with rfl
    · skip
      refine w_pure .ior 34 (by decide +kernel) rfl rfl ?_
      refine w_putE (k := 2) 37 (by decide +kernel) sh_31 rfl hS (Rg.free (by simp only [Hs, Tl, Sc, isScr, isHs, isTs] at *; omega)) (by first | exact rfl | omega | (dsimp only; omega) | (simp only [Hs, Tl, Sc, isHs, isScr, isTs] at *; omega)) (fun Nq3 hS hq3 oq3 mq3 => ?_)
      have g34 : Nq3 (33 + 5 * k + 1) 2 = nI n := by rw [mq3, up2_ne (by omega)]; exact kz0
      refine w_load (.aload_n 0) 38 (by decide +kernel) rfl rfl ?_
      refine w_pure .dup 39 (by decide +kernel) rfl rfl ?_
      refine w_getI (k := 3) 42 (by decide +kernel) sh_31 rfl ?_
      refine w_load (.aload_n 0) 43 (by decide +kernel) rfl rfl ?_
      refine w_getR (k := 0) (r := 32) 46 (by decide +kernel) sh_31 rfl ?_
      refine w_load (.iload_n 3) 47 (by decide +kernel) rfl rfl ?_
      refine w_step5 48 (by decide +kernel) (by omega) ?_
      refine w_getR (k := 0) (r := 33 + 5 * k + 1) 51 (by decide +kernel) (tl_step k (by omega)).1.1 rfl ?_
      refine w_callV0 20 1 1 54 (by decide +kernel) (tl_step k (by omega)).1.2.1.1 (Nat.le_of_ble_eq_true rfl)  (by decide) (by omega) ?_
      refine s_dead hS.1 (tl_h (tl_step k (by omega))) (by omega) g34 (by rw [mq3, row_ne (by omega), hNM]; exact hs.1) (by omega) (fun r4 hr4 => ?_)
      dsimp only [Option.toList, List.cons_append, List.nil_append]
      rcases hr4 with rfl
      · skip
        refine w_pure .iand 55 (by decide +kernel) rfl rfl ?_
        refine w_putE (k := 3) 58 (by decide +kernel) sh_31 rfl hS (Rg.free (by simp only [Hs, Tl, Sc, isScr, isHs, isTs] at *; omega)) (by first | exact rfl | omega | (dsimp only; omega) | (simp only [Hs, Tl, Sc, isHs, isScr, isTs] at *; omega)) (fun Nq5 hS hq5 oq5 mq5 => ?_)
        have kn6 := (oq5 (33 + 5 * k + 1) 2 (by first | omega | (simp only [Hs, Tl, Sc, isHs, isScr, isTs] at *; omega))).trans g34
        exact w_retV (by decide +kernel) (hq Nq5 hS (by rw [show m - k = 0 by omega, show Nq5 31 2 = M 31 2 ||| deadI n s.1 by rw [mq5, up2_ne (by omega), mq3, up2_eq, hNM], show Nq5 31 3 = M 31 3 &&& deadI n s.1 by rw [mq5, up2_eq, mq3, up2_ne (by omega), hNM]]; exact accQ.leaf.cg (fun l => Iff.rfl)))
  · skip
    refine w_load (.iload_n 3) 6 (by decide +kernel) rfl rfl ?_
    refine w_pushN 1 7 (by decide +kernel) ?_
    refine w_addN (k + 1) 8 (by decide +kernel) (by omega) ?_
    refine w_load (.aload_n 0) 9 (by decide +kernel) rfl rfl ?_
    refine w_getR (k := 0) (r := 32) 12 (by decide +kernel) sh_31 rfl ?_
    refine w_alen (nI 5) 13 (by decide +kernel) sh_32 (by decide) (by first | rfl | simp [nI]) ?_
    refine w_cltN 59 16 (by decide +kernel) (by omega) (by omega) (fun h7 => ?_) (fun h7 => ?_)
    · skip
      refine w_load (.aload_n 1) 60 (by decide +kernel) rfl rfl ?_
      refine w_load (.iload_n 3) 61 (by decide +kernel) rfl rfl ?_
      refine w_callV1 44 2 4 64 (by decide +kernel) (sc_tale t ht).1.1 (Nat.le_of_ble_eq_true rfl) rfl (by decide) (by omega) ?_
      refine s_deedAtT hS.1 (by omega) (hT.keep (fun i k h1 h2 => hS.2 i k (by (try dsimp only); first | omega | (simp only [Hs, Tl, Sc, isHs, isScr, isTs] at *; omega)))) (by omega) (by omega) (fun r8 hr8 => ?_)
      dsimp only [Option.toList, List.cons_append, List.nil_append]
      rcases hr8 with rfl
      · skip
        have hdnr8 := dn_num (T := T) (t := t) (p := k) (by omega)
        have hdbr8 := hdnr8.2
        refine w_store (ls' := [.ref 31, .ref (70 + 2 * t), .int (nI m), .int (nI k), .int (nI ((dnum T t k))), .null, .null]) (.istore 4) 66 (by decide +kernel) rfl rfl ?_
        refine w_load (.aload_n 0) 67 (by decide +kernel) rfl rfl ?_
        refine w_getR (k := 0) (r := 32) 70 (by decide +kernel) sh_31 rfl ?_
        refine w_load (.iload_n 3) 71 (by decide +kernel) rfl rfl ?_
        refine w_step5 72 (by decide +kernel) (by omega) ?_
        refine w_load (.iload 4) 74 (by decide +kernel) rfl rfl ?_
        refine w_callV1 70 6 4 77 (by decide +kernel) (tl_step k (by omega)).1.1 (Nat.le_of_ble_eq_true rfl) rfl (by decide) (by omega) ?_
        refine s_doersOf hS.1 (tl_step k (by omega)) (by omega) kz0 (by rw [hNM]; exact hs) (by omega) (fun r9 hr9 => ?_)
        dsimp only [Option.toList, List.cons_append, List.nil_append]
        rcases hr9 with rfl
        · skip
          refine w_topi (fun v10 ev10 => ?_)
          refine w_store (ls' := [.ref 31, .ref (70 + 2 * t), .int (nI m), .int (nI k), .int (nI ((dnum T t k))), .int v10, .null]) (.istore 5) 79 (by decide +kernel) rfl rfl ?_
          have eD : v10 = dorI n (dvT T t k) s := ev10
          refine w_load (.iload 5) 81 (by decide +kernel) rfl rfl ?_
          refine w_ine 123 84 (by decide +kernel) (fun h11 => ?_) (fun h11 => ?_)
          · skip
            have hnz : ¬ dorI n (dvT T t k) s = 0 := fun z => h11 (eD.trans z)
            refine w_pushN 0 124 (by decide +kernel) ?_
            refine w_store (ls' := [.ref 31, .ref (70 + 2 * t), .int (nI m), .int (nI k), .int (nI ((dnum T t k))), .int v10, .int (nI 0)]) (.istore 6) 126 (by decide +kernel) rfl rfl ?_
            have LP_126 : ∀ (kk : Nat) (N_126 : Mt) (g6 : Nat), St (fun i z => (38 + 5 * k ≤ i ∧ i ≤ 57) ∨ (i = 31 ∧ (z = 2 ∨ z = 3))) M N_126 → g6 ≤ 5 → accQ n b (foQ n (dvT T t) (m - (k + 1)) k s g6) (M 31 2) (M 31 3) (N_126 31 2) (N_126 31 3) → 5 - g6 < kk → Wp d 4 126 [.ref 31, .ref (70 + 2 * t), .int (nI m), .int (nI k), .int (nI ((dnum T t k))), .int v10, .int (nI g6)] [] N_126 L Q := by
              intro kk
              induction kk with
              | zero => intro N_126 g6 hS hi0_126 hi1_126 hm_126; exact absurd hm_126 (Nat.not_lt_zero _)
              | succ kk ih_126 =>
                intro N_126 g6 hS hi0_126 hi1_126 hm_126
                refine w_load (.iload 6) 128 (by decide +kernel) rfl rfl ?_
                refine w_pushN 5 129 (by decide +kernel) ?_
                refine w_cgeN 164 132 (by decide +kernel) (by omega) (by omega) (fun h12 => ?_) (fun h12 => ?_)
                · skip
                  exact w_retV (by decide +kernel) (hq N_126 hS (by rw [show m - k = m - (k + 1) + 1 by omega]; first | exact hi1_126.cg (fun l => foQ.all hn (by omega)) | exact hi1_126.set hst (fun l z => z.le) (fun l z => hBs.tr (lf.dead hn _ _ _ _ z))))
                · skip
                  refine w_load (.aload_n 0) 133 (by decide +kernel) rfl rfl ?_
                  refine w_callV0 3 0 1 136 (by decide +kernel) sh_31 (Nat.le_of_ble_eq_true rfl)  (by decide) (by omega) ?_
                  refine s_isSettled hS.1 hn ((hS.2 34 2 (by (try dsimp only); first | omega | (simp only [Hs, Tl, Sc, isHs, isScr, isTs] at *; omega))).trans en0) ((hS.2 31 1 (by (try dsimp only); first | omega | (simp only [Hs, Tl, Sc, isHs, isScr, isTs] at *; omega))).trans hb) ((hS.2 31 4 (by (try dsimp only); first | omega | (simp only [Hs, Tl, Sc, isHs, isScr, isTs] at *; omega))).trans hB) (by omega) (fun r13 hr13 => ?_)
                  dsimp only [Option.toList, List.cons_append, List.nil_append]
                  rcases hr13 with ⟨rfl, hst⟩ | rfl
                  · skip
                    refine w_ine 164 139 (by decide +kernel) (fun _ => ?_) (fun hz => absurd hz (by decide))
                    exact w_retV (by decide +kernel) (hq N_126 hS (by rw [show m - k = m - (k + 1) + 1 by omega]; first | exact hi1_126.cg (fun l => foQ.all hn (by omega)) | exact hi1_126.set hst (fun l z => z.le) (fun l z => hBs.tr (lf.dead hn _ _ _ _ z))))
                  · skip
                    refine w_ine 164 139 (by decide +kernel) (fun hz => absurd hz (by decide)) (fun _ => ?_)
                    refine w_load (.iload 5) 141 (by decide +kernel) rfl rfl ?_
                    refine w_load (.iload 6) 143 (by decide +kernel) rfl rfl ?_
                    refine w_callS2 115 2 146 (by decide +kernel) (Nat.le_of_ble_eq_true rfl) rfl rfl (by decide) (by omega) ?_
                    refine s_holds hS.1 (by omega) (by omega) (fun r16 hr16 => ?_)
                    dsimp only [Option.toList, List.cons_append, List.nil_append]
                    rcases hr16 with ⟨rfl, htr16⟩ | ⟨rfl, htr16⟩
                    · skip
                      refine w_ieq 158 149 (by decide +kernel) (fun hz => absurd hz (by decide)) (fun _ => ?_)
                      refine w_load (.aload_n 0) 150 (by decide +kernel) rfl rfl ?_
                      refine w_load (.aload_n 1) 151 (by decide +kernel) rfl rfl ?_
                      refine w_load (.iload_n 2) 152 (by decide +kernel) rfl rfl ?_
                      refine w_load (.iload_n 3) 153 (by decide +kernel) rfl rfl ?_
                      refine w_load (.iload 6) 155 (by decide +kernel) rfl rfl ?_
                      refine w_callV4 5 0 9 158 (by decide +kernel) sh_31 (Nat.le_of_ble_eq_true rfl) rfl rfl rfl rfl (by decide) (by omega) ?_
                      refine s_followDoer hS.1 (by omega) (hT.keep (fun i k h1 h2 => hS.2 i k (by (try dsimp only); first | omega | (simp only [Hs, Tl, Sc, isHs, isScr, isTs] at *; omega)))) (by omega) (by omega) (by omega) ((hS.2 (33 + 5 * k + 1) 2 (by (try dsimp only); first | omega | (simp only [Hs, Tl, Sc, isHs, isScr, isTs] at *; omega))).trans en) ((hS.2 34 2 (by (try dsimp only); first | omega | (simp only [Hs, Tl, Sc, isHs, isScr, isTs] at *; omega))).trans en0) (shT.keep hs (hS.row (fun k => (by (try dsimp only); first | omega | (simp only [Hs, Tl, Sc, isHs, isScr, isTs] at *; omega)))) (hS.row (fun k => (by (try dsimp only); first | omega | (simp only [Hs, Tl, Sc, isHs, isScr, isTs] at *; omega)))) (hS.row (fun k => (by (try dsimp only); first | omega | (simp only [Hs, Tl, Sc, isHs, isScr, isTs] at *; omega))))) hw ((hS.2 31 1 (by (try dsimp only); first | omega | (simp only [Hs, Tl, Sc, isHs, isScr, isTs] at *; omega))).trans hb) ((hS.2 31 4 (by (try dsimp only); first | omega | (simp only [Hs, Tl, Sc, isHs, isScr, isTs] at *; omega))).trans hB) hBs (by rw [← eD]; assumption) (hrec (by omega)) (by omega) (fun Nr18 hTr18 hr18 => ?_)
                      have kn19 := (hTr18.2 (33 + 5 * k + 1) 2 (by (try dsimp only); first | omega | (simp only [Hs, Tl, Sc, isHs, isScr, isTs] at *; omega))).trans ((hS.2 (33 + 5 * k + 1) 2 (by (try dsimp only); first | omega | (simp only [Hs, Tl, Sc, isHs, isScr, isTs] at *; omega))).trans en)
                      have hS := hS.tr hTr18 (by intro i k; first | exact rfl | exact fun h => h.elim | omega | (dsimp only; omega) | (simp only [Hs, Tl, Sc, isHs, isScr, isTs] at *; omega))
                      have a155 := hi1_126.tr hr18 (fun l => foQ.t (by rw [← eD]; assumption))
                      dsimp only [Option.toList, List.nil_append]
                      refine w_iincN (z := 6) (g6 + 1) 161 (by decide +kernel) rfl (Nat.le_of_ble_eq_true rfl) rfl rfl ?_
                      show Wp _ _ _ [.ref 31, .ref (70 + 2 * t), .int (nI m), .int (nI k), .int (nI ((dnum T t k))), .int v10, .int (nI (g6 + 1))] _ _ _ _
                      refine w_goto 126 (by decide +kernel) ?_
                      exact ih_126 Nr18 (g6 + 1) hS (by first | omega | exact a155 | exact hi1_126.cg (fun l => foQ.f (by rw [← eD]; assumption))) (by first | omega | exact a155 | exact hi1_126.cg (fun l => foQ.f (by rw [← eD]; assumption))) (by omega)
                    · skip
                      refine w_ieq 158 149 (by decide +kernel) (fun _ => ?_) (fun hz => absurd hz (by decide))
                      refine w_iincN (z := 6) (g6 + 1) 161 (by decide +kernel) rfl (Nat.le_of_ble_eq_true rfl) rfl rfl ?_
                      show Wp _ _ _ [.ref 31, .ref (70 + 2 * t), .int (nI m), .int (nI k), .int (nI ((dnum T t k))), .int v10, .int (nI (g6 + 1))] _ _ _ _
                      refine w_goto 126 (by decide +kernel) ?_
                      exact ih_126 N_126 (g6 + 1) hS (by first | omega | exact a155 | exact hi1_126.cg (fun l => foQ.f (by rw [← eD]; assumption))) (by first | omega | exact a155 | exact hi1_126.cg (fun l => foQ.f (by rw [← eD]; assumption))) (by omega)
            exact LP_126 _ N 0 hS (by first | omega | exact a120 | (rw [hNM]; exact accQ.emp (fun l => foQ.z hnz))) (by first | omega | exact a120 | (rw [hNM]; exact accQ.emp (fun l => foQ.z hnz))) (Nat.lt_succ_self _)
          · skip
            have hz0 : dorI n (dvT T t k) s = 0 := eD.symm.trans h11
            have hnx : nxt n (dvT T t k) k s (failS n (dvT T t k) s) := Or.inl ⟨hz0, rfl⟩
            refine w_load (.aload_n 0) 85 (by decide +kernel) rfl rfl ?_
            refine w_getR (k := 0) (r := 32) 88 (by decide +kernel) sh_31 rfl ?_
            refine w_load (.iload_n 3) 89 (by decide +kernel) rfl rfl ?_
            refine w_pushN 1 90 (by decide +kernel) ?_
            refine w_addN (k + 1) 91 (by decide +kernel) (by omega) ?_
            refine w_step5 92 (by decide +kernel) (by omega) ?_
            refine w_load (.aload_n 0) 93 (by decide +kernel) rfl rfl ?_
            refine w_getR (k := 0) (r := 32) 96 (by decide +kernel) sh_31 rfl ?_
            refine w_load (.iload_n 3) 97 (by decide +kernel) rfl rfl ?_
            refine w_step5 98 (by decide +kernel) (by omega) ?_
            refine w_callV1 67 6 2 101 (by decide +kernel) (tl_step (k + 1) (by omega)).1.1 (Nat.le_of_ble_eq_true rfl) rfl (by decide) (by omega) ?_
            refine s_tcopy hS.1 (tl_step (k + 1) (by omega)) (tl_step k (by omega)) (by omega) (by omega) kz0 (by rw [hNM]; exact hs) (by omega) (fun Nr21 hTr21 hr21 => ?_)
            have kn22 := (hTr21.2 (33 + 5 * k + 1) 2 (by (try dsimp only); first | omega | (simp only [Hs, Tl, Sc, isHs, isScr, isTs] at *; omega))).trans kz0
            have hS := hS.tr hTr21 (by intro i k; first | exact rfl | exact fun h => h.elim | omega | (dsimp only; omega) | (simp only [Hs, Tl, Sc, isHs, isScr, isTs] at *; omega))
            have s98 := hr21.1
            have s98g := hr21.2
            dsimp only [Option.toList, List.nil_append]
            refine w_load (.aload_n 0) 102 (by decide +kernel) rfl rfl ?_
            refine w_getR (k := 0) (r := 32) 105 (by decide +kernel) sh_31 rfl ?_
            refine w_load (.iload_n 3) 106 (by decide +kernel) rfl rfl ?_
            refine w_pushN 1 107 (by decide +kernel) ?_
            refine w_addN (k + 1) 108 (by decide +kernel) (by omega) ?_
            refine w_step5 109 (by decide +kernel) (by omega) ?_
            refine w_load (.iload 4) 111 (by decide +kernel) rfl rfl ?_
            refine w_callV1 72 6 3 114 (by decide +kernel) (tl_step (k + 1) (by omega)).1.1 (Nat.le_of_ble_eq_true rfl) rfl (by decide) (by omega) ?_
            refine s_fail hS.1 (tl_step (k + 1) (by omega)) (by omega) s98g s98 (by omega) (fun Nr23 hTr23 hr23 => ?_)
            have kn24 := (hTr23.2 (33 + 5 * k + 1) 2 (by (try dsimp only); first | omega | (simp only [Hs, Tl, Sc, isHs, isScr, isTs] at *; omega))).trans kn22
            have hS := hS.tr hTr23 (by intro i k; first | exact rfl | exact fun h => h.elim | omega | (dsimp only; omega) | (simp only [Hs, Tl, Sc, isHs, isScr, isTs] at *; omega))
            have s111 := hr23
            have s111g : Nr23 (33 + 5 * (k + 1) + 1) 2 = nI n := (hTr23.2 _ 2 (by (try dsimp only); first | omega | (simp only [Hs, Tl, Sc, isHs, isScr, isTs] at *; omega))).trans s98g
            have e31_2 : Nr23 31 2 = N 31 2 := (hTr23.2 31 2 (by (try dsimp only); first | omega | (simp only [Hs, Tl, Sc, isHs, isScr, isTs] at *; omega))).trans (hTr21.2 31 2 (by (try dsimp only); first | omega | (simp only [Hs, Tl, Sc, isHs, isScr, isTs] at *; omega)))
            have e31_3 : Nr23 31 3 = N 31 3 := (hTr23.2 31 3 (by (try dsimp only); first | omega | (simp only [Hs, Tl, Sc, isHs, isScr, isTs] at *; omega))).trans (hTr21.2 31 3 (by (try dsimp only); first | omega | (simp only [Hs, Tl, Sc, isHs, isScr, isTs] at *; omega)))
            dsimp only [Option.toList, List.nil_append]
            refine w_load (.aload_n 0) 115 (by decide +kernel) rfl rfl ?_
            refine w_load (.aload_n 1) 116 (by decide +kernel) rfl rfl ?_
            refine w_load (.iload_n 2) 117 (by decide +kernel) rfl rfl ?_
            refine w_load (.iload_n 3) 118 (by decide +kernel) rfl rfl ?_
            refine w_pushN 1 119 (by decide +kernel) ?_
            refine w_addN (k + 1) 120 (by decide +kernel) (by omega) ?_
            refine w_callV3 4 0 7 123 (by decide +kernel) sh_31 (Nat.le_of_ble_eq_true rfl) rfl rfl rfl (by decide) (by omega) ?_
            refine (hrec (by omega)) hS.1 (hT.keep (fun i k h1 h2 => hS.2 i k (by (try dsimp only); first | omega | (simp only [Hs, Tl, Sc, isHs, isScr, isTs] at *; omega)))) s111g ((hS.2 34 2 (by (try dsimp only); first | omega | (simp only [Hs, Tl, Sc, isHs, isScr, isTs] at *; omega))).trans en0) s111 (hnx.wed hn hw) ((hS.2 31 1 (by (try dsimp only); first | omega | (simp only [Hs, Tl, Sc, isHs, isScr, isTs] at *; omega))).trans hb) ((hS.2 31 4 (by (try dsimp only); first | omega | (simp only [Hs, Tl, Sc, isHs, isScr, isTs] at *; omega))).trans hB) (hBs.tr (hnx.dead hn)) (by omega) (fun Nr25 hTr25 hr25 => ?_)
            have kn26 := (hTr25.2 (33 + 5 * k + 1) 2 (by (try dsimp only); first | omega | (simp only [Hs, Tl, Sc, isHs, isScr, isTs] at *; omega))).trans kn24
            have hS := hS.tr hTr25 (by intro i k; first | exact rfl | exact fun h => h.elim | omega | (dsimp only; omega) | (simp only [Hs, Tl, Sc, isHs, isScr, isTs] at *; omega))
            rw [e31_2, e31_3, hNM] at hr25
            have a120 := hr25.cg (fun l => foQ.a hz0)
            dsimp only [Option.toList, List.nil_append]
            refine w_pushN 0 124 (by decide +kernel) ?_
            refine w_store (ls' := [.ref 31, .ref (70 + 2 * t), .int (nI m), .int (nI k), .int (nI ((dnum T t k))), .int v10, .int (nI 0)]) (.istore 6) 126 (by decide +kernel) rfl rfl ?_
            have LP_126 : ∀ (kk : Nat) (N_126 : Mt) (g6 : Nat), St (fun i z => (38 + 5 * k ≤ i ∧ i ≤ 57) ∨ (i = 31 ∧ (z = 2 ∨ z = 3))) M N_126 → g6 ≤ 5 → accQ n b (foQ n (dvT T t) (m - (k + 1)) k s g6) (M 31 2) (M 31 3) (N_126 31 2) (N_126 31 3) → 5 - g6 < kk → Wp d 4 126 [.ref 31, .ref (70 + 2 * t), .int (nI m), .int (nI k), .int (nI ((dnum T t k))), .int v10, .int (nI g6)] [] N_126 L Q := by
              intro kk
              induction kk with
              | zero => intro N_126 g6 hS hi0_126 hi1_126 hm_126; exact absurd hm_126 (Nat.not_lt_zero _)
              | succ kk ih_126 =>
                intro N_126 g6 hS hi0_126 hi1_126 hm_126
                refine w_load (.iload 6) 128 (by decide +kernel) rfl rfl ?_
                refine w_pushN 5 129 (by decide +kernel) ?_
                refine w_cgeN 164 132 (by decide +kernel) (by omega) (by omega) (fun h27 => ?_) (fun h27 => ?_)
                · skip
                  exact w_retV (by decide +kernel) (hq N_126 hS (by rw [show m - k = m - (k + 1) + 1 by omega]; first | exact hi1_126.cg (fun l => foQ.all hn (by omega)) | exact hi1_126.set hst (fun l z => z.le) (fun l z => hBs.tr (lf.dead hn _ _ _ _ z))))
                · skip
                  refine w_load (.aload_n 0) 133 (by decide +kernel) rfl rfl ?_
                  refine w_callV0 3 0 1 136 (by decide +kernel) sh_31 (Nat.le_of_ble_eq_true rfl)  (by decide) (by omega) ?_
                  refine s_isSettled hS.1 hn ((hS.2 34 2 (by (try dsimp only); first | omega | (simp only [Hs, Tl, Sc, isHs, isScr, isTs] at *; omega))).trans en0) ((hS.2 31 1 (by (try dsimp only); first | omega | (simp only [Hs, Tl, Sc, isHs, isScr, isTs] at *; omega))).trans hb) ((hS.2 31 4 (by (try dsimp only); first | omega | (simp only [Hs, Tl, Sc, isHs, isScr, isTs] at *; omega))).trans hB) (by omega) (fun r28 hr28 => ?_)
                  dsimp only [Option.toList, List.cons_append, List.nil_append]
                  rcases hr28 with ⟨rfl, hst⟩ | rfl
                  · skip
                    refine w_ine 164 139 (by decide +kernel) (fun _ => ?_) (fun hz => absurd hz (by decide))
                    exact w_retV (by decide +kernel) (hq N_126 hS (by rw [show m - k = m - (k + 1) + 1 by omega]; first | exact hi1_126.cg (fun l => foQ.all hn (by omega)) | exact hi1_126.set hst (fun l z => z.le) (fun l z => hBs.tr (lf.dead hn _ _ _ _ z))))
                  · skip
                    refine w_ine 164 139 (by decide +kernel) (fun hz => absurd hz (by decide)) (fun _ => ?_)
                    refine w_load (.iload 5) 141 (by decide +kernel) rfl rfl ?_
                    refine w_load (.iload 6) 143 (by decide +kernel) rfl rfl ?_
                    refine w_callS2 115 2 146 (by decide +kernel) (Nat.le_of_ble_eq_true rfl) rfl rfl (by decide) (by omega) ?_
                    refine s_holds hS.1 (by omega) (by omega) (fun r31 hr31 => ?_)
                    dsimp only [Option.toList, List.cons_append, List.nil_append]
                    rcases hr31 with ⟨rfl, htr31⟩ | ⟨rfl, htr31⟩
                    · skip
                      refine w_ieq 158 149 (by decide +kernel) (fun hz => absurd hz (by decide)) (fun _ => ?_)
                      refine w_load (.aload_n 0) 150 (by decide +kernel) rfl rfl ?_
                      refine w_load (.aload_n 1) 151 (by decide +kernel) rfl rfl ?_
                      refine w_load (.iload_n 2) 152 (by decide +kernel) rfl rfl ?_
                      refine w_load (.iload_n 3) 153 (by decide +kernel) rfl rfl ?_
                      refine w_load (.iload 6) 155 (by decide +kernel) rfl rfl ?_
                      refine w_callV4 5 0 9 158 (by decide +kernel) sh_31 (Nat.le_of_ble_eq_true rfl) rfl rfl rfl rfl (by decide) (by omega) ?_
                      refine s_followDoer hS.1 (by omega) (hT.keep (fun i k h1 h2 => hS.2 i k (by (try dsimp only); first | omega | (simp only [Hs, Tl, Sc, isHs, isScr, isTs] at *; omega)))) (by omega) (by omega) (by omega) ((hS.2 (33 + 5 * k + 1) 2 (by (try dsimp only); first | omega | (simp only [Hs, Tl, Sc, isHs, isScr, isTs] at *; omega))).trans en) ((hS.2 34 2 (by (try dsimp only); first | omega | (simp only [Hs, Tl, Sc, isHs, isScr, isTs] at *; omega))).trans en0) (shT.keep hs (hS.row (fun k => (by (try dsimp only); first | omega | (simp only [Hs, Tl, Sc, isHs, isScr, isTs] at *; omega)))) (hS.row (fun k => (by (try dsimp only); first | omega | (simp only [Hs, Tl, Sc, isHs, isScr, isTs] at *; omega)))) (hS.row (fun k => (by (try dsimp only); first | omega | (simp only [Hs, Tl, Sc, isHs, isScr, isTs] at *; omega))))) hw ((hS.2 31 1 (by (try dsimp only); first | omega | (simp only [Hs, Tl, Sc, isHs, isScr, isTs] at *; omega))).trans hb) ((hS.2 31 4 (by (try dsimp only); first | omega | (simp only [Hs, Tl, Sc, isHs, isScr, isTs] at *; omega))).trans hB) hBs (by rw [← eD]; assumption) (hrec (by omega)) (by omega) (fun Nr33 hTr33 hr33 => ?_)
                      have kn34 := (hTr33.2 (33 + 5 * k + 1) 2 (by (try dsimp only); first | omega | (simp only [Hs, Tl, Sc, isHs, isScr, isTs] at *; omega))).trans ((hS.2 (33 + 5 * k + 1) 2 (by (try dsimp only); first | omega | (simp only [Hs, Tl, Sc, isHs, isScr, isTs] at *; omega))).trans en)
                      have hS := hS.tr hTr33 (by intro i k; first | exact rfl | exact fun h => h.elim | omega | (dsimp only; omega) | (simp only [Hs, Tl, Sc, isHs, isScr, isTs] at *; omega))
                      have a155 := hi1_126.tr hr33 (fun l => foQ.t (by rw [← eD]; assumption))
                      dsimp only [Option.toList, List.nil_append]
                      refine w_iincN (z := 6) (g6 + 1) 161 (by decide +kernel) rfl (Nat.le_of_ble_eq_true rfl) rfl rfl ?_
                      show Wp _ _ _ [.ref 31, .ref (70 + 2 * t), .int (nI m), .int (nI k), .int (nI ((dnum T t k))), .int v10, .int (nI (g6 + 1))] _ _ _ _
                      refine w_goto 126 (by decide +kernel) ?_
                      exact ih_126 Nr33 (g6 + 1) hS (by first | omega | exact a155 | exact hi1_126.cg (fun l => foQ.f (by rw [← eD]; assumption))) (by first | omega | exact a155 | exact hi1_126.cg (fun l => foQ.f (by rw [← eD]; assumption))) (by omega)
                    · skip
                      refine w_ieq 158 149 (by decide +kernel) (fun _ => ?_) (fun hz => absurd hz (by decide))
                      refine w_iincN (z := 6) (g6 + 1) 161 (by decide +kernel) rfl (Nat.le_of_ble_eq_true rfl) rfl rfl ?_
                      show Wp _ _ _ [.ref 31, .ref (70 + 2 * t), .int (nI m), .int (nI k), .int (nI ((dnum T t k))), .int v10, .int (nI (g6 + 1))] _ _ _ _
                      refine w_goto 126 (by decide +kernel) ?_
                      exact ih_126 N_126 (g6 + 1) hS (by first | omega | exact a155 | exact hi1_126.cg (fun l => foQ.f (by rw [← eD]; assumption))) (by first | omega | exact a155 | exact hi1_126.cg (fun l => foQ.f (by rw [← eD]; assumption))) (by omega)
            exact LP_126 _ Nr25 0 hS (by first | omega | exact a120 | (rw [hNM]; exact accQ.emp (fun l => foQ.z hnz))) (by first | omega | exact a120 | (rw [hNM]; exact accQ.emp (fun l => foQ.z hnz))) (Nat.lt_succ_self _)
    · skip
      omega
theorem s_follow {d : Nat} {M : Mt} {L : Lt} {Q : Option Value → Mt → Lt → Prop} {n t m k : Nat} {s : TSt} {T : TLs} {b B : Int32} (hI : Inv M) (ht : t < 3) (hT : tlX T M) (hm : m ≤ nD T t ∧ m ≤ 4) (hk : k ≤ m) (hn : n ≤ 5) (en : M (33 + 5 * k + 1) 2 = nI n) (en0 : M 34 2 = nI n) (hs : shT n (33 + 5 * k) M s) (hw : wedOk n s.1) (hb : M 31 1 = b) (hB : M 31 4 = B) (hBs : subI B (deadI n s.1)) (hd : 2 * (4 - k) + 8 ≤ d) (hq : ∀ (N : Mt), St (fun i z => (38 + 5 * k ≤ i ∧ i ≤ 57) ∨ (i = 31 ∧ (z = 2 ∨ z = 3))) M N → (accQ n b (lf n (dvT T t) (m - k) k s) (M 31 2) (M 31 3) (N 31 2) (N 31 3)) → Q none N L) : Wp d 4 0 [.ref 31, .ref (70 + 2 * t), .int (nI m), .int (nI k), .null, .null, .null] [] M L Q := by
  have key : ∀ f k : Nat, k ≤ m → 4 - k ≤ f → ∀ {d : Nat} {M : Mt} {L : Lt} {Q : Option Value → Mt → Lt → Prop} {s : TSt}, Inv M → tlX T M → M (33 + 5 * k + 1) 2 = nI n → M 34 2 = nI n → shT n (33 + 5 * k) M s → wedOk n s.1 → M 31 1 = b → M 31 4 = B → subI B (deadI n s.1) → 2 * (4 - k) + 8 ≤ d → (∀ (N : Mt), St (fun i z => (38 + 5 * k ≤ i ∧ i ≤ 57) ∨ (i = 31 ∧ (z = 2 ∨ z = 3))) M N → (accQ n b (lf n (dvT T t) (m - k) k s) (M 31 2) (M 31 3) (N 31 2) (N 31 3)) → Q none N L) → Wp d 4 0 [.ref 31, .ref (70 + 2 * t), .int (nI m), .int (nI k), .null, .null, .null] [] M L Q := by
    intro f
    induction f with
    | zero =>
      intro k hk hf d M L Q s hI hT en en0 hs hw hb hB hBs hd hq
      exact s_follow0 hI ht hT hm hk hn en en0 hs hw hb hB hBs (fun h => absurd h (by omega)) hd hq
    | succ f ih =>
      intro k hk hf d M L Q s hI hT en en0 hs hw hb hB hBs hd hq
      exact s_follow0 hI ht hT hm hk hn en en0 hs hw hb hB hBs (fun h => fun hI hT en en0 hs hw hb hB hBs hd hq => ih (k + 1) (by omega) (by omega) hI hT en en0 hs hw hb hB hBs hd hq) hd hq
  exact key (4 - k) k hk (Nat.le_refl _) hI hT en en0 hs hw hb hB hBs hd hq
-- X0_deedsToLastKilling#s
set_option maxRecDepth 10000 in
theorem s_lastKill {d : Nat} {M : Mt} {L : Lt} {Q : Option Value → Mt → Lt → Prop} {t : Nat} {T : TLs} (hI : Inv M) (ht : t < 3) (hT : tlX T M) (hd : 4 ≤ d) (hq : ∀ (r : Int32), (∃ m, r = nI m ∧ m ≤ nD T t ∧ m ≤ 4 ∧ ∀ p, m ≤ p → p < nD T t → p < 4 → ¬ kdD (dvT T t p) = nI 0) → Q (some (.int r)) M L) : Wp d 2 0 [.ref (70 + 2 * t), .null, .null, .null] [] M L Q := by
  refine w_load (.aload_n 0) 1 (by decide +kernel) rfl rfl ?_
  refine w_callV0 43 2 1 4 (by decide +kernel) (sc_tale t ht).1.1 (Nat.le_of_ble_eq_true rfl)  (by decide) (by omega) ?_
  refine s_wholeT hI (by omega) hT (by omega) (fun r1 hr1 => ?_)
  dsimp only [Option.toList, List.cons_append, List.nil_append]
  rcases hr1 with rfl
  · skip
    have hndr1 := nD_x hT (show t < 3 by omega)
    refine w_pushN 4 5 (by decide +kernel) ?_
    refine w_minN (min 4 ((nD T t))) 8 (by decide +kernel) (Nat.le_of_ble_eq_true rfl) (Nat.le_of_ble_eq_true rfl) (by omega) (by omega) rfl ?_
    refine w_store (ls' := [.ref (70 + 2 * t), .int (nI ((min 4 ((nD T t))))), .null, .null]) (.istore_n 1) 9 (by decide +kernel) rfl rfl ?_
    refine w_pushN 0 10 (by decide +kernel) ?_
    refine w_store (ls' := [.ref (70 + 2 * t), .int (nI ((min 4 ((nD T t))))), .int (nI 0), .null]) (.istore_n 2) 11 (by decide +kernel) rfl rfl ?_
    refine w_pushN 0 12 (by decide +kernel) ?_
    refine w_store (ls' := [.ref (70 + 2 * t), .int (nI ((min 4 ((nD T t))))), .int (nI 0), .int (nI 0)]) (.istore_n 3) 13 (by decide +kernel) rfl rfl ?_
    have LP_13 : ∀ (kk : Nat) (g2 : Nat) (g3 : Nat), g3 ≤ 4 → (∀ p, g2 ≤ p → p < g3 → ¬ kdD (dvT T t p) = nI 0) → g2 ≤ g3 → g3 ≤ nD T t → 4 - g3 < kk → Wp d 2 13 [.ref (70 + 2 * t), .int (nI ((min 4 ((nD T t))))), .int (nI g2), .int (nI g3)] [] M L Q := by
      intro kk
      induction kk with
      | zero => intro g2 g3 hi0_13 hi1_13 hi2_13 hi3_13 hm_13; exact absurd hm_13 (Nat.not_lt_zero _)
      | succ kk ih_13 =>
        intro g2 g3 hi0_13 hi1_13 hi2_13 hi3_13 hm_13
        refine w_load (.iload_n 3) 14 (by decide +kernel) rfl rfl ?_
        refine w_load (.iload_n 1) 15 (by decide +kernel) rfl rfl ?_
        refine w_cgeN 39 18 (by decide +kernel) (by omega) (by omega) (fun h2 => ?_) (fun h2 => ?_)
        · skip
          refine w_load (.iload_n 2) 40 (by decide +kernel) rfl rfl ?_
          exact w_ret (by decide +kernel) (hq _ ⟨g2, rfl, by omega, by omega, fun p h1 h2 h3 => hi1_13 p h1 (by omega)⟩)
        · skip
          refine w_load (.aload_n 0) 19 (by decide +kernel) rfl rfl ?_
          refine w_load (.iload_n 3) 20 (by decide +kernel) rfl rfl ?_
          refine w_callV1 44 2 4 23 (by decide +kernel) (sc_tale t ht).1.1 (Nat.le_of_ble_eq_true rfl) rfl (by decide) (by omega) ?_
          refine s_deedAtT hI (by omega) hT (by omega) (by omega) (fun r3 hr3 => ?_)
          dsimp only [Option.toList, List.cons_append, List.nil_append]
          rcases hr3 with rfl
          · skip
            have hdnr3 := dn_num (T := T) (t := t) (p := g3) (by omega)
            have hdbr3 := hdnr3.2
            refine w_callS1 117 1 26 (by decide +kernel) (Nat.le_of_ble_eq_true rfl) rfl (by decide) (by omega) ?_
            refine s_kindN hI (by omega) (by omega) (fun r4 hr4 => ?_)
            dsimp only [Option.toList, List.cons_append, List.nil_append]
            rcases hr4 with rfl
            · skip
              refine w_ineN 33 29 (by decide +kernel) (by omega) (fun h5 => ?_) (fun h5 => ?_)
              · skip
                refine w_iincN (z := 3) (g3 + 1) 36 (by decide +kernel) rfl (Nat.le_of_ble_eq_true rfl) rfl rfl ?_
                show Wp _ _ _ [.ref (70 + 2 * t), .int (nI ((min 4 ((nD T t))))), .int (nI g2), .int (nI (g3 + 1))] _ _ _ _
                refine w_goto 13 (by decide +kernel) ?_
                exact ih_13 g2 (g3 + 1) (by first | omega | (intro p h1 h2; omega) | exact lt_ext2 hi1_13 (show ¬ kdD (nI (dnum T t g3)) = nI 0 by rw [kd_num (by omega)]; intro z; exact absurd (nI_same z (by omega) (by omega)) (by assumption))) (by first | omega | (intro p h1 h2; omega) | exact lt_ext2 hi1_13 (show ¬ kdD (nI (dnum T t g3)) = nI 0 by rw [kd_num (by omega)]; intro z; exact absurd (nI_same z (by omega) (by omega)) (by assumption))) (by first | omega | (intro p h1 h2; omega) | exact lt_ext2 hi1_13 (show ¬ kdD (nI (dnum T t g3)) = nI 0 by rw [kd_num (by omega)]; intro z; exact absurd (nI_same z (by omega) (by omega)) (by assumption))) (by first | omega | (intro p h1 h2; omega) | exact lt_ext2 hi1_13 (show ¬ kdD (nI (dnum T t g3)) = nI 0 by rw [kd_num (by omega)]; intro z; exact absurd (nI_same z (by omega) (by omega)) (by assumption))) (by omega)
              · skip
                refine w_load (.iload_n 3) 30 (by decide +kernel) rfl rfl ?_
                refine w_pushN 1 31 (by decide +kernel) ?_
                refine w_addN (g3 + 1) 32 (by decide +kernel) (by omega) ?_
                refine w_store (ls' := [.ref (70 + 2 * t), .int (nI ((min 4 ((nD T t))))), .int (nI (g3 + 1)), .int (nI g3)]) (.istore_n 2) 33 (by decide +kernel) rfl rfl ?_
                refine w_iincN (z := 3) (g3 + 1) 36 (by decide +kernel) rfl (Nat.le_of_ble_eq_true rfl) rfl rfl ?_
                show Wp _ _ _ [.ref (70 + 2 * t), .int (nI ((min 4 ((nD T t))))), .int (nI (g3 + 1)), .int (nI (g3 + 1))] _ _ _ _
                refine w_goto 13 (by decide +kernel) ?_
                exact ih_13 (g3 + 1) (g3 + 1) (by first | omega | (intro p h1 h2; omega) | exact lt_ext2 hi1_13 (show ¬ kdD (nI (dnum T t g3)) = nI 0 by rw [kd_num (by omega)]; intro z; exact absurd (nI_same z (by omega) (by omega)) (by assumption))) (by first | omega | (intro p h1 h2; omega) | exact lt_ext2 hi1_13 (show ¬ kdD (nI (dnum T t g3)) = nI 0 by rw [kd_num (by omega)]; intro z; exact absurd (nI_same z (by omega) (by omega)) (by assumption))) (by first | omega | (intro p h1 h2; omega) | exact lt_ext2 hi1_13 (show ¬ kdD (nI (dnum T t g3)) = nI 0 by rw [kd_num (by omega)]; intro z; exact absurd (nI_same z (by omega) (by omega)) (by assumption))) (by first | omega | (intro p h1 h2; omega) | exact lt_ext2 hi1_13 (show ¬ kdD (nI (dnum T t g3)) = nI 0 by rw [kd_num (by omega)]; intro z; exact absurd (nI_same z (by omega) (by omega)) (by assumption))) (by omega)
    exact LP_13 _ 0 0 (by first | omega | (intro p h1 h2; omega)) (by first | omega | (intro p h1 h2; omega)) (by first | omega | (intro p h1 h2; omega)) (by first | omega | (intro p h1 h2; omega)) (Nat.lt_succ_self _)
-- X0_deadBy#s
set_option maxRecDepth 10000 in
theorem s_deadBy {d : Nat} {M : Mt} {L : Lt} {Q : Option Value → Mt → Lt → Prop} {n t : Nat} {c pw : Row} {T : TLs} {b : Int32} (hI : Inv M) (hn : n ≤ 5) (en : M 4 2 = nI n) (hc : HE n (M 5) c) (hp : LQ n (M 6) pw) (hw : wedOk n c) (hT : tlX T M) (ht : t < 3) (hb0 : b = 0 ∨ b = 1) (hd : 17 ≤ d) (hq : ∀ (r : Int32) (N : Mt), St (fun i _ => 31 ≤ i ∧ i ≤ 57) M N → (∃ m, m ≤ nD T t ∧ m ≤ 4 ∧ (∀ p, m ≤ p → p < nD T t → p < 4 → ¬ kdD (dvT T t p) = nI 0) ∧ chR n (dvT T t) m (c, pw, nI 0, nI 0) b r) → Q (some (.int r)) N L) : Wp d 1 0 [.ref 31, .ref 4, .ref (70 + 2 * t), .int b] [] M L Q := by
  refine (show ∀ N : Mt, N = M → St (fun i _ => 31 ≤ i ∧ i ≤ 57) M N → Wp d 1 0 [.ref 31, .ref 4, .ref (70 + 2 * t), .int b] [] N L Q from ?_) M rfl (St.rf hI)
  intro N hNM hS
  have kz0 : N (4) 2 = nI n := by rw [hNM]; exact en
  refine w_load (.aload_n 0) 1 (by decide +kernel) rfl rfl ?_
  refine w_load (.iload_n 3) 2 (by decide +kernel) rfl rfl ?_
  refine w_putZE (k := 1) 5 (by decide +kernel) sh_31 rfl hb0 hS (Rg.free (by simp only [Hs, Tl, Sc, isScr, isHs, isTs] at *; omega)) (by first | exact rfl | omega | (dsimp only; omega) | (simp only [Hs, Tl, Sc, isHs, isScr, isTs] at *; omega)) (fun Nq1 hS hq1 oq1 mq1 => ?_)
  have kn2 := (oq1 (4) 2 (by first | omega | (simp only [Hs, Tl, Sc, isHs, isScr, isTs] at *; omega))).trans kz0
  refine w_load (.aload_n 0) 6 (by decide +kernel) rfl rfl ?_
  refine w_load (.aload_n 1) 7 (by decide +kernel) rfl rfl ?_
  refine w_callV0 20 1 1 10 (by decide +kernel) sh_4 (Nat.le_of_ble_eq_true rfl)  (by decide) (by omega) ?_
  refine s_dead hS.1 hs_4 (by omega) kn2 (by rw [hS.row (x := 5) (fun k => (by (try dsimp only); first | omega | (simp only [Hs, Tl, Sc, isHs, isScr, isTs] at *; omega)))]; exact hc) (by omega) (fun r3 hr3 => ?_)
  dsimp only [Option.toList, List.cons_append, List.nil_append]
  rcases hr3 with rfl
  · skip
    refine w_putE (k := 4) 13 (by decide +kernel) sh_31 rfl hS (Rg.free (by simp only [Hs, Tl, Sc, isScr, isHs, isTs] at *; omega)) (by first | exact rfl | omega | (dsimp only; omega) | (simp only [Hs, Tl, Sc, isHs, isScr, isTs] at *; omega)) (fun Nq4 hS hq4 oq4 mq4 => ?_)
    have kn5 := (oq4 (4) 2 (by first | omega | (simp only [Hs, Tl, Sc, isHs, isScr, isTs] at *; omega))).trans kn2
    refine w_load (.aload_n 0) 14 (by decide +kernel) rfl rfl ?_
    refine w_load (.aload_n 0) 15 (by decide +kernel) rfl rfl ?_
    refine w_getI (k := 4) 18 (by decide +kernel) sh_31 rfl ?_
    refine w_putE (k := 2) 21 (by decide +kernel) sh_31 rfl hS (Rg.free (by simp only [Hs, Tl, Sc, isScr, isHs, isTs] at *; omega)) (by first | exact rfl | omega | (dsimp only; omega) | (simp only [Hs, Tl, Sc, isHs, isScr, isTs] at *; omega)) (fun Nq6 hS hq6 oq6 mq6 => ?_)
    have kn7 := (oq6 (4) 2 (by first | omega | (simp only [Hs, Tl, Sc, isHs, isScr, isTs] at *; omega))).trans kn5
    refine w_load (.aload_n 0) 22 (by decide +kernel) rfl rfl ?_
    refine w_load (.aload_n 1) 23 (by decide +kernel) rfl rfl ?_
    refine w_callV0 18 1 1 26 (by decide +kernel) sh_4 (Nat.le_of_ble_eq_true rfl)  (by decide) (by omega) ?_
    refine s_everyoneE hS.1 hs_4 (by omega) kn7 (by omega) (fun r8 hr8 => ?_)
    dsimp only [Option.toList, List.cons_append, List.nil_append]
    rcases hr8 with rfl
    · skip
      refine w_putE (k := 3) 29 (by decide +kernel) sh_31 rfl hS (Rg.free (by simp only [Hs, Tl, Sc, isScr, isHs, isTs] at *; omega)) (by first | exact rfl | omega | (dsimp only; omega) | (simp only [Hs, Tl, Sc, isHs, isScr, isTs] at *; omega)) (fun Nq9 hS hq9 oq9 mq9 => ?_)
      have kn10 := (oq9 (4) 2 (by first | omega | (simp only [Hs, Tl, Sc, isHs, isScr, isTs] at *; omega))).trans kn7
      refine w_load (.aload_n 0) 30 (by decide +kernel) rfl rfl ?_
      refine w_getR (k := 0) (r := 32) 33 (by decide +kernel) sh_31 rfl ?_
      refine w_pushN 0 34 (by decide +kernel) ?_
      refine w_step5 35 (by decide +kernel) (by omega) ?_
      show Wp _ _ _ _ (.ref 33 :: _) _ _ _
      refine w_load (.aload_n 1) 36 (by decide +kernel) rfl rfl ?_
      refine w_callV1 66 6 3 39 (by decide +kernel) sh_33 (Nat.le_of_ble_eq_true rfl) rfl (by decide) (by omega) ?_
      refine s_begin hS.1 tl_33 hs_4 (by omega) kn10 (by rw [hS.row (x := 5) (fun k => (by (try dsimp only); first | omega | (simp only [Hs, Tl, Sc, isHs, isScr, isTs] at *; omega)))]; exact hc) (by rw [hS.row (x := 6) (fun k => (by (try dsimp only); first | omega | (simp only [Hs, Tl, Sc, isHs, isScr, isTs] at *; omega)))]; exact hp) (by omega) (fun Nr11 hTr11 hr11 => ?_)
      have kn12 := (hTr11.2 (4) 2 (by (try dsimp only); first | omega | (simp only [Hs, Tl, Sc, isHs, isScr, isTs] at *; omega))).trans kn10
      have hS := hS.tr hTr11 (by intro i k; first | exact rfl | exact fun h => h.elim | omega | (dsimp only; omega) | (simp only [Hs, Tl, Sc, isHs, isScr, isTs] at *; omega))
      have s36 := hr11.1
      have g36 := hr11.2.1
      have f311 : Nr11 31 1 = b := (hTr11.2 31 1 (by (try dsimp only); first | omega | (simp only [Hs, Tl, Sc, isHs, isScr, isTs] at *; omega))).trans (by rw [mq9, up2_ne (by decide), mq6, up2_ne (by decide), mq4, up2_ne (by decide), mq1, up2_eq])
      have f314 : Nr11 31 4 = deadI n c := (hTr11.2 31 4 (by (try dsimp only); first | omega | (simp only [Hs, Tl, Sc, isHs, isScr, isTs] at *; omega))).trans (by rw [mq9, up2_ne (by decide), mq6, up2_ne (by decide), mq4, up2_eq])
      have f312 : Nr11 31 2 = deadI n c := (hTr11.2 31 2 (by (try dsimp only); first | omega | (simp only [Hs, Tl, Sc, isHs, isScr, isTs] at *; omega))).trans (by rw [mq9, up2_ne (by decide), mq6, up2_eq, mq4, up2_eq])
      have f313 : Nr11 31 3 = evI n := (hTr11.2 31 3 (by (try dsimp only); first | omega | (simp only [Hs, Tl, Sc, isHs, isScr, isTs] at *; omega))).trans (by rw [mq9, up2_eq])
      dsimp only [Option.toList, List.nil_append]
      refine w_load (.aload_n 0) 40 (by decide +kernel) rfl rfl ?_
      refine w_load (.aload_n 2) 41 (by decide +kernel) rfl rfl ?_
      refine w_load (.aload_n 2) 42 (by decide +kernel) rfl rfl ?_
      refine w_callS1 2 4 45 (by decide +kernel) (Nat.le_of_ble_eq_true rfl) rfl (by decide) (by omega) ?_
      refine s_lastKill hS.1 (by omega) (hT.keep (fun i k h1 h2 => hS.2 i k (by (try dsimp only); first | omega | (simp only [Hs, Tl, Sc, isHs, isScr, isTs] at *; omega)))) (by omega) (fun r13 hr13 => ?_)
      dsimp only [Option.toList, List.cons_append, List.nil_append]
      rcases hr13 with ⟨mk, rfl, hmk1, hmk2, hmk3⟩
      · skip
        refine w_pushN 0 46 (by decide +kernel) ?_
        refine w_callV3 4 0 7 49 (by decide +kernel) sh_31 (Nat.le_of_ble_eq_true rfl) rfl rfl rfl (by decide) (by omega) ?_
        refine s_follow hS.1 (by omega) (hT.keep (fun i k h1 h2 => hS.2 i k (by (try dsimp only); first | omega | (simp only [Hs, Tl, Sc, isHs, isScr, isTs] at *; omega)))) (by omega) (by omega) (by omega) g36 g36 s36 hw f311 f314 (fun _ _ z => z) (by omega) (fun Nr14 hTr14 hr14 => ?_)
        have kn15 := (hTr14.2 (4) 2 (by (try dsimp only); first | omega | (simp only [Hs, Tl, Sc, isHs, isScr, isTs] at *; omega))).trans kn12
        have hS := hS.tr hTr14 (by intro i k; first | exact rfl | exact fun h => h.elim | omega | (dsimp only; omega) | (simp only [Hs, Tl, Sc, isHs, isScr, isTs] at *; omega))
        rw [f312, f313] at hr14
        have hb46 : Nr14 31 1 = b := (hTr14.2 31 1 (by (try dsimp only); first | omega | (simp only [Hs, Tl, Sc, isHs, isScr, isTs] at *; omega))).trans f311
        have a46 := hr14
        dsimp only [Option.toList, List.nil_append]
        refine w_load (.aload_n 0) 50 (by decide +kernel) rfl rfl ?_
        refine w_getI (k := 1) 53 (by decide +kernel) sh_31 rfl ?_
        refine w_ieq 63 56 (by decide +kernel) (fun h16 => ?_) (fun h16 => ?_)
        · skip
          refine w_load (.aload_n 0) 64 (by decide +kernel) rfl rfl ?_
          refine w_getI (k := 2) 67 (by decide +kernel) sh_31 rfl ?_
          exact w_ret (by decide +kernel) (hq _ Nr14 hS ⟨mk, hmk1, hmk2, hmk3, ch_acc (s := (c, pw, nI 0, nI 0)) hn a46 (fun z => by first | rfl | exact absurd (hb46.trans z) (by assumption)) (fun z => by first | rfl | exact absurd (hb46.symm.trans (by assumption)) z)⟩)
        · skip
          refine w_load (.aload_n 0) 57 (by decide +kernel) rfl rfl ?_
          refine w_getI (k := 3) 60 (by decide +kernel) sh_31 rfl ?_
          refine w_goto 67 (by decide +kernel) ?_
          exact w_ret (by decide +kernel) (hq _ Nr14 hS ⟨mk, hmk1, hmk2, hmk3, ch_acc (s := (c, pw, nI 0, nI 0)) hn a46 (fun z => by first | rfl | exact absurd (hb46.trans z) (by assumption)) (fun z => by first | rfl | exact absurd (hb46.symm.trans (by assumption)) z)⟩)
-- X7_chosen#s
set_option maxRecDepth 10000 in
theorem s_chosen7 {d : Nat} {M : Mt} {L : Lt} {Q : Option Value → Mt → Lt → Prop} {n : Nat} {c pw : Row} {T : TLs} {a : Int32} {b : Int32} (hI : Inv M) (hn : n ≤ 5) (en : M 4 2 = nI n) (hc : HE n (M 5) c) (hp : LQ n (M 6) pw) (hw : wedOk n c) (hT : tlX T M) (hb0 : b = 0 ∨ b = 1) (hd : 18 ≤ d) (hq : ∀ (r : Int32) (N : Mt), St (fun i _ => (7 ≤ i ∧ i ≤ 57) ∨ i = 63 ∨ i = 68 ∨ i = 69) M N → ((r = -1 ∧ ¬ (∃ k, k < 3 ∧ a = nI k)) ∨ (∃ t, t < 3 ∧ a = nI t ∧ ((r = -3 ∧ 4 < nD T t) ∨ (nD T t ≤ 4 ∧ chR n (dvT T t) (nD T t) (c, pw, nI 0, nI 0) b r)))) → Q (some (.int r)) N L) : Wp d 93 0 [.ref 0, .int a, .int b] [] M L Q := by
  refine (show ∀ N : Mt, N = M → St (fun i _ => (7 ≤ i ∧ i ≤ 57) ∨ i = 63 ∨ i = 68 ∨ i = 69) M N → Wp d 93 0 [.ref 0, .int a, .int b] [] N L Q from ?_) M rfl (St.rf hI)
  intro N hNM hS
  have kz0 : N (4) 2 = nI n := by rw [hNM]; exact en
  refine w_load (.iload_n 1) 1 (by decide +kernel) rfl rfl ?_
  refine w_callS1 111 1 4 (by decide +kernel) (Nat.le_of_ble_eq_true rfl) rfl (by decide) (by omega) ?_
  refine k_111 hS.1  (by omega) (fun r1 hr1 => ?_)
  dsimp only [Option.toList, List.cons_append, List.nil_append]
  rcases hr1 with ⟨rfl, k2, hk2, rfl⟩ | ⟨rfl, hnok2⟩
  · skip
    refine w_ine 9 7 (by decide +kernel) (fun _ => ?_) (fun hz => absurd hz (by decide))
    refine w_load (.aload_n 0) 10 (by decide +kernel) rfl rfl ?_
    refine w_getR (k := 1) (r := 3) 13 (by decide +kernel) sh_0 rfl ?_
    refine w_load (.iload_n 1) 14 (by decide +kernel) rfl rfl ?_
    refine w_tale 15 (by decide +kernel) (by omega) ?_
    refine w_callV0 43 2 1 18 (by decide +kernel) (sc_tale k2 (by omega)).1.1 (Nat.le_of_ble_eq_true rfl)  (by decide) (by omega) ?_
    refine s_wholeT hS.1 (by omega) (hT.keep (fun i k h1 h2 => hS.2 i k (by (try dsimp only); first | omega | (simp only [Hs, Tl, Sc, isHs, isScr, isTs] at *; omega)))) (by omega) (fun r4 hr4 => ?_)
    dsimp only [Option.toList, List.cons_append, List.nil_append]
    rcases hr4 with rfl
    · skip
      have hndr4 := nD_x hT (show k2 < 3 by omega)
      refine w_pushN 4 19 (by decide +kernel) ?_
      refine w_cleN 25 22 (by decide +kernel) (by omega) (by omega) (fun h5 => ?_) (fun h5 => ?_)
      · skip
        refine w_load (.aload_n 0) 26 (by decide +kernel) rfl rfl ?_
        refine w_getR (k := 6) (r := 31) 29 (by decide +kernel) sh_0 rfl ?_
        refine w_load (.aload_n 0) 30 (by decide +kernel) rfl rfl ?_
        refine w_getR (k := 2) (r := 4) 33 (by decide +kernel) sh_0 rfl ?_
        refine w_load (.aload_n 0) 34 (by decide +kernel) rfl rfl ?_
        refine w_getR (k := 1) (r := 3) 37 (by decide +kernel) sh_0 rfl ?_
        refine w_load (.iload_n 1) 38 (by decide +kernel) rfl rfl ?_
        refine w_tale 39 (by decide +kernel) (by omega) ?_
        refine w_load (.iload_n 2) 40 (by decide +kernel) rfl rfl ?_
        refine w_callV3 1 0 4 43 (by decide +kernel) sh_31 (Nat.le_of_ble_eq_true rfl) rfl rfl rfl (by decide) (by omega) ?_
        refine s_deadBy hS.1 (by omega) kz0 (by rw [hNM]; exact hc) (by rw [hNM]; exact hp) hw (hT.keep (fun i k h1 h2 => hS.2 i k (by (try dsimp only); first | omega | (simp only [Hs, Tl, Sc, isHs, isScr, isTs] at *; omega)))) (by omega) (by assumption) (by omega) (fun r6 Nr6 hTr6 hr6 => ?_)
        have kn7 := (hTr6.2 (4) 2 (by (try dsimp only); first | omega | (simp only [Hs, Tl, Sc, isHs, isScr, isTs] at *; omega))).trans kz0
        have hS := hS.tr hTr6 (by intro i k; first | exact rfl | exact fun h => h.elim | omega | (dsimp only; omega) | (simp only [Hs, Tl, Sc, isHs, isScr, isTs] at *; omega))
        dsimp only [Option.toList, List.cons_append, List.nil_append]
        exact w_ret (by decide +kernel) (hq _ Nr6 hS (by obtain ⟨mk, hm1, hm2, hm3, hch⟩ := hr6; exact Or.inr ⟨_, by assumption, rfl, Or.inr ⟨by omega, by have hcc := ch_cut (r2 := nD T k2 - mk) hn (fun p h1 h2 => hm3 p h1 (by omega) (by omega)) hch; rw [show mk + (nD T k2 - mk) = nD T k2 by omega] at hcc; exact hcc⟩⟩))
      · skip
        refine w_push (-3) 24 (by decide +kernel) ?_
        exact w_ret (by decide +kernel) (hq _ N hS (Or.inr ⟨_, by assumption, rfl, Or.inl ⟨rfl, by omega⟩⟩))
  · skip
    refine w_ine 9 7 (by decide +kernel) (fun hz => absurd hz (by decide)) (fun _ => ?_)
    refine w_push (-1) 8 (by decide +kernel) ?_
    exact w_ret (by decide +kernel) (hq _ N hS (Or.inl ⟨rfl, by assumption⟩))
