-- X1_isLikeRow#s
set_option maxRecDepth 10000 in
theorem s_isLikeRow {d : Nat} {M : Mt} {L : Lt} {Q : Option Value → Mt → Lt → Prop} {h a n i m : Nat} {c e : Row} (hI : Inv M) (hh : Hs h) (ha : shp[a]? = some (100, List.replicate n 0)) (hn : 17 ≤ n ∧ n < 2 ^ 31) (hi : i + 17 ≤ n) (hm : m ≤ 5) (em : M h 2 = nI m) (hc : HE m (M (h + 1)) c) (hd2 : HE m (fun k => M a (i + k)) e) (hd : 0 ≤ d) (hq : ∀ (r : Int32), ((r = 1 ∧ likeP m c e) ∨ (r = 0 ∧ ¬ likeP m c e)) → Q (some (.int r)) M L) : Wp d 32 0 [.ref h, .ref a, .int (nI i), .null] [] M L Q := by
  refine w_load (.iload_n 2) 1 (by decide +kernel) rfl rfl ?_
  refine w_iltN 13 4 (by decide +kernel) (by omega) ?_
  refine w_load (.iload_n 2) 5 (by decide +kernel) rfl rfl ?_
  refine w_load (.aload_n 1) 6 (by decide +kernel) rfl rfl ?_
  refine w_alen (nI n) 7 (by decide +kernel) ha (by decide) (by first | rfl | simp [nI]) ?_
  refine w_pushN 17 9 (by decide +kernel) ?_
  refine w_subN (n - 17) 10 (by decide +kernel) (by omega) rfl ?_
  refine w_cleN 15 13 (by decide +kernel) (by omega) (by omega) (fun h2 => ?_) (fun h2 => ?_)
  · skip
    refine w_pushN 0 16 (by decide +kernel) ?_
    refine w_store (ls' := [.ref h, .ref a, .int (nI i), .int (nI 0)]) (.istore_n 3) 17 (by decide +kernel) rfl rfl ?_
    have LP_17 : ∀ (kk : Nat) (g3 : Nat), g3 ≤ 5 → (∀ g, g < g3 → c g = e g ∧ c (5 + g) = e (5 + g) ∧ c (10 + g) = e (10 + g)) → g3 ≤ m → 5 - g3 < kk → Wp d 32 17 [.ref h, .ref a, .int (nI i), .int (nI g3)] [] M L Q := by
      intro kk
      induction kk with
      | zero => intro g3 hi0_17 hi1_17 hi2_17 hm_17; exact absurd hm_17 (Nat.not_lt_zero _)
      | succ kk ih_17 =>
        intro g3 hi0_17 hi1_17 hi2_17 hm_17
        refine w_load (.iload_n 3) 18 (by decide +kernel) rfl rfl ?_
        refine w_load (.aload_n 0) 19 (by decide +kernel) rfl rfl ?_
        refine w_getK (k := 2) 22 (by decide +kernel) hh.1.1 rfl em ?_
        refine w_cgeN 89 25 (by decide +kernel) (by omega) (by omega) (fun h3 => ?_) (fun h3 => ?_)
        · skip
          refine w_load (.aload_n 0) 90 (by decide +kernel) rfl rfl ?_
          refine w_getR (k := 0) (r := h + 1) 93 (by decide +kernel) hh.1.1 rfl ?_
          refine w_pushN 15 95 (by decide +kernel) ?_
          refine w_ialdN 96 (by decide +kernel) hh.1.2.1 (by omega) (by omega) ?_
          refine w_load (.aload_n 1) 97 (by decide +kernel) rfl rfl ?_
          refine w_load (.iload_n 2) 98 (by decide +kernel) rfl rfl ?_
          refine w_pushN 15 100 (by decide +kernel) ?_
          refine w_addN (i + 15) 101 (by decide +kernel) (by omega) ?_
          refine w_ialdN 102 (by decide +kernel) ha (by omega) (by omega) ?_
          refine w_cne 109 105 (by decide +kernel) (fun h4 => ?_) (fun h4 => ?_)
          · skip
            refine w_pushN 0 110 (by decide +kernel) ?_
            exact w_retZ (by decide +kernel) (Or.inl rfl) (hq _ (Or.inr ⟨rfl, fun hz => by first | exact absurd (q0.1.trans ((hz.1 g3 (by omega)).1.trans q1.1.symm)) (by assumption) | exact absurd (q0.2.1.trans ((hz.1 g3 (by omega)).2.1.trans q1.2.1.symm)) (by assumption) | exact absurd (q0.2.2.trans ((hz.1 g3 (by omega)).2.2.trans q1.2.2.symm)) (by assumption) | exact absurd (hc.2.1.trans (hz.2.trans hd2.2.1.symm)) (by assumption) | omega⟩))
          · skip
            refine w_pushN 1 106 (by decide +kernel) ?_
            refine w_goto 110 (by decide +kernel) ?_
            exact w_retZ (by decide +kernel) (Or.inr rfl) (hq _ (Or.inl ⟨rfl, fun g hg => hi1_17 g (by omega), hc.2.1.symm.trans ((show M (h + 1) 15 = M a (i + 15) by assumption).trans hd2.2.1)⟩))
        · skip
          have q0 := hc.1 g3 (by omega)
          have q1 : M a (i + g3) = e g3 ∧ M a (i + 5 + g3) = e (5 + g3) ∧ M a (i + 10 + g3) = e (10 + g3) := by rw [Nat.add_assoc i 5 g3, Nat.add_assoc i 10 g3]; exact hd2.1 g3 (by omega)
          refine w_load (.aload_n 0) 26 (by decide +kernel) rfl rfl ?_
          refine w_getR (k := 0) (r := h + 1) 29 (by decide +kernel) hh.1.1 rfl ?_
          refine w_pushN 0 30 (by decide +kernel) ?_
          refine w_load (.iload_n 3) 31 (by decide +kernel) rfl rfl ?_
          refine w_addN g3 32 (by decide +kernel) (by omega) ?_
          refine w_ialdN 33 (by decide +kernel) hh.1.2.1 (by omega) (by omega) ?_
          refine w_load (.aload_n 1) 34 (by decide +kernel) rfl rfl ?_
          refine w_load (.iload_n 2) 35 (by decide +kernel) rfl rfl ?_
          refine w_pushN 0 36 (by decide +kernel) ?_
          refine w_addN i 37 (by decide +kernel) (by omega) ?_
          refine w_load (.iload_n 3) 38 (by decide +kernel) rfl rfl ?_
          refine w_addN (i + g3) 39 (by decide +kernel) (by omega) ?_
          refine w_ialdN 40 (by decide +kernel) ha (by omega) (by omega) ?_
          refine w_cne 81 43 (by decide +kernel) (fun h5 => ?_) (fun h5 => ?_)
          · skip
            refine w_pushN 0 82 (by decide +kernel) ?_
            exact w_retZ (by decide +kernel) (Or.inl rfl) (hq _ (Or.inr ⟨rfl, fun hz => by first | exact absurd (q0.1.trans ((hz.1 g3 (by omega)).1.trans q1.1.symm)) (by assumption) | exact absurd (q0.2.1.trans ((hz.1 g3 (by omega)).2.1.trans q1.2.1.symm)) (by assumption) | exact absurd (q0.2.2.trans ((hz.1 g3 (by omega)).2.2.trans q1.2.2.symm)) (by assumption) | exact absurd (hc.2.1.trans (hz.2.trans hd2.2.1.symm)) (by assumption) | omega⟩))
          · skip
            refine w_load (.aload_n 0) 44 (by decide +kernel) rfl rfl ?_
            refine w_getR (k := 0) (r := h + 1) 47 (by decide +kernel) hh.1.1 rfl ?_
            refine w_pushN 5 48 (by decide +kernel) ?_
            refine w_load (.iload_n 3) 49 (by decide +kernel) rfl rfl ?_
            refine w_addN (5 + g3) 50 (by decide +kernel) (by omega) ?_
            refine w_ialdN 51 (by decide +kernel) hh.1.2.1 (by omega) (by omega) ?_
            refine w_load (.aload_n 1) 52 (by decide +kernel) rfl rfl ?_
            refine w_load (.iload_n 2) 53 (by decide +kernel) rfl rfl ?_
            refine w_pushN 5 54 (by decide +kernel) ?_
            refine w_addN (i + 5) 55 (by decide +kernel) (by omega) ?_
            refine w_load (.iload_n 3) 56 (by decide +kernel) rfl rfl ?_
            refine w_addN (i + 5 + g3) 57 (by decide +kernel) (by omega) ?_
            refine w_ialdN 58 (by decide +kernel) ha (by omega) (by omega) ?_
            refine w_cne 81 61 (by decide +kernel) (fun h6 => ?_) (fun h6 => ?_)
            · skip
              refine w_pushN 0 82 (by decide +kernel) ?_
              exact w_retZ (by decide +kernel) (Or.inl rfl) (hq _ (Or.inr ⟨rfl, fun hz => by first | exact absurd (q0.1.trans ((hz.1 g3 (by omega)).1.trans q1.1.symm)) (by assumption) | exact absurd (q0.2.1.trans ((hz.1 g3 (by omega)).2.1.trans q1.2.1.symm)) (by assumption) | exact absurd (q0.2.2.trans ((hz.1 g3 (by omega)).2.2.trans q1.2.2.symm)) (by assumption) | exact absurd (hc.2.1.trans (hz.2.trans hd2.2.1.symm)) (by assumption) | omega⟩))
            · skip
              refine w_load (.aload_n 0) 62 (by decide +kernel) rfl rfl ?_
              refine w_getR (k := 0) (r := h + 1) 65 (by decide +kernel) hh.1.1 rfl ?_
              refine w_pushN 10 67 (by decide +kernel) ?_
              refine w_load (.iload_n 3) 68 (by decide +kernel) rfl rfl ?_
              refine w_addN (10 + g3) 69 (by decide +kernel) (by omega) ?_
              refine w_ialdN 70 (by decide +kernel) hh.1.2.1 (by omega) (by omega) ?_
              refine w_load (.aload_n 1) 71 (by decide +kernel) rfl rfl ?_
              refine w_load (.iload_n 2) 72 (by decide +kernel) rfl rfl ?_
              refine w_pushN 10 74 (by decide +kernel) ?_
              refine w_addN (i + 10) 75 (by decide +kernel) (by omega) ?_
              refine w_load (.iload_n 3) 76 (by decide +kernel) rfl rfl ?_
              refine w_addN (i + 10 + g3) 77 (by decide +kernel) (by omega) ?_
              refine w_ialdN 78 (by decide +kernel) ha (by omega) (by omega) ?_
              refine w_ceq 83 81 (by decide +kernel) (fun h7 => ?_) (fun h7 => ?_)
              · skip
                refine w_iincN (z := 3) (g3 + 1) 86 (by decide +kernel) rfl (Nat.le_of_ble_eq_true rfl) rfl rfl ?_
                show Wp _ _ _ [.ref h, .ref a, .int (nI i), .int (nI (g3 + 1))] _ _ _ _
                refine w_goto 17 (by decide +kernel) ?_
                exact ih_17 (g3 + 1) (by first | omega | exact lt_ext hi1_17 ⟨q0.1.symm.trans ((show M (h + 1) g3 = M a (i + g3) by assumption).trans q1.1), q0.2.1.symm.trans ((show M (h + 1) (5 + g3) = M a (i + 5 + g3) by assumption).trans q1.2.1), q0.2.2.symm.trans ((show M (h + 1) (10 + g3) = M a (i + 10 + g3) by assumption).trans q1.2.2)⟩) (by first | omega | exact lt_ext hi1_17 ⟨q0.1.symm.trans ((show M (h + 1) g3 = M a (i + g3) by assumption).trans q1.1), q0.2.1.symm.trans ((show M (h + 1) (5 + g3) = M a (i + 5 + g3) by assumption).trans q1.2.1), q0.2.2.symm.trans ((show M (h + 1) (10 + g3) = M a (i + 10 + g3) by assumption).trans q1.2.2)⟩) (by first | omega | exact lt_ext hi1_17 ⟨q0.1.symm.trans ((show M (h + 1) g3 = M a (i + g3) by assumption).trans q1.1), q0.2.1.symm.trans ((show M (h + 1) (5 + g3) = M a (i + 5 + g3) by assumption).trans q1.2.1), q0.2.2.symm.trans ((show M (h + 1) (10 + g3) = M a (i + 10 + g3) by assumption).trans q1.2.2)⟩) (by omega)
              · skip
                refine w_pushN 0 82 (by decide +kernel) ?_
                exact w_retZ (by decide +kernel) (Or.inl rfl) (hq _ (Or.inr ⟨rfl, fun hz => by first | exact absurd (q0.1.trans ((hz.1 g3 (by omega)).1.trans q1.1.symm)) (by assumption) | exact absurd (q0.2.1.trans ((hz.1 g3 (by omega)).2.1.trans q1.2.1.symm)) (by assumption) | exact absurd (q0.2.2.trans ((hz.1 g3 (by omega)).2.2.trans q1.2.2.symm)) (by assumption) | exact absurd (hc.2.1.trans (hz.2.trans hd2.2.1.symm)) (by assumption) | omega⟩))
    exact LP_17 _ 0 (by first | omega | (intro g hg; omega)) (by first | omega | (intro g hg; omega)) (by first | omega | (intro g hg; omega)) (Nat.lt_succ_self _)
  · skip
    refine w_pushN 0 14 (by decide +kernel) ?_
    exact w_retZ (by decide +kernel) (Or.inl rfl) (hq _ (Or.inr ⟨rfl, fun hz => by first | exact absurd (q0.1.trans ((hz.1 g3 (by omega)).1.trans q1.1.symm)) (by assumption) | exact absurd (q0.2.1.trans ((hz.1 g3 (by omega)).2.1.trans q1.2.1.symm)) (by assumption) | exact absurd (q0.2.2.trans ((hz.1 g3 (by omega)).2.2.trans q1.2.2.symm)) (by assumption) | exact absurd (hc.2.1.trans (hz.2.trans hd2.2.1.symm)) (by assumption) | omega⟩))
-- X4_firstLike#s
set_option maxRecDepth 10000 in
theorem s_firstLike {d : Nat} {M : Mt} {L : Lt} {Q : Option Value → Mt → Lt → Prop} {s n h m k : Nat} {c : Row} {rd : Nat → Row} (hI : Inv M) (hf : isShelf s n) (hn : 17 ≤ n ∧ n < 2 ^ 31) (hs3 : s = 58 ∨ s = 60 ∨ s = 62) (hh : Hs h) (hm : m ≤ 60 ∧ m * 17 ≤ n) (hk : k ≤ 5) (ek : M h 2 = nI k) (hc : HE k (M (h + 1)) c) (hr : ∀ i, i < m → HE k (rowS M (s + 1) i) (rd i)) (hd : 1 ≤ d) (hq : ∀ (r : Int32), ((∃ i, i < m ∧ likeP k c (rd i) ∧ (∀ j, j < i → ¬ likeP k c (rd j)) ∧ r = nI i) ∨ ((∀ j, j < m → ¬ likeP k c (rd j)) ∧ r = -9)) → Q (some (.int r)) M L) : Wp d 57 0 [.ref s, .ref h, .int (nI m), .null] [] M L Q := by
  refine w_pushN 0 1 (by decide +kernel) ?_
  refine w_store (ls' := [.ref s, .ref h, .int (nI m), .int (nI 0)]) (.istore_n 3) 2 (by decide +kernel) rfl rfl ?_
  have LP_2 : ∀ (kk : Nat) (g3 : Nat), g3 ≤ 60 → (∀ i, i < g3 → ¬ likeP k c (rd i)) → g3 ≤ m → 60 - g3 < kk → Wp d 57 2 [.ref s, .ref h, .int (nI m), .int (nI g3)] [] M L Q := by
    intro kk
    induction kk with
    | zero => intro g3 hi0_2 hi1_2 hi2_2 hm_2; exact absurd hm_2 (Nat.not_lt_zero _)
    | succ kk ih_2 =>
      intro g3 hi0_2 hi1_2 hi2_2 hm_2
      refine w_load (.iload_n 3) 3 (by decide +kernel) rfl rfl ?_
      refine w_load (.iload_n 2) 4 (by decide +kernel) rfl rfl ?_
      refine w_cgeN 30 7 (by decide +kernel) (by omega) (by omega) (fun h1 => ?_) (fun h1 => ?_)
      · skip
        refine w_push (-9) 32 (by decide +kernel) ?_
        exact w_ret (by decide +kernel) (hq _ (Or.inr ⟨fun i hi => hi1_2 i (by omega), rfl⟩))
      · skip
        refine w_load (.aload_n 1) 8 (by decide +kernel) rfl rfl ?_
        refine w_load (.aload_n 0) 9 (by decide +kernel) rfl rfl ?_
        refine w_getR (k := 0) (r := s + 1) 12 (by decide +kernel) hf.1 rfl ?_
        refine w_load (.iload_n 3) 13 (by decide +kernel) rfl rfl ?_
        refine w_pushN 17 15 (by decide +kernel) ?_
        refine w_mulN (g3 * 17) 16 (by decide +kernel) rfl ?_
        refine w_callV2 32 1 4 19 (by decide +kernel) hh.1.1 (Nat.le_of_ble_eq_true rfl) rfl rfl (by decide) (by omega) ?_
        refine s_isLikeRow hI hh hf.2 (by omega) (by omega) (by omega) ek hc (HE17 (hr g3 (by omega))) (by omega) (fun r2 hr2 => ?_)
        dsimp only [Option.toList, List.cons_append, List.nil_append]
        rcases hr2 with ⟨rfl, hlk⟩ | ⟨rfl, hlk⟩
        · skip
          refine w_ieq 24 22 (by decide +kernel) (fun hz => absurd hz (by decide)) (fun _ => ?_)
          refine w_load (.iload_n 3) 23 (by decide +kernel) rfl rfl ?_
          exact w_ret (by decide +kernel) (hq _ (Or.inl ⟨g3, by omega, by assumption, hi1_2, rfl⟩))
        · skip
          refine w_ieq 24 22 (by decide +kernel) (fun _ => ?_) (fun hz => absurd hz (by decide))
          refine w_iincN (z := 3) (g3 + 1) 27 (by decide +kernel) rfl (Nat.le_of_ble_eq_true rfl) rfl rfl ?_
          show Wp _ _ _ [.ref s, .ref h, .int (nI m), .int (nI (g3 + 1))] _ _ _ _
          refine w_goto 2 (by decide +kernel) ?_
          exact ih_2 (g3 + 1) (by first | omega | exact lt_ext hi1_2 (by assumption)) (by first | omega | exact lt_ext hi1_2 (by assumption)) (by first | omega | exact lt_ext hi1_2 (by assumption)) (by omega)
  exact LP_2 _ 0 (by first | omega | (intro i hi; omega)) (by first | omega | (intro i hi; omega)) (by first | omega | (intro i hi; omega)) (Nat.lt_succ_self _)
-- X7_round#s
set_option maxRecDepth 10000 in
theorem s_round7 {d : Nat} {M : Mt} {L : Lt} {Q : Option Value → Mt → Lt → Prop} {n : Nat} {c pw : Row} {T : TLs} {a : Int32} (hI : Inv M) (hn : n ≤ 5) (en : M 4 2 = nI n) (hc : HE n (M 5) c) (hp : LQ n (M 6) pw) (hw : wedOk n c) (hT : tlX T M) (hd : 6 ≤ d) (hq : ∀ (r : Int32) (N : Mt), St (fun i _ => (7 ≤ i ∧ i ≤ 57) ∨ i = 63 ∨ i = 68 ∨ i = 69) M N → ((r = -1 ∧ ¬ (∃ k, k < 3 ∧ a = nI k)) ∨ (∃ t, t < 3 ∧ a = nI t ∧ frP (fun i j => likeP n (rdF n T pw t c j) (rdF n T pw t c i)) r)) → Q (some (.int r)) N L) : Wp d 94 0 [.ref 0, .int a, .null, .null] [] M L Q := by
  refine (show ∀ N : Mt, N = M → St (fun i _ => (7 ≤ i ∧ i ≤ 57) ∨ i = 63 ∨ i = 68 ∨ i = 69) M N → Wp d 94 0 [.ref 0, .int a, .null, .null] [] N L Q from ?_) M rfl (St.rf hI)
  intro N hNM hS
  have kz0 : N (4) 2 = nI n := by rw [hNM]; exact en
  refine w_load (.iload_n 1) 1 (by decide +kernel) rfl rfl ?_
  refine w_callS1 111 1 4 (by decide +kernel) (Nat.le_of_ble_eq_true rfl) rfl (by decide) (by omega) ?_
  refine k_111 hS.1  (by omega) (fun r1 hr1 => ?_)
  dsimp only [Option.toList, List.cons_append, List.nil_append]
  rcases hr1 with ⟨rfl, k2, hk2, rfl⟩ | ⟨rfl, hnok2⟩
  · skip
    refine w_ine 9 7 (by decide +kernel) (fun _ => ?_) (fun hz => absurd hz (by decide))
    refine w_load (.aload_n 0) 10 (by decide +kernel) rfl rfl ?_
    refine w_getR (k := 3) (r := 7) 13 (by decide +kernel) sh_0 rfl ?_
    refine w_load (.aload_n 0) 14 (by decide +kernel) rfl rfl ?_
    refine w_getR (k := 2) (r := 4) 17 (by decide +kernel) sh_0 rfl ?_
    refine w_callV1 8 1 2 20 (by decide +kernel) sh_7 (Nat.le_of_ble_eq_true rfl) rfl (by decide) (by omega) ?_
    refine k_8 hS.1 hs_7 hs_4 (by omega) (fun Nr4 hTr4 hr4 => ?_)
    have hS := hS.tr hTr4 (by intro i k; first | exact rfl | exact fun h => h.elim | omega | (dsimp only; omega) | (simp only [Hs, Tl, Sc, isHs, isScr, isTs] at *; omega))
    have c7 : HE n (Nr4 8) c := by rw [hr4]; exact (HE.of17 hn (fun k hk => cpH_c (o := 4) hk)).tr (by rw [hNM]; exact hc)
    have g7 : Nr4 7 2 = nI n := by rw [hr4, cpH_g]; exact (by rw [hNM]; exact en)
    have p7 : LQ n (Nr4 9) pw := by rw [hr4]; exact fun g hg => (cpH_p (by omega) (by decide)).trans ((show LQ n (N 6) pw from (by rw [hNM]; exact hp)) g hg)
    dsimp only [Option.toList, List.nil_append]
    refine w_pushN 1 21 (by decide +kernel) ?_
    refine w_store (ls' := [.ref 0, .int (nI k2), .int (nI 1), .null]) (.istore_n 2) 22 (by decide +kernel) rfl rfl ?_
    have LP_22 : ∀ (kk : Nat) (N_22 : Mt) (g2 : Nat), St (fun i _ => (7 ≤ i ∧ i ≤ 57) ∨ i = 63 ∨ i = 68 ∨ i = 69) M N_22 → g2 ≤ 61 → 1 ≤ g2 → HE n (N_22 8) (rdF n T pw k2 c (g2 - 1)) → (∀ i, i < g2 - 1 → HE n (rowS N_22 63 i) (rdF n T pw k2 c i)) → LQ n (N_22 9) pw → N_22 7 2 = nI n → (∀ j, j < g2 → ∀ i, i < j → ¬ likeP n (rdF n T pw k2 c j) (rdF n T pw k2 c i)) → 61 - g2 < kk → Wp d 94 22 [.ref 0, .int (nI k2), .int (nI g2), .null] [] N_22 L Q := by
      intro kk
      induction kk with
      | zero => intro N_22 g2 hS hi0_22 hi1_22 hi2_22 hi3_22 hi4_22 hi5_22 hi6_22 hm_22; exact absurd hm_22 (Nat.not_lt_zero _)
      | succ kk ih_22 =>
        intro N_22 g2 hS hi0_22 hi1_22 hi2_22 hi3_22 hi4_22 hi5_22 hi6_22 hm_22
        refine w_load (.iload_n 2) 23 (by decide +kernel) rfl rfl ?_
        refine w_pushN 60 25 (by decide +kernel) ?_
        refine w_cgtN 105 28 (by decide +kernel) (by omega) (by omega) (fun h5 => ?_) (fun h5 => ?_)
        · skip
          refine w_push (-9) 107 (by decide +kernel) ?_
          exact w_ret (by decide +kernel) (hq _ N_22 hS (Or.inr ⟨_, by assumption, rfl, Or.inr ⟨fun j hj i hi => hi6_22 j (by omega) i hi, rfl⟩⟩))
        · skip
          refine w_load (.aload_n 0) 29 (by decide +kernel) rfl rfl ?_
          refine w_getR (k := 9) (r := 62) 32 (by decide +kernel) sh_0 rfl ?_
          refine w_load (.iload_n 2) 33 (by decide +kernel) rfl rfl ?_
          refine w_pushN 1 34 (by decide +kernel) ?_
          refine w_subN (g2 - 1) 35 (by decide +kernel) (by omega) rfl ?_
          refine w_load (.aload_n 0) 36 (by decide +kernel) rfl rfl ?_
          refine w_getR (k := 3) (r := 7) 39 (by decide +kernel) sh_0 rfl ?_
          refine w_callV2 55 4 3 42 (by decide +kernel) sh_62 (Nat.le_of_ble_eq_true rfl) rfl rfl (by decide) (by omega) ?_
          refine s_put hS.1 shf_62 (by decide) (by omega) hs_7 (by omega) (by omega) (fun Nr6 hTr6 hr6 => ?_)
          have kn7 := (hTr6.2 (7) 2 (by (try dsimp only); first | omega | (simp only [Hs, Tl, Sc, isHs, isScr, isTs] at *; omega))).trans hi5_22
          have hS := hS.tr hTr6 (by intro i k; first | exact rfl | exact fun h => h.elim | omega | (dsimp only; omega) | (simp only [Hs, Tl, Sc, isHs, isScr, isTs] at *; omega))
          have r39 : ∀ i, i < g2 → HE n (rowS Nr6 63 i) (rdF n T pw k2 c i) := rd_put hn (by omega) hi2_22 hi3_22 hr6
          have c39 : HE n (Nr6 8) (rdF n T pw k2 c (g2 - 1)) := by rw [hTr6.row (fun k => (by (try dsimp only); first | omega | (simp only [Hs, Tl, Sc, isHs, isScr, isTs] at *; omega)))]; exact hi2_22
          have p39 : LQ n (Nr6 9) pw := by rw [hTr6.row (fun k => (by (try dsimp only); first | omega | (simp only [Hs, Tl, Sc, isHs, isScr, isTs] at *; omega)))]; exact hi4_22
          dsimp only [Option.toList, List.nil_append]
          refine w_load (.aload_n 0) 43 (by decide +kernel) rfl rfl ?_
          refine w_getR (k := 4) (r := 10) 46 (by decide +kernel) sh_0 rfl ?_
          refine w_load (.aload_n 0) 47 (by decide +kernel) rfl rfl ?_
          refine w_getR (k := 3) (r := 7) 50 (by decide +kernel) sh_0 rfl ?_
          refine w_load (.aload_n 0) 51 (by decide +kernel) rfl rfl ?_
          refine w_getR (k := 1) (r := 3) 54 (by decide +kernel) sh_0 rfl ?_
          refine w_load (.iload_n 1) 55 (by decide +kernel) rfl rfl ?_
          refine w_tale 56 (by decide +kernel) (by omega) ?_
          refine w_callV2 68 6 5 59 (by decide +kernel) sh_10 (Nat.le_of_ble_eq_true rfl) rfl rfl (by decide) (by omega) ?_
          refine s_hearAllT hS.1 tl_10 hs_7 (by omega) (by omega) kn7 c39 p39 (rd_wed hn hw (g2 - 1)) (hT.keep (fun i k h1 h2 => hS.2 i k (by (try dsimp only); first | omega | (simp only [Hs, Tl, Sc, isHs, isScr, isTs] at *; omega)))) (by omega) (fun Nr8 hTr8 hr8 => ?_)
          have kn9 := (hTr8.2 (7) 2 (by (try dsimp only); first | omega | (simp only [Hs, Tl, Sc, isHs, isScr, isTs] at *; omega))).trans kn7
          have hS := hS.tr hTr8 (by intro i k; first | exact rfl | exact fun h => h.elim | omega | (dsimp only; omega) | (simp only [Hs, Tl, Sc, isHs, isScr, isTs] at *; omega))
          obtain ⟨hSt, hGt, hPt⟩ := hr8
          have r56 : ∀ i, i < g2 → HE n (rowS Nr8 63 i) (rdF n T pw k2 c i) := fun i hi => by rw [rowS_keep (hTr8.row (fun k => (by (try dsimp only); first | omega | (simp only [Hs, Tl, Sc, isHs, isScr, isTs] at *; omega))))]; exact r39 i hi
          dsimp only [Option.toList, List.nil_append]
          refine w_load (.aload_n 0) 60 (by decide +kernel) rfl rfl ?_
          refine w_getR (k := 3) (r := 7) 63 (by decide +kernel) sh_0 rfl ?_
          refine w_load (.aload_n 0) 64 (by decide +kernel) rfl rfl ?_
          refine w_getR (k := 4) (r := 10) 67 (by decide +kernel) sh_0 rfl ?_
          refine w_getR (k := 0) (r := 11) 70 (by decide +kernel) sh_10 rfl ?_
          refine w_callV1 9 1 2 73 (by decide +kernel) sh_7 (Nat.le_of_ble_eq_true rfl) rfl (by decide) (by omega) ?_
          refine k_9 hS.1 hs_7 hs_11 (by omega) (fun Nr10 hTr10 hr10 => ?_)
          have hS := hS.tr hTr10 (by intro i k; first | exact rfl | exact fun h => h.elim | omega | (dsimp only; omega) | (simp only [Hs, Tl, Sc, isHs, isScr, isTs] at *; omega))
          have c70 : HE n (Nr10 8) (rdF n T pw k2 c g2) := rd_up (by rw [hr10]; exact dawn_row hn hSt.1) (by omega)
          have p70 : LQ n (Nr10 9) pw := by rw [hr10]; exact dawn_pw hn (by decide) hPt
          have g70 : Nr10 7 2 = nI n := by rw [hr10]; exact cpH_g'.trans hGt
          have r70 : ∀ i, i < g2 → HE n (rowS Nr10 63 i) (rdF n T pw k2 c i) := fun i hi => by rw [rowS_keep (hTr10.row (fun k => (by (try dsimp only); first | omega | (simp only [Hs, Tl, Sc, isHs, isScr, isTs] at *; omega))))]; exact r56 i hi
          dsimp only [Option.toList, List.nil_append]
          refine w_load (.aload_n 0) 74 (by decide +kernel) rfl rfl ?_
          refine w_getR (k := 9) (r := 62) 77 (by decide +kernel) sh_0 rfl ?_
          refine w_load (.aload_n 0) 78 (by decide +kernel) rfl rfl ?_
          refine w_getR (k := 3) (r := 7) 81 (by decide +kernel) sh_0 rfl ?_
          refine w_load (.iload_n 2) 82 (by decide +kernel) rfl rfl ?_
          refine w_callV2 57 4 4 85 (by decide +kernel) sh_62 (Nat.le_of_ble_eq_true rfl) rfl rfl (by decide) (by omega) ?_
          refine s_firstLike hS.1 shf_62 (by decide) (by omega) hs_7 (by omega) (by omega) g70 c70 r70 (by omega) (fun r11 hr11 => ?_)
          dsimp only [Option.toList, List.cons_append, List.nil_append]
          rcases hr11 with ⟨il, hil, hlk, hlf, rfl⟩ | ⟨hno, rfl⟩
          · skip
            refine w_store (ls' := [.ref 0, .int (nI k2), .int (nI g2), .int (nI il)]) (.istore_n 3) 86 (by decide +kernel) rfl rfl ?_
            refine w_load (.iload_n 3) 87 (by decide +kernel) rfl rfl ?_
            refine w_push (-9) 89 (by decide +kernel) ?_
            refine w_ceq 99 92 (by decide +kernel) (fun h12 => ?_) (fun h12 => ?_)
            · skip
              exact absurd h12 (nI_m9' (by omega))
            · skip
              refine w_pushN 100 94 (by decide +kernel) ?_
              refine w_load (.iload_n 3) 95 (by decide +kernel) rfl rfl ?_
              refine w_mulN (100 * il) 96 (by decide +kernel) rfl ?_
              refine w_load (.iload_n 2) 97 (by decide +kernel) rfl rfl ?_
              refine w_addN (100 * il + g2) 98 (by decide +kernel) (by omega) ?_
              exact w_ret (by decide +kernel) (hq _ Nr10 hS (Or.inr ⟨_, by assumption, rfl, Or.inl ⟨g2, il, by omega, hil, hlk, hlf, hi6_22, rfl⟩⟩))
          · skip
            refine w_store (ls' := [.ref 0, .int (nI k2), .int (nI g2), .int (-9)]) (.istore_n 3) 86 (by decide +kernel) rfl rfl ?_
            refine w_load (.iload_n 3) 87 (by decide +kernel) rfl rfl ?_
            refine w_push (-9) 89 (by decide +kernel) ?_
            refine w_ceq 99 92 (by decide +kernel) (fun _ => ?_) (fun hz => absurd hz (by decide))
            refine w_iincN (z := 2) (g2 + 1) 102 (by decide +kernel) rfl (Nat.le_of_ble_eq_true rfl) rfl rfl ?_
            show Wp _ _ _ [.ref 0, .int (nI k2), .int (nI (g2 + 1)), .int (-9)] _ _ _ _
            refine w_goto 22 (by decide +kernel) ?_
            refine Wp.forget (ls := [.ref 0, .int (nI k2), .int (nI (g2 + 1)), .null]) ⟨Or.inl rfl, Or.inl rfl, Or.inl rfl, Or.inr ⟨rfl, rfl⟩, trivial⟩ ?_
            exact ih_22 Nr10 (g2 + 1) hS (by first | omega | assumption | exact lt_ext hi6_22 hno | (rw [Nat.add_sub_cancel]; assumption)) (by first | omega | assumption | exact lt_ext hi6_22 hno | (rw [Nat.add_sub_cancel]; assumption)) (by first | omega | assumption | exact lt_ext hi6_22 hno | (rw [Nat.add_sub_cancel]; assumption)) (by first | omega | assumption | exact lt_ext hi6_22 hno | (rw [Nat.add_sub_cancel]; assumption)) (by first | omega | assumption | exact lt_ext hi6_22 hno | (rw [Nat.add_sub_cancel]; assumption)) (by first | omega | assumption | exact lt_ext hi6_22 hno | (rw [Nat.add_sub_cancel]; assumption)) (by first | omega | assumption | exact lt_ext hi6_22 hno | (rw [Nat.add_sub_cancel]; assumption)) (by omega)
    exact LP_22 _ Nr4 1 hS (by first | omega | assumption | exact c7 | (intro i hi; omega) | (intro j hj i hi; omega)) (by first | omega | assumption | exact c7 | (intro i hi; omega) | (intro j hj i hi; omega)) (by first | omega | assumption | exact c7 | (intro i hi; omega) | (intro j hj i hi; omega)) (by first | omega | assumption | exact c7 | (intro i hi; omega) | (intro j hj i hi; omega)) (by first | omega | assumption | exact c7 | (intro i hi; omega) | (intro j hj i hi; omega)) (by first | omega | assumption | exact c7 | (intro i hi; omega) | (intro j hj i hi; omega)) (by first | omega | assumption | exact c7 | (intro i hi; omega) | (intro j hj i hi; omega)) (Nat.lt_succ_self _)
  · skip
    refine w_ine 9 7 (by decide +kernel) (fun hz => absurd hz (by decide)) (fun _ => ?_)
    refine w_push (-1) 8 (by decide +kernel) ?_
    exact w_ret (by decide +kernel) (hq _ N hS (Or.inl ⟨rfl, by assumption⟩))
