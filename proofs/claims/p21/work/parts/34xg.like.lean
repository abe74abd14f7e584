-- X7_firstNameOf#n
set_option maxRecDepth 10000 in
theorem s_fstN {d : Nat} {M : Mt} {L : Lt} {Q : Option Value → Mt → Lt → Prop} {a : Nat} (hI : Inv M) (ha : a < 64) (hd : 0 ≤ d) (hq : ∀ (r : Int32), (r = nI (a / 4 % 4)) → Q (some (.int r)) M L) : Wp d 118 0 [.int (nI a)] [] M L Q := by
  refine w_load (.iload_n 0) 1 (by decide +kernel) rfl rfl ?_
  refine w_pushN 4 2 (by decide +kernel) ?_
  refine w_divN (a / 4) 3 (by decide +kernel) (by decide) (by decide) (by omega) rfl ?_
  refine w_pushN 4 4 (by decide +kernel) ?_
  refine w_remN (((a / 4)) % 4) 5 (by decide +kernel) (by decide) (by decide) (by omega) rfl ?_
  exact w_ret (by decide +kernel) (hq _ rfl)
-- X7_secondNameOf#n
set_option maxRecDepth 10000 in
theorem s_sndN {d : Nat} {M : Mt} {L : Lt} {Q : Option Value → Mt → Lt → Prop} {a : Nat} (hI : Inv M) (ha : a < 64) (hd : 0 ≤ d) (hq : ∀ (r : Int32), (r = nI (a % 4)) → Q (some (.int r)) M L) : Wp d 119 0 [.int (nI a)] [] M L Q := by
  refine w_load (.iload_n 0) 1 (by decide +kernel) rfl rfl ?_
  refine w_pushN 4 2 (by decide +kernel) ?_
  refine w_remN (a % 4) 3 (by decide +kernel) (by decide) (by decide) (by omega) rfl ?_
  exact w_ret (by decide +kernel) (hq _ rfl)
-- X1_isLikeRow#s
set_option maxRecDepth 10000 in
theorem s_isLikeRow {d : Nat} {M : Mt} {L : Lt} {Q : Option Value → Mt → Lt → Prop} {h a n i m : Nat} {c e : Row} (hI : Inv M) (hh : Hs h) (ha : shp[a]? = some (100, List.replicate n 0)) (hn : 17 ≤ n ∧ n < 2 ^ 31) (hi : i + 17 ≤ n) (hm : m ≤ 5) (em : M h 2 = nI m) (hc : HE m (M (h + 1)) c) (hd2 : HE m (fun k => M a (i + k)) e) (hd : 0 ≤ d) (hq : ∀ (r : Int32), ((r = 1 ∧ likeP m c e) ∨ (r = 0 ∧ ¬ likeP m c e)) → Q (some (.int r)) M L) : Wp d 32 0 [.ref h, .ref a, .int (nI i), .null] [] M L Q := by
  refine w_load (.iload_n 2) 1 (by decide +kernel) rfl rfl ?_
  refine w_iltN 13 4 (by decide +kernel) (by omega) ?_
  refine w_load (.iload_n 2) 5 (by decide +kernel) rfl rfl ?_
  refine w_load (.aload_n 1) 6 (by decide +kernel) rfl rfl ?_
  refine w_alen (nI n) 7 (by decide +kernel) ha (by decide) (by first | rfl | simp [nI]) ?_
  refine w_pushN 17 9 (by decide +kernel) ?_
  refine w_subN (n - 17) 10 (by decide +kernel) (by omega) rfl ?_
  refine w_cleN 15 13 (by decide +kernel) (by omega) (by omega) (fun h2 => ?_) (fun h2 => ?_)
  · skip
    refine w_pushN 0 16 (by decide +kernel) ?_
    refine w_store (ls' := [.ref h, .ref a, .int (nI i), .int (nI 0)]) (.istore_n 3) 17 (by decide +kernel) rfl rfl ?_
    have LP_17 : ∀ (kk : Nat) (g3 : Nat), g3 ≤ 5 → (∀ g, g < g3 → c g = e g ∧ c (5 + g) = e (5 + g) ∧ c (10 + g) = e (10 + g)) → g3 ≤ m → 5 - g3 < kk → Wp d 32 17 [.ref h, .ref a, .int (nI i), .int (nI g3)] [] M L Q := by
      intro kk
      induction kk with
      | zero => intro g3 hi0_17 hi1_17 hi2_17 hm_17; exact absurd hm_17 (Nat.not_lt_zero _)
      | succ kk ih_17 =>
        intro g3 hi0_17 hi1_17 hi2_17 hm_17
        refine w_load (.iload_n 3) 18 (by decide +kernel) rfl rfl ?_
        refine w_load (.aload_n 0) 19 (by decide +kernel) rfl rfl ?_
        refine w_getK (k := 2) 22 (by decide +kernel) hh.1.1 rfl em ?_
        refine w_cgeN 89 25 (by decide +kernel) (by omega) (by omega) (fun h3 => ?_) (fun h3 => ?_)
        · skip
          refine w_load (.aload_n 0) 90 (by decide +kernel) rfl rfl ?_
          refine w_getR (k := 0) (r := h + 1) 93 (by decide +kernel) hh.1.1 rfl ?_
          refine w_pushN 15 95 (by decide +kernel) ?_
          refine w_ialdN 96 (by decide +kernel) hh.1.2.1 (by omega) (by omega) ?_
          refine w_load (.aload_n 1) 97 (by decide +kernel) rfl rfl ?_
          refine w_load (.iload_n 2) 98 (by decide +kernel) rfl rfl ?_
          refine w_pushN 15 100 (by decide +kernel) ?_
          refine w_addN (i + 15) 101 (by decide +kernel) (by omega) ?_
          refine w_ialdN 102 (by decide +kernel) ha (by omega) (by omega) ?_
          refine w_cne 109 105 (by decide +kernel) (fun h4 => ?_) (fun h4 => ?_)
          · skip
            refine w_pushN 0 110 (by decide +kernel) ?_
            exact w_retZ (by decide +kernel) (Or.inl rfl) (hq _ (Or.inr ⟨rfl, fun hz => by first | exact absurd (q0.1.trans ((hz.1 g3 (by omega)).1.trans q1.1.symm)) (by assumption) | exact absurd (q0.2.1.trans ((hz.1 g3 (by omega)).2.1.trans q1.2.1.symm)) (by assumption) | exact absurd (q0.2.2.trans ((hz.1 g3 (by omega)).2.2.trans q1.2.2.symm)) (by assumption) | exact absurd (hc.2.1.trans (hz.2.trans hd2.2.1.symm)) (by assumption) | omega⟩))
          · skip
            refine w_pushN 1 106 (by decide +kernel) ?_
            refine w_goto 110 (by decide +kernel) ?_
            exact w_retZ (by decide +kernel) (Or.inr rfl) (hq _ (Or.inl ⟨rfl, fun g hg => hi1_17 g (by omega), hc.2.1.symm.trans ((show M (h + 1) 15 = M a (i + 15) by assumption).trans hd2.2.1)⟩))
        · skip
          have q0 := hc.1 g3 (by omega)
          have q1 : M a (i + g3) = e g3 ∧ M a (i + 5 + g3) = e (5 + g3) ∧ M a (i + 10 + g3) = e (10 + g3) := by rw [Nat.add_assoc i 5 g3, Nat.add_assoc i 10 g3]; exact hd2.1 g3 (by omega)
          refine w_load (.aload_n 0) 26 (by decide +kernel) rfl rfl ?_
          refine w_getR (k := 0) (r := h + 1) 29 (by decide +kernel) hh.1.1 rfl ?_
          refine w_pushN 0 30 (by decide +kernel) ?_
          refine w_load (.iload_n 3) 31 (by decide +kernel) rfl rfl ?_
          refine w_addN g3 32 (by decide +kernel) (by omega) ?_
          refine w_ialdN 33 (by decide +kernel) hh.1.2.1 (by omega) (by omega) ?_
          refine w_load (.aload_n 1) 34 (by decide +kernel) rfl rfl ?_
          refine w_load (.iload_n 2) 35 (by decide +kernel) rfl rfl ?_
          refine w_pushN 0 36 (by decide +kernel) ?_
          refine w_addN i 37 (by decide +kernel) (by omega) ?_
          refine w_load (.iload_n 3) 38 (by decide +kernel) rfl rfl ?_
          refine w_addN (i + g3) 39 (by decide +kernel) (by omega) ?_
          refine w_ialdN 40 (by decide +kernel) ha (by omega) (by omega) ?_
          refine w_cne 81 43 (by decide +kernel) (fun h5 => ?_) (fun h5 => ?_)
          · skip
            refine w_pushN 0 82 (by decide +kernel) ?_
            exact w_retZ (by decide +kernel) (Or.inl rfl) (hq _ (Or.inr ⟨rfl, fun hz => by first | exact absurd (q0.1.trans ((hz.1 g3 (by omega)).1.trans q1.1.symm)) (by assumption) | exact absurd (q0.2.1.trans ((hz.1 g3 (by omega)).2.1.trans q1.2.1.symm)) (by assumption) | exact absurd (q0.2.2.trans ((hz.1 g3 (by omega)).2.2.trans q1.2.2.symm)) (by assumption) | exact absurd (hc.2.1.trans (hz.2.trans hd2.2.1.symm)) (by assumption) | omega⟩))
          · skip
            refine w_load (.aload_n 0) 44 (by decide +kernel) rfl rfl ?_
            refine w_getR (k := 0) (r := h + 1) 47 (by decide +kernel) hh.1.1 rfl ?_
            refine w_pushN 5 48 (by decide +kernel) ?_
            refine w_load (.iload_n 3) 49 (by decide +kernel) rfl rfl ?_
            refine w_addN (5 + g3) 50 (by decide +kernel) (by omega) ?_
            refine w_ialdN 51 (by decide +kernel) hh.1.2.1 (by omega) (by omega) ?_
            refine w_load (.aload_n 1) 52 (by decide +kernel) rfl rfl ?_
            refine w_load (.iload_n 2) 53 (by decide +kernel) rfl rfl ?_
            refine w_pushN 5 54 (by decide +kernel) ?_
            refine w_addN (i + 5) 55 (by decide +kernel) (by omega) ?_
            refine w_load (.iload_n 3) 56 (by decide +kernel) rfl rfl ?_
            refine w_addN (i + 5 + g3) 57 (by decide +kernel) (by omega) ?_
            refine w_ialdN 58 (by decide +kernel) ha (by omega) (by omega) ?_
            refine w_cne 81 61 (by decide +kernel) (fun h6 => ?_) (fun h6 => ?_)
            · skip
              refine w_pushN 0 82 (by decide +kernel) ?_
              exact w_retZ (by decide +kernel) (Or.inl rfl) (hq _ (Or.inr ⟨rfl, fun hz => by first | exact absurd (q0.1.trans ((hz.1 g3 (by omega)).1.trans q1.1.symm)) (by assumption) | exact absurd (q0.2.1.trans ((hz.1 g3 (by omega)).2.1.trans q1.2.1.symm)) (by assumption) | exact absurd (q0.2.2.trans ((hz.1 g3 (by omega)).2.2.trans q1.2.2.symm)) (by assumption) | exact absurd (hc.2.1.trans (hz.2.trans hd2.2.1.symm)) (by assumption) | omega⟩))
            · skip
              refine w_load (.aload_n 0) 62 (by decide +kernel) rfl rfl ?_
              refine w_getR (k := 0) (r := h + 1) 65 (by decide +kernel) hh.1.1 rfl ?_
              refine w_pushN 10 67 (by decide +kernel) ?_
              refine w_load (.iload_n 3) 68 (by decide +kernel) rfl rfl ?_
              refine w_addN (10 + g3) 69 (by decide +kernel) (by omega) ?_
              refine w_ialdN 70 (by decide +kernel) hh.1.2.1 (by omega) (by omega) ?_
              refine w_load (.aload_n 1) 71 (by decide +kernel) rfl rfl ?_
              refine w_load (.iload_n 2) 72 (by decide +kernel) rfl rfl ?_
              refine w_pushN 10 74 (by decide +kernel) ?_
              refine w_addN (i + 10) 75 (by decide +kernel) (by omega) ?_
              refine w_load (.iload_n 3) 76 (by decide +kernel) rfl rfl ?_
              refine w_addN (i + 10 + g3) 77 (by decide +kernel) (by omega) ?_
              refine w_ialdN 78 (by decide +kernel) ha (by omega) (by omega) ?_
              refine w_ceq 83 81 (by decide +kernel) (fun h7 => ?_) (fun h7 => ?_)
              · skip
                refine w_iincN (z := 3) (g3 + 1) 86 (by decide +kernel) rfl (Nat.le_of_ble_eq_true rfl) rfl rfl ?_
                show Wp _ _ _ [.ref h, .ref a, .int (nI i), .int (nI (g3 + 1))] _ _ _ _
                refine w_goto 17 (by decide +kernel) ?_
                exact ih_17 (g3 + 1) (by first | omega | exact lt_ext hi1_17 ⟨q0.1.symm.trans ((show M (h + 1) g3 = M a (i + g3) by assumption).trans q1.1), q0.2.1.symm.trans ((show M (h + 1) (5 + g3) = M a (i + 5 + g3) by assumption).trans q1.2.1), q0.2.2.symm.trans ((show M (h + 1) (10 + g3) = M a (i + 10 + g3) by assumption).trans q1.2.2)⟩) (by first | omega | exact lt_ext hi1_17 ⟨q0.1.symm.trans ((show M (h + 1) g3 = M a (i + g3) by assumption).trans q1.1), q0.2.1.symm.trans ((show M (h + 1) (5 + g3) = M a (i + 5 + g3) by assumption).trans q1.2.1), q0.2.2.symm.trans ((show M (h + 1) (10 + g3) = M a (i + 10 + g3) by assumption).trans q1.2.2)⟩) (by first | omega | exact lt_ext hi1_17 ⟨q0.1.symm.trans ((show M (h + 1) g3 = M a (i + g3) by assumption).trans q1.1), q0.2.1.symm.trans ((show M (h + 1) (5 + g3) = M a (i + 5 + g3) by assumption).trans q1.2.1), q0.2.2.symm.trans ((show M (h + 1) (10 + g3) = M a (i + 10 + g3) by assumption).trans q1.2.2)⟩) (by omega)
              · skip
                refine w_pushN 0 82 (by decide +kernel) ?_
                exact w_retZ (by decide +kernel) (Or.inl rfl) (hq _ (Or.inr ⟨rfl, fun hz => by first | exact absurd (q0.1.trans ((hz.1 g3 (by omega)).1.trans q1.1.symm)) (by assumption) | exact absurd (q0.2.1.trans ((hz.1 g3 (by omega)).2.1.trans q1.2.1.symm)) (by assumption) | exact absurd (q0.2.2.trans ((hz.1 g3 (by omega)).2.2.trans q1.2.2.symm)) (by assumption) | exact absurd (hc.2.1.trans (hz.2.trans hd2.2.1.symm)) (by assumption) | omega⟩))
    exact LP_17 _ 0 (by first | omega | (intro g hg; omega)) (by first | omega | (intro g hg; omega)) (by first | omega | (intro g hg; omega)) (Nat.lt_succ_self _)
  · skip
    refine w_pushN 0 14 (by decide +kernel) ?_
    exact w_retZ (by decide +kernel) (Or.inl rfl) (hq _ (Or.inr ⟨rfl, fun hz => by first | exact absurd (q0.1.trans ((hz.1 g3 (by omega)).1.trans q1.1.symm)) (by assumption) | exact absurd (q0.2.1.trans ((hz.1 g3 (by omega)).2.1.trans q1.2.1.symm)) (by assumption) | exact absurd (q0.2.2.trans ((hz.1 g3 (by omega)).2.2.trans q1.2.2.symm)) (by assumption) | exact absurd (hc.2.1.trans (hz.2.trans hd2.2.1.symm)) (by assumption) | omega⟩))
-- X1_isLike#s
set_option maxRecDepth 10000 in
theorem s_isLike {d : Nat} {M : Mt} {L : Lt} {Q : Option Value → Mt → Lt → Prop} {h o n : Nat} {c e : Row} (hI : Inv M) (hh : Hs h) (ho : Hs o) (hn : n ≤ 5) (en : M h 2 = nI n) (en2 : M o 2 = nI n) (hc : HE n (M (h + 1)) c) (hd2 : HE n (M (o + 1)) e) (hd : 1 ≤ d) (hq : ∀ (r : Int32), ((r = 1 ∧ likeP n c e) ∨ (r = 0 ∧ ¬ likeP n c e)) → Q (some (.int r)) M L) : Wp d 31 0 [.ref h, .ref o] [] M L Q := by
  refine w_load (.aload_n 0) 1 (by decide +kernel) rfl rfl ?_
  refine w_getK (k := 2) 4 (by decide +kernel) hh.1.1 rfl en ?_
  refine w_load (.aload_n 1) 5 (by decide +kernel) rfl rfl ?_
  refine w_getK (k := 2) 8 (by decide +kernel) ho.1.1 rfl en2 ?_
  refine w_cneN 27 11 (by decide +kernel) (by omega) (by omega) (fun h1 => ?_) (fun h1 => ?_)
  · skip
    refine w_pushN 0 28 (by decide +kernel) ?_
    exact w_retZ (by decide +kernel) (Or.inl rfl) (hq _ (Or.inr ⟨rfl, by first | assumption | omega⟩))
  · skip
    refine w_load (.aload_n 0) 12 (by decide +kernel) rfl rfl ?_
    refine w_load (.aload_n 1) 13 (by decide +kernel) rfl rfl ?_
    refine w_getR (k := 0) (r := o + 1) 16 (by decide +kernel) ho.1.1 rfl ?_
    refine w_pushN 0 17 (by decide +kernel) ?_
    refine w_callV2 32 1 4 20 (by decide +kernel) hh.1.1 (Nat.le_of_ble_eq_true rfl) rfl rfl (by decide) (by omega) ?_
    refine s_isLikeRow hI hh ho.1.2.1 (by omega) (by omega) (by omega) en hc (HE0 hd2) (by omega) (fun r2 hr2 => ?_)
    dsimp only [Option.toList, List.cons_append, List.nil_append]
    rcases hr2 with ⟨rfl, hlk⟩ | ⟨rfl, hlk⟩
    · skip
      refine w_ieq 27 23 (by decide +kernel) (fun hz => absurd hz (by decide)) (fun _ => ?_)
      refine w_pushN 1 24 (by decide +kernel) ?_
      refine w_goto 28 (by decide +kernel) ?_
      exact w_retZ (by decide +kernel) (Or.inr rfl) (hq _ (Or.inl ⟨rfl, by assumption⟩))
    · skip
      refine w_ieq 27 23 (by decide +kernel) (fun _ => ?_) (fun hz => absurd hz (by decide))
      refine w_pushN 0 28 (by decide +kernel) ?_
      exact w_retZ (by decide +kernel) (Or.inl rfl) (hq _ (Or.inr ⟨rfl, by first | assumption | omega⟩))
-- X7_isProverb#s
set_option maxRecDepth 10000 in
theorem s_isProverb {d : Nat} {M : Mt} {L : Lt} {Q : Option Value → Mt → Lt → Prop} {t : Nat} {n : Nat} {c pw : Row} {T : TLs}  (hI : Inv M) (hn : n ≤ 5) (en : M 4 2 = nI n) (hc : HE n (M 5) c) (hp : LQ n (M 6) pw) (hw : wedOk n c) (hT : tlX T M) (ht : t < 3) (hd : 4 ≤ d) (hq : ∀ (r : Int32), ((r = 1 ∧ ∀ p, p < nD T t → prvP n T t c p) ∨ (r = 0 ∧ ¬ ∀ p, p < nD T t → prvP n T t c p)) → Q (some (.int r)) M L) : Wp d 125 0 [.ref 0, .ref (70 + 2 * t), .null, .null, .null, .null] [] M L Q := by
  refine w_load (.aload_n 0) 1 (by decide +kernel) rfl rfl ?_
  refine w_getR (k := 2) (r := 4) 4 (by decide +kernel) sh_0 rfl ?_
  refine w_callV0 25 1 3 7 (by decide +kernel) sh_4 (Nat.le_of_ble_eq_true rfl)  (by decide) (by omega) ?_
  refine s_namesBorne hI hs_4 (by omega) en hc (by omega) (fun r1 hr1 => ?_)
  dsimp only [Option.toList, List.cons_append, List.nil_append]
  rcases hr1 with rfl
  · skip
    refine w_topi (fun v2 ev2 => ?_)
    refine w_store (ls' := [.ref 0, .ref (70 + 2 * t), .int v2, .null, .null, .null]) (.istore_n 2) 8 (by decide +kernel) rfl rfl ?_
    have eb := ev2
    refine w_load (.aload_n 1) 9 (by decide +kernel) rfl rfl ?_
    refine w_callV0 43 2 1 12 (by decide +kernel) (sc_tale t ht).1.1 (Nat.le_of_ble_eq_true rfl)  (by decide) (by omega) ?_
    refine s_wholeT hI (by omega) hT (by omega) (fun r3 hr3 => ?_)
    dsimp only [Option.toList, List.cons_append, List.nil_append]
    rcases hr3 with rfl
    · skip
      have hndr3 := nD_x hT (show t < 3 by omega)
      refine w_store (ls' := [.ref 0, .ref (70 + 2 * t), .int v2, .int (nI ((nD T t))), .null, .null]) (.istore_n 3) 13 (by decide +kernel) rfl rfl ?_
      refine w_pushN 0 14 (by decide +kernel) ?_
      refine w_store (ls' := [.ref 0, .ref (70 + 2 * t), .int v2, .int (nI ((nD T t))), .int (nI 0), .null]) (.istore 4) 16 (by decide +kernel) rfl rfl ?_
      have LP_16 : ∀ (kk : Nat) (g4 : Nat), g4 ≤ 8 → (∀ p, p < g4 → prvP n T t c p) → 8 - g4 < kk → Wp d 125 16 [.ref 0, .ref (70 + 2 * t), .int v2, .int (nI ((nD T t))), .int (nI g4), .null] [] M L Q := by
        intro kk
        induction kk with
        | zero => intro g4 hi0_16 hi1_16 hm_16; exact absurd hm_16 (Nat.not_lt_zero _)
        | succ kk ih_16 =>
          intro g4 hi0_16 hi1_16 hm_16
          refine w_load (.iload 4) 18 (by decide +kernel) rfl rfl ?_
          refine w_load (.iload_n 3) 19 (by decide +kernel) rfl rfl ?_
          refine w_cgeN 62 22 (by decide +kernel) (by omega) (by omega) (fun h4 => ?_) (fun h4 => ?_)
          · skip
            refine w_pushN 1 63 (by decide +kernel) ?_
            exact w_retZ (by decide +kernel) (Or.inr rfl) (hq _ (Or.inl ⟨rfl, fun p hp => hi1_16 p (by omega)⟩))
          · skip
            refine w_load (.aload_n 1) 23 (by decide +kernel) rfl rfl ?_
            refine w_load (.iload 4) 25 (by decide +kernel) rfl rfl ?_
            refine w_callV1 44 2 4 28 (by decide +kernel) (sc_tale t ht).1.1 (Nat.le_of_ble_eq_true rfl) rfl (by decide) (by omega) ?_
            refine s_deedAtT hI (by omega) hT (by omega) (by omega) (fun r5 hr5 => ?_)
            dsimp only [Option.toList, List.cons_append, List.nil_append]
            rcases hr5 with rfl
            · skip
              have hdnr5 := dn_num (T := T) (t := t) (p := g4) (by omega)
              have hdbr5 := hdnr5.2
              refine w_store (ls' := [.ref 0, .ref (70 + 2 * t), .int v2, .int (nI ((nD T t))), .int (nI g4), .int (nI ((dnum T t g4)))]) (.istore 5) 30 (by decide +kernel) rfl rfl ?_
              refine w_load (.iload_n 2) 31 (by decide +kernel) rfl rfl ?_
              refine w_load (.iload 5) 33 (by decide +kernel) rfl rfl ?_
              refine w_callS1 118 1 36 (by decide +kernel) (Nat.le_of_ble_eq_true rfl) rfl (by decide) (by omega) ?_
              refine s_fstN hI (by omega) (by omega) (fun r6 hr6 => ?_)
              dsimp only [Option.toList, List.cons_append, List.nil_append]
              rcases hr6 with rfl
              · skip
                refine w_callS2 115 2 39 (by decide +kernel) (Nat.le_of_ble_eq_true rfl) rfl rfl (by decide) (by omega) ?_
                refine s_holds hI (by omega) (by omega) (fun r7 hr7 => ?_)
                dsimp only [Option.toList, List.cons_append, List.nil_append]
                rcases hr7 with ⟨rfl, htr7⟩ | ⟨rfl, htr7⟩
                · skip
                  refine w_ine 54 42 (by decide +kernel) (fun _ => ?_) (fun hz => absurd hz (by decide))
                  refine w_pushN 0 55 (by decide +kernel) ?_
                  exact w_retZ (by decide +kernel) (Or.inl rfl) (hq _ (Or.inr ⟨rfl, fun hz => by first | exact absurd (hz g4 (by omega)).1 (nms_t (by omega) (by rw [← eb]; assumption)) | exact absurd (hz g4 (by omega)).2 (nms_t (by omega) (by rw [← eb]; assumption))⟩))
                · skip
                  refine w_ine 54 42 (by decide +kernel) (fun hz => absurd hz (by decide)) (fun _ => ?_)
                  refine w_load (.iload_n 2) 43 (by decide +kernel) rfl rfl ?_
                  refine w_load (.iload 5) 45 (by decide +kernel) rfl rfl ?_
                  refine w_callS1 119 1 48 (by decide +kernel) (Nat.le_of_ble_eq_true rfl) rfl (by decide) (by omega) ?_
                  refine s_sndN hI (by omega) (by omega) (fun r10 hr10 => ?_)
                  dsimp only [Option.toList, List.cons_append, List.nil_append]
                  rcases hr10 with rfl
                  · skip
                    refine w_callS2 115 2 51 (by decide +kernel) (Nat.le_of_ble_eq_true rfl) rfl rfl (by decide) (by omega) ?_
                    refine s_holds hI (by omega) (by omega) (fun r11 hr11 => ?_)
                    dsimp only [Option.toList, List.cons_append, List.nil_append]
                    rcases hr11 with ⟨rfl, htr11⟩ | ⟨rfl, htr11⟩
                    · skip
                      refine w_ieq 56 54 (by decide +kernel) (fun hz => absurd hz (by decide)) (fun _ => ?_)
                      refine w_pushN 0 55 (by decide +kernel) ?_
                      exact w_retZ (by decide +kernel) (Or.inl rfl) (hq _ (Or.inr ⟨rfl, fun hz => by first | exact absurd (hz g4 (by omega)).1 (nms_t (by omega) (by rw [← eb]; assumption)) | exact absurd (hz g4 (by omega)).2 (nms_t (by omega) (by rw [← eb]; assumption))⟩))
                    · skip
                      refine w_ieq 56 54 (by decide +kernel) (fun _ => ?_) (fun hz => absurd hz (by decide))
                      refine w_iincN (z := 4) (g4 + 1) 59 (by decide +kernel) rfl (Nat.le_of_ble_eq_true rfl) rfl rfl ?_
                      show Wp _ _ _ [.ref 0, .ref (70 + 2 * t), .int v2, .int (nI ((nD T t))), .int (nI (g4 + 1)), .int (nI ((dnum T t g4)))] _ _ _ _
                      refine w_goto 16 (by decide +kernel) ?_
                      refine Wp.forget (ls := [.ref 0, .ref (70 + 2 * t), .int v2, .int (nI ((nD T t))), .int (nI (g4 + 1)), .null]) ⟨Or.inl rfl, Or.inl rfl, Or.inl rfl, Or.inl rfl, Or.inl rfl, Or.inr ⟨rfl, rfl⟩, trivial⟩ ?_
                      exact ih_16 (g4 + 1) (by first | omega | exact lt_ext hi1_16 ⟨nms_f (by omega) (by rw [← eb]; assumption), nms_f (by omega) (by rw [← eb]; assumption)⟩) (by first | omega | exact lt_ext hi1_16 ⟨nms_f (by omega) (by rw [← eb]; assumption), nms_f (by omega) (by rw [← eb]; assumption)⟩) (by omega)
      exact LP_16 _ 0 (by first | omega | (intro p hp; omega)) (by first | omega | (intro p hp; omega)) (Nat.lt_succ_self _)
-- X7_kinds#s
set_option maxRecDepth 10000 in
theorem s_kinds7 {d : Nat} {M : Mt} {L : Lt} {Q : Option Value → Mt → Lt → Prop} {n : Nat} {c pw : Row} {T : TLs} {a : Int32} (hI : Inv M) (hn : n ≤ 5) (en : M 4 2 = nI n) (hc : HE n (M 5) c) (hp : LQ n (M 6) pw) (hw : wedOk n c) (hT : tlX T M) (hd : 6 ≤ d) (hq : ∀ (r : Int32) (N : Mt), St (fun i _ => (7 ≤ i ∧ i ≤ 57) ∨ i = 63 ∨ i = 68 ∨ i = 69) M N → ((r = -1 ∧ ¬ (∃ k, k < 3 ∧ a = nI k)) ∨ (∃ t, t < 3 ∧ a = nI t ∧ kndP (∀ p, p < nD T t → prvP n T t c p) (fltT T t = nI (T t).1) (likeP n (TL n T pw t c).1 c) (¬ deadI n (TL n T pw t c).1 = deadI n c) (0 < (TL n T pw t c).2.2.1) r)) → Q (some (.int r)) N L) : Wp d 95 0 [.ref 0, .int a, .null, .null] [] M L Q := by
  refine (show ∀ N : Mt, N = M → St (fun i _ => (7 ≤ i ∧ i ≤ 57) ∨ i = 63 ∨ i = 68 ∨ i = 69) M N → Wp d 95 0 [.ref 0, .int a, .null, .null] [] N L Q from ?_) M rfl (St.rf hI)
  intro N hNM hS
  have kz0 : N (4) 2 = nI n := by rw [hNM]; exact en
  refine w_load (.iload_n 1) 1 (by decide +kernel) rfl rfl ?_
  refine w_callS1 111 1 4 (by decide +kernel) (Nat.le_of_ble_eq_true rfl) rfl (by decide) (by omega) ?_
  refine k_111 hS.1  (by omega) (fun r1 hr1 => ?_)
  dsimp only [Option.toList, List.cons_append, List.nil_append]
  rcases hr1 with ⟨rfl, k2, hk2, rfl⟩ | ⟨rfl, hnok2⟩
  · skip
    refine w_ine 9 7 (by decide +kernel) (fun _ => ?_) (fun hz => absurd hz (by decide))
    refine w_load (.aload_n 0) 10 (by decide +kernel) rfl rfl ?_
    refine w_getR (k := 1) (r := 3) 13 (by decide +kernel) sh_0 rfl ?_
    refine w_load (.iload_n 1) 14 (by decide +kernel) rfl rfl ?_
    refine w_tale 15 (by decide +kernel) (by omega) ?_
    refine w_store (ls' := [.ref 0, .int (nI k2), .ref (70 + 2 * k2), .null]) (.astore_n 2) 16 (by decide +kernel) rfl rfl ?_
    refine w_load (.aload_n 0) 17 (by decide +kernel) rfl rfl ?_
    refine w_getR (k := 4) (r := 10) 20 (by decide +kernel) sh_0 rfl ?_
    refine w_load (.aload_n 0) 21 (by decide +kernel) rfl rfl ?_
    refine w_getR (k := 2) (r := 4) 24 (by decide +kernel) sh_0 rfl ?_
    refine w_load (.aload_n 2) 25 (by decide +kernel) rfl rfl ?_
    refine w_callV2 68 6 5 28 (by decide +kernel) sh_10 (Nat.le_of_ble_eq_true rfl) rfl rfl (by decide) (by omega) ?_
    refine s_hearAllT hS.1 tl_10 hs_4 (by omega) (by omega) kz0 (by rw [hNM]; exact hc) (by rw [hNM]; exact hp) hw (hT.keep (fun i k h1 h2 => hS.2 i k (by (try dsimp only); first | omega | (simp only [Hs, Tl, Sc, isHs, isScr, isTs] at *; omega)))) (by omega) (fun Nr4 hTr4 hr4 => ?_)
    have kn5 := (hTr4.2 (4) 2 (by (try dsimp only); first | omega | (simp only [Hs, Tl, Sc, isHs, isScr, isTs] at *; omega))).trans kz0
    have hS := hS.tr hTr4 (by intro i k; first | exact rfl | exact fun h => h.elim | omega | (dsimp only; omega) | (simp only [Hs, Tl, Sc, isHs, isScr, isTs] at *; omega))
    obtain ⟨hSt, hGt, hPt⟩ := hr4
    have hz24 := (hT k2 (by omega)).1
    dsimp only [Option.toList, List.nil_append]
    refine w_load (.aload_n 0) 29 (by decide +kernel) rfl rfl ?_
    refine w_load (.aload_n 2) 30 (by decide +kernel) rfl rfl ?_
    refine w_callV1 125 7 6 33 (by decide +kernel) sh_0 (Nat.le_of_ble_eq_true rfl) rfl (by decide) (by omega) ?_
    refine s_isProverb hS.1 (by omega) kn5 (by rw [hS.row (x := 5) (fun k => (by (try dsimp only); first | omega | (simp only [Hs, Tl, Sc, isHs, isScr, isTs] at *; omega)))]; exact hc) (by rw [hS.row (x := 6) (fun k => (by (try dsimp only); first | omega | (simp only [Hs, Tl, Sc, isHs, isScr, isTs] at *; omega)))]; exact hp) hw (hT.keep (fun i k h1 h2 => hS.2 i k (by (try dsimp only); first | omega | (simp only [Hs, Tl, Sc, isHs, isScr, isTs] at *; omega)))) (by omega) (by omega) (fun r6 hr6 => ?_)
    dsimp only [Option.toList, List.cons_append, List.nil_append]
    rcases hr6 with ⟨rfl, hpv⟩ | ⟨rfl, hpv⟩
    · skip
      refine w_ieq 40 36 (by decide +kernel) (fun hz => absurd hz (by decide)) (fun _ => ?_)
      refine w_pushN 1 37 (by decide +kernel) ?_
      refine w_goto 41 (by decide +kernel) ?_
      refine w_store (ls' := [.ref 0, .int (nI k2), .ref (70 + 2 * k2), .int (nI 1)]) (.istore_n 3) 42 (by decide +kernel) rfl rfl ?_
      refine w_load (.iload_n 3) 43 (by decide +kernel) rfl rfl ?_
      refine w_load (.aload_n 2) 44 (by decide +kernel) rfl rfl ?_
      refine w_callV0 42 2 2 47 (by decide +kernel) (sc_tale k2 (by omega)).1.1 (Nat.le_of_ble_eq_true rfl)  (by decide) (by omega) ?_
      refine s_faultT hS.1 (by omega) (hT.keep (fun i k h1 h2 => hS.2 i k (by (try dsimp only); first | omega | (simp only [Hs, Tl, Sc, isHs, isScr, isTs] at *; omega)))) (by omega) (fun r8 hr8 => ?_)
      dsimp only [Option.toList, List.cons_append, List.nil_append]
      rcases hr8 with rfl
      · skip
        refine w_load (.aload_n 2) 48 (by decide +kernel) rfl rfl ?_
        refine w_callV0 36 2 1 51 (by decide +kernel) (sc_tale k2 (by omega)).1.1 (Nat.le_of_ble_eq_true rfl)  (by decide) (by omega) ?_
        refine k_36 hS.1 (sc_tale k2 (by omega)) (by omega) (((hT.keep (fun i k h1 h2 => hS.2 i k (by (try dsimp only); first | omega | (simp only [Hs, Tl, Sc, isHs, isScr, isTs] at *; omega))))) k2 (by omega)).2.1 (by omega) (fun r9 hr9 => ?_)
        dsimp only [Option.toList, List.cons_append, List.nil_append]
        rcases hr9 with rfl
        · skip
          refine w_cne 58 54 (by decide +kernel) (fun h10 => ?_) (fun h10 => ?_)
          · skip
            refine w_pushN 0 59 (by decide +kernel) ?_
            refine w_pure .ior 60 (by decide +kernel) rfl rfl ?_
            refine w_topi (fun v11 ev11 => ?_)
            refine w_store (ls' := [.ref 0, .int (nI k2), .ref (70 + 2 * k2), .int v11]) (.istore_n 3) 61 (by decide +kernel) rfl rfl ?_
            refine w_load (.iload_n 3) 62 (by decide +kernel) rfl rfl ?_
            refine w_load (.aload_n 0) 63 (by decide +kernel) rfl rfl ?_
            refine w_getR (k := 4) (r := 10) 66 (by decide +kernel) sh_0 rfl ?_
            refine w_getR (k := 0) (r := 11) 69 (by decide +kernel) sh_10 rfl ?_
            refine w_load (.aload_n 0) 70 (by decide +kernel) rfl rfl ?_
            refine w_getR (k := 2) (r := 4) 73 (by decide +kernel) sh_0 rfl ?_
            refine w_callV1 31 1 2 76 (by decide +kernel) sh_11 (Nat.le_of_ble_eq_true rfl) rfl (by decide) (by omega) ?_
            refine s_isLike hS.1 hs_11 hs_4 (by omega) hGt kn5 hSt.1 (by rw [hS.row (x := 5) (fun k => (by (try dsimp only); first | omega | (simp only [Hs, Tl, Sc, isHs, isScr, isTs] at *; omega)))]; exact hc) (by omega) (fun r12 hr12 => ?_)
            dsimp only [Option.toList, List.cons_append, List.nil_append]
            rcases hr12 with ⟨rfl, hlk⟩ | ⟨rfl, hlk⟩
            · skip
              refine w_ieq 83 79 (by decide +kernel) (fun hz => absurd hz (by decide)) (fun _ => ?_)
              refine w_pushN 4 80 (by decide +kernel) ?_
              refine w_goto 84 (by decide +kernel) ?_
              refine w_pure .ior 85 (by decide +kernel) rfl rfl ?_
              refine w_topi (fun v14 ev14 => ?_)
              refine w_store (ls' := [.ref 0, .int (nI k2), .ref (70 + 2 * k2), .int v14]) (.istore_n 3) 86 (by decide +kernel) rfl rfl ?_
              refine w_load (.iload_n 3) 87 (by decide +kernel) rfl rfl ?_
              refine w_load (.aload_n 0) 88 (by decide +kernel) rfl rfl ?_
              refine w_getR (k := 4) (r := 10) 91 (by decide +kernel) sh_0 rfl ?_
              refine w_getR (k := 0) (r := 11) 94 (by decide +kernel) sh_10 rfl ?_
              refine w_callV0 20 1 1 97 (by decide +kernel) sh_11 (Nat.le_of_ble_eq_true rfl)  (by decide) (by omega) ?_
              refine s_dead hS.1 hs_11 (by omega) hGt hSt.1 (by omega) (fun r15 hr15 => ?_)
              dsimp only [Option.toList, List.cons_append, List.nil_append]
              rcases hr15 with rfl
              · skip
                refine w_load (.aload_n 0) 98 (by decide +kernel) rfl rfl ?_
                refine w_getR (k := 2) (r := 4) 101 (by decide +kernel) sh_0 rfl ?_
                refine w_callV0 20 1 1 104 (by decide +kernel) sh_4 (Nat.le_of_ble_eq_true rfl)  (by decide) (by omega) ?_
                refine s_dead hS.1 hs_4 (by omega) kn5 (by rw [hS.row (x := 5) (fun k => (by (try dsimp only); first | omega | (simp only [Hs, Tl, Sc, isHs, isScr, isTs] at *; omega)))]; exact hc) (by omega) (fun r16 hr16 => ?_)
                dsimp only [Option.toList, List.cons_append, List.nil_append]
                rcases hr16 with rfl
                · skip
                  refine w_ceq 112 107 (by decide +kernel) (fun h17 => ?_) (fun h17 => ?_)
                  · skip
                    refine w_pushN 0 113 (by decide +kernel) ?_
                    refine w_pure .ior 114 (by decide +kernel) rfl rfl ?_
                    refine w_topi (fun v18 ev18 => ?_)
                    refine w_store (ls' := [.ref 0, .int (nI k2), .ref (70 + 2 * k2), .int v18]) (.istore_n 3) 115 (by decide +kernel) rfl rfl ?_
                    refine w_load (.iload_n 3) 116 (by decide +kernel) rfl rfl ?_
                    refine w_load (.aload_n 0) 117 (by decide +kernel) rfl rfl ?_
                    refine w_getR (k := 4) (r := 10) 120 (by decide +kernel) sh_0 rfl ?_
                    refine w_getI (k := 3) 123 (by decide +kernel) sh_10 rfl ?_
                    refine w_ile 131 126 (by decide +kernel) (fun h19 => ?_) (fun h19 => ?_)
                    · skip
                      refine w_pushN 0 132 (by decide +kernel) ?_
                      refine w_pure .ior 133 (by decide +kernel) rfl rfl ?_
                      refine w_topi (fun v20 ev20 => ?_)
                      refine w_store (ls' := [.ref 0, .int (nI k2), .ref (70 + 2 * k2), .int v20]) (.istore_n 3) 134 (by decide +kernel) rfl rfl ?_
                      refine w_load (.iload_n 3) 135 (by decide +kernel) rfl rfl ?_
                      exact w_ret (by decide +kernel) (hq _ Nr4 hS (Or.inr ⟨_, by assumption, rfl, true, false, true, false, false, if_t hpv, if_f (by assumption), if_t hlk, if_f (fun hz => hz (by assumption)), if_f (by rw [← hSt.2.2.1]; exact ngt_of (by assumption)), by rw [ev20, ev18, ev14, ev11]; decide⟩))
                    · skip
                      refine w_pushN 16 128 (by decide +kernel) ?_
                      refine w_goto 132 (by decide +kernel) ?_
                      refine w_pure .ior 133 (by decide +kernel) rfl rfl ?_
                      refine w_topi (fun v21 ev21 => ?_)
                      refine w_store (ls' := [.ref 0, .int (nI k2), .ref (70 + 2 * k2), .int v21]) (.istore_n 3) 134 (by decide +kernel) rfl rfl ?_
                      refine w_load (.iload_n 3) 135 (by decide +kernel) rfl rfl ?_
                      exact w_ret (by decide +kernel) (hq _ Nr4 hS (Or.inr ⟨_, by assumption, rfl, true, false, true, false, true, if_t hpv, if_f (by assumption), if_t hlk, if_f (fun hz => hz (by assumption)), if_t (by rw [← hSt.2.2.1]; exact gt_of (by assumption)), by rw [ev21, ev18, ev14, ev11]; decide⟩))
                  · skip
                    refine w_pushN 8 109 (by decide +kernel) ?_
                    refine w_goto 113 (by decide +kernel) ?_
                    refine w_pure .ior 114 (by decide +kernel) rfl rfl ?_
                    refine w_topi (fun v22 ev22 => ?_)
                    refine w_store (ls' := [.ref 0, .int (nI k2), .ref (70 + 2 * k2), .int v22]) (.istore_n 3) 115 (by decide +kernel) rfl rfl ?_
                    refine w_load (.iload_n 3) 116 (by decide +kernel) rfl rfl ?_
                    refine w_load (.aload_n 0) 117 (by decide +kernel) rfl rfl ?_
                    refine w_getR (k := 4) (r := 10) 120 (by decide +kernel) sh_0 rfl ?_
                    refine w_getI (k := 3) 123 (by decide +kernel) sh_10 rfl ?_
                    refine w_ile 131 126 (by decide +kernel) (fun h23 => ?_) (fun h23 => ?_)
                    · skip
                      refine w_pushN 0 132 (by decide +kernel) ?_
                      refine w_pure .ior 133 (by decide +kernel) rfl rfl ?_
                      refine w_topi (fun v24 ev24 => ?_)
                      refine w_store (ls' := [.ref 0, .int (nI k2), .ref (70 + 2 * k2), .int v24]) (.istore_n 3) 134 (by decide +kernel) rfl rfl ?_
                      refine w_load (.iload_n 3) 135 (by decide +kernel) rfl rfl ?_
                      exact w_ret (by decide +kernel) (hq _ Nr4 hS (Or.inr ⟨_, by assumption, rfl, true, false, true, true, false, if_t hpv, if_f (by assumption), if_t hlk, if_t (by assumption), if_f (by rw [← hSt.2.2.1]; exact ngt_of (by assumption)), by rw [ev24, ev22, ev14, ev11]; decide⟩))
                    · skip
                      refine w_pushN 16 128 (by decide +kernel) ?_
                      refine w_goto 132 (by decide +kernel) ?_
                      refine w_pure .ior 133 (by decide +kernel) rfl rfl ?_
                      refine w_topi (fun v25 ev25 => ?_)
                      refine w_store (ls' := [.ref 0, .int (nI k2), .ref (70 + 2 * k2), .int v25]) (.istore_n 3) 134 (by decide +kernel) rfl rfl ?_
                      refine w_load (.iload_n 3) 135 (by decide +kernel) rfl rfl ?_
                      exact w_ret (by decide +kernel) (hq _ Nr4 hS (Or.inr ⟨_, by assumption, rfl, true, false, true, true, true, if_t hpv, if_f (by assumption), if_t hlk, if_t (by assumption), if_t (by rw [← hSt.2.2.1]; exact gt_of (by assumption)), by rw [ev25, ev22, ev14, ev11]; decide⟩))
            · skip
              refine w_ieq 83 79 (by decide +kernel) (fun _ => ?_) (fun hz => absurd hz (by decide))
              refine w_pushN 0 84 (by decide +kernel) ?_
              refine w_pure .ior 85 (by decide +kernel) rfl rfl ?_
              refine w_topi (fun v27 ev27 => ?_)
              refine w_store (ls' := [.ref 0, .int (nI k2), .ref (70 + 2 * k2), .int v27]) (.istore_n 3) 86 (by decide +kernel) rfl rfl ?_
              refine w_load (.iload_n 3) 87 (by decide +kernel) rfl rfl ?_
              refine w_load (.aload_n 0) 88 (by decide +kernel) rfl rfl ?_
              refine w_getR (k := 4) (r := 10) 91 (by decide +kernel) sh_0 rfl ?_
              refine w_getR (k := 0) (r := 11) 94 (by decide +kernel) sh_10 rfl ?_
              refine w_callV0 20 1 1 97 (by decide +kernel) sh_11 (Nat.le_of_ble_eq_true rfl)  (by decide) (by omega) ?_
              refine s_dead hS.1 hs_11 (by omega) hGt hSt.1 (by omega) (fun r28 hr28 => ?_)
              dsimp only [Option.toList, List.cons_append, List.nil_append]
              rcases hr28 with rfl
              · skip
                refine w_load (.aload_n 0) 98 (by decide +kernel) rfl rfl ?_
                refine w_getR (k := 2) (r := 4) 101 (by decide +kernel) sh_0 rfl ?_
                refine w_callV0 20 1 1 104 (by decide +kernel) sh_4 (Nat.le_of_ble_eq_true rfl)  (by decide) (by omega) ?_
                refine s_dead hS.1 hs_4 (by omega) kn5 (by rw [hS.row (x := 5) (fun k => (by (try dsimp only); first | omega | (simp only [Hs, Tl, Sc, isHs, isScr, isTs] at *; omega)))]; exact hc) (by omega) (fun r29 hr29 => ?_)
                dsimp only [Option.toList, List.cons_append, List.nil_append]
                rcases hr29 with rfl
                · skip
                  refine w_ceq 112 107 (by decide +kernel) (fun h30 => ?_) (fun h30 => ?_)
                  · skip
                    refine w_pushN 0 113 (by decide +kernel) ?_
                    refine w_pure .ior 114 (by decide +kernel) rfl rfl ?_
                    refine w_topi (fun v31 ev31 => ?_)
                    refine w_store (ls' := [.ref 0, .int (nI k2), .ref (70 + 2 * k2), .int v31]) (.istore_n 3) 115 (by decide +kernel) rfl rfl ?_
                    refine w_load (.iload_n 3) 116 (by decide +kernel) rfl rfl ?_
                    refine w_load (.aload_n 0) 117 (by decide +kernel) rfl rfl ?_
                    refine w_getR (k := 4) (r := 10) 120 (by decide +kernel) sh_0 rfl ?_
                    refine w_getI (k := 3) 123 (by decide +kernel) sh_10 rfl ?_
                    refine w_ile 131 126 (by decide +kernel) (fun h32 => ?_) (fun h32 => ?_)
                    · skip
                      refine w_pushN 0 132 (by decide +kernel) ?_
                      refine w_pure .ior 133 (by decide +kernel) rfl rfl ?_
                      refine w_topi (fun v33 ev33 => ?_)
                      refine w_store (ls' := [.ref 0, .int (nI k2), .ref (70 + 2 * k2), .int v33]) (.istore_n 3) 134 (by decide +kernel) rfl rfl ?_
                      refine w_load (.iload_n 3) 135 (by decide +kernel) rfl rfl ?_
                      exact w_ret (by decide +kernel) (hq _ Nr4 hS (Or.inr ⟨_, by assumption, rfl, true, false, false, false, false, if_t hpv, if_f (by assumption), if_f hlk, if_f (fun hz => hz (by assumption)), if_f (by rw [← hSt.2.2.1]; exact ngt_of (by assumption)), by rw [ev33, ev31, ev27, ev11]; decide⟩))
                    · skip
                      refine w_pushN 16 128 (by decide +kernel) ?_
                      refine w_goto 132 (by decide +kernel) ?_
                      refine w_pure .ior 133 (by decide +kernel) rfl rfl ?_
                      refine w_topi (fun v34 ev34 => ?_)
                      refine w_store (ls' := [.ref 0, .int (nI k2), .ref (70 + 2 * k2), .int v34]) (.istore_n 3) 134 (by decide +kernel) rfl rfl ?_
                      refine w_load (.iload_n 3) 135 (by decide +kernel) rfl rfl ?_
                      exact w_ret (by decide +kernel) (hq _ Nr4 hS (Or.inr ⟨_, by assumption, rfl, true, false, false, false, true, if_t hpv, if_f (by assumption), if_f hlk, if_f (fun hz => hz (by assumption)), if_t (by rw [← hSt.2.2.1]; exact gt_of (by assumption)), by rw [ev34, ev31, ev27, ev11]; decide⟩))
                  · skip
                    refine w_pushN 8 109 (by decide +kernel) ?_
                    refine w_goto 113 (by decide +kernel) ?_
                    refine w_pure .ior 114 (by decide +kernel) rfl rfl ?_
                    refine w_topi (fun v35 ev35 => ?_)
                    refine w_store (ls' := [.ref 0, .int (nI k2), .ref (70 + 2 * k2), .int v35]) (.istore_n 3) 115 (by decide +kernel) rfl rfl ?_
                    refine w_load (.iload_n 3) 116 (by decide +kernel) rfl rfl ?_
                    refine w_load (.aload_n 0) 117 (by decide +kernel) rfl rfl ?_
                    refine w_getR (k := 4) (r := 10) 120 (by decide +kernel) sh_0 rfl ?_
                    refine w_getI (k := 3) 123 (by decide +kernel) sh_10 rfl ?_
                    refine w_ile 131 126 (by decide +kernel) (fun h36 => ?_) (fun h36 => ?_)
                    · skip
                      refine w_pushN 0 132 (by decide +kernel) ?_
                      refine w_pure .ior 133 (by decide +kernel) rfl rfl ?_
                      refine w_topi (fun v37 ev37 => ?_)
                      refine w_store (ls' := [.ref 0, .int (nI k2), .ref (70 + 2 * k2), .int v37]) (.istore_n 3) 134 (by decide +kernel) rfl rfl ?_
                      refine w_load (.iload_n 3) 135 (by decide +kernel) rfl rfl ?_
                      exact w_ret (by decide +kernel) (hq _ Nr4 hS (Or.inr ⟨_, by assumption, rfl, true, false, false, true, false, if_t hpv, if_f (by assumption), if_f hlk, if_t (by assumption), if_f (by rw [← hSt.2.2.1]; exact ngt_of (by assumption)), by rw [ev37, ev35, ev27, ev11]; decide⟩))
                    · skip
                      refine w_pushN 16 128 (by decide +kernel) ?_
                      refine w_goto 132 (by decide +kernel) ?_
                      refine w_pure .ior 133 (by decide +kernel) rfl rfl ?_
                      refine w_topi (fun v38 ev38 => ?_)
                      refine w_store (ls' := [.ref 0, .int (nI k2), .ref (70 + 2 * k2), .int v38]) (.istore_n 3) 134 (by decide +kernel) rfl rfl ?_
                      refine w_load (.iload_n 3) 135 (by decide +kernel) rfl rfl ?_
                      exact w_ret (by decide +kernel) (hq _ Nr4 hS (Or.inr ⟨_, by assumption, rfl, true, false, false, true, true, if_t hpv, if_f (by assumption), if_f hlk, if_t (by assumption), if_t (by rw [← hSt.2.2.1]; exact gt_of (by assumption)), by rw [ev38, ev35, ev27, ev11]; decide⟩))
          · skip
            refine w_pushN 2 55 (by decide +kernel) ?_
            refine w_goto 59 (by decide +kernel) ?_
            refine w_pure .ior 60 (by decide +kernel) rfl rfl ?_
            refine w_topi (fun v39 ev39 => ?_)
            refine w_store (ls' := [.ref 0, .int (nI k2), .ref (70 + 2 * k2), .int v39]) (.istore_n 3) 61 (by decide +kernel) rfl rfl ?_
            refine w_load (.iload_n 3) 62 (by decide +kernel) rfl rfl ?_
            refine w_load (.aload_n 0) 63 (by decide +kernel) rfl rfl ?_
            refine w_getR (k := 4) (r := 10) 66 (by decide +kernel) sh_0 rfl ?_
            refine w_getR (k := 0) (r := 11) 69 (by decide +kernel) sh_10 rfl ?_
            refine w_load (.aload_n 0) 70 (by decide +kernel) rfl rfl ?_
            refine w_getR (k := 2) (r := 4) 73 (by decide +kernel) sh_0 rfl ?_
            refine w_callV1 31 1 2 76 (by decide +kernel) sh_11 (Nat.le_of_ble_eq_true rfl) rfl (by decide) (by omega) ?_
            refine s_isLike hS.1 hs_11 hs_4 (by omega) hGt kn5 hSt.1 (by rw [hS.row (x := 5) (fun k => (by (try dsimp only); first | omega | (simp only [Hs, Tl, Sc, isHs, isScr, isTs] at *; omega)))]; exact hc) (by omega) (fun r40 hr40 => ?_)
            dsimp only [Option.toList, List.cons_append, List.nil_append]
            rcases hr40 with ⟨rfl, hlk⟩ | ⟨rfl, hlk⟩
            · skip
              refine w_ieq 83 79 (by decide +kernel) (fun hz => absurd hz (by decide)) (fun _ => ?_)
              refine w_pushN 4 80 (by decide +kernel) ?_
              refine w_goto 84 (by decide +kernel) ?_
              refine w_pure .ior 85 (by decide +kernel) rfl rfl ?_
              refine w_topi (fun v42 ev42 => ?_)
              refine w_store (ls' := [.ref 0, .int (nI k2), .ref (70 + 2 * k2), .int v42]) (.istore_n 3) 86 (by decide +kernel) rfl rfl ?_
              refine w_load (.iload_n 3) 87 (by decide +kernel) rfl rfl ?_
              refine w_load (.aload_n 0) 88 (by decide +kernel) rfl rfl ?_
              refine w_getR (k := 4) (r := 10) 91 (by decide +kernel) sh_0 rfl ?_
              refine w_getR (k := 0) (r := 11) 94 (by decide +kernel) sh_10 rfl ?_
              refine w_callV0 20 1 1 97 (by decide +kernel) sh_11 (Nat.le_of_ble_eq_true rfl)  (by decide) (by omega) ?_
              refine s_dead hS.1 hs_11 (by omega) hGt hSt.1 (by omega) (fun r43 hr43 => ?_)
              dsimp only [Option.toList, List.cons_append, List.nil_append]
              rcases hr43 with rfl
              · skip
                refine w_load (.aload_n 0) 98 (by decide +kernel) rfl rfl ?_
                refine w_getR (k := 2) (r := 4) 101 (by decide +kernel) sh_0 rfl ?_
                refine w_callV0 20 1 1 104 (by decide +kernel) sh_4 (Nat.le_of_ble_eq_true rfl)  (by decide) (by omega) ?_
                refine s_dead hS.1 hs_4 (by omega) kn5 (by rw [hS.row (x := 5) (fun k => (by (try dsimp only); first | omega | (simp only [Hs, Tl, Sc, isHs, isScr, isTs] at *; omega)))]; exact hc) (by omega) (fun r44 hr44 => ?_)
                dsimp only [Option.toList, List.cons_append, List.nil_append]
                rcases hr44 with rfl
                · skip
                  refine w_ceq 112 107 (by decide +kernel) (fun h45 => ?_) (fun h45 => ?_)
                  · skip
                    refine w_pushN 0 113 (by decide +kernel) ?_
                    refine w_pure .ior 114 (by decide +kernel) rfl rfl ?_
                    refine w_topi (fun v46 ev46 => ?_)
                    refine w_store (ls' := [.ref 0, .int (nI k2), .ref (70 + 2 * k2), .int v46]) (.istore_n 3) 115 (by decide +kernel) rfl rfl ?_
                    refine w_load (.iload_n 3) 116 (by decide +kernel) rfl rfl ?_
                    refine w_load (.aload_n 0) 117 (by decide +kernel) rfl rfl ?_
                    refine w_getR (k := 4) (r := 10) 120 (by decide +kernel) sh_0 rfl ?_
                    refine w_getI (k := 3) 123 (by decide +kernel) sh_10 rfl ?_
                    refine w_ile 131 126 (by decide +kernel) (fun h47 => ?_) (fun h47 => ?_)
                    · skip
                      refine w_pushN 0 132 (by decide +kernel) ?_
                      refine w_pure .ior 133 (by decide +kernel) rfl rfl ?_
                      refine w_topi (fun v48 ev48 => ?_)
                      refine w_store (ls' := [.ref 0, .int (nI k2), .ref (70 + 2 * k2), .int v48]) (.istore_n 3) 134 (by decide +kernel) rfl rfl ?_
                      refine w_load (.iload_n 3) 135 (by decide +kernel) rfl rfl ?_
                      exact w_ret (by decide +kernel) (hq _ Nr4 hS (Or.inr ⟨_, by assumption, rfl, true, true, true, false, false, if_t hpv, if_t (by assumption), if_t hlk, if_f (fun hz => hz (by assumption)), if_f (by rw [← hSt.2.2.1]; exact ngt_of (by assumption)), by rw [ev48, ev46, ev42, ev39]; decide⟩))
                    · skip
                      refine w_pushN 16 128 (by decide +kernel) ?_
                      refine w_goto 132 (by decide +kernel) ?_
                      refine w_pure .ior 133 (by decide +kernel) rfl rfl ?_
                      refine w_topi (fun v49 ev49 => ?_)
                      refine w_store (ls' := [.ref 0, .int (nI k2), .ref (70 + 2 * k2), .int v49]) (.istore_n 3) 134 (by decide +kernel) rfl rfl ?_
                      refine w_load (.iload_n 3) 135 (by decide +kernel) rfl rfl ?_
                      exact w_ret (by decide +kernel) (hq _ Nr4 hS (Or.inr ⟨_, by assumption, rfl, true, true, true, false, true, if_t hpv, if_t (by assumption), if_t hlk, if_f (fun hz => hz (by assumption)), if_t (by rw [← hSt.2.2.1]; exact gt_of (by assumption)), by rw [ev49, ev46, ev42, ev39]; decide⟩))
                  · skip
                    refine w_pushN 8 109 (by decide +kernel) ?_
                    refine w_goto 113 (by decide +kernel) ?_
                    refine w_pure .ior 114 (by decide +kernel) rfl rfl ?_
                    refine w_topi (fun v50 ev50 => ?_)
                    refine w_store (ls' := [.ref 0, .int (nI k2), .ref (70 + 2 * k2), .int v50]) (.istore_n 3) 115 (by decide +kernel) rfl rfl ?_
                    refine w_load (.iload_n 3) 116 (by decide +kernel) rfl rfl ?_
                    refine w_load (.aload_n 0) 117 (by decide +kernel) rfl rfl ?_
                    refine w_getR (k := 4) (r := 10) 120 (by decide +kernel) sh_0 rfl ?_
                    refine w_getI (k := 3) 123 (by decide +kernel) sh_10 rfl ?_
                    refine w_ile 131 126 (by decide +kernel) (fun h51 => ?_) (fun h51 => ?_)
                    · skip
                      refine w_pushN 0 132 (by decide +kernel) ?_
                      refine w_pure .ior 133 (by decide +kernel) rfl rfl ?_
                      refine w_topi (fun v52 ev52 => ?_)
                      refine w_store (ls' := [.ref 0, .int (nI k2), .ref (70 + 2 * k2), .int v52]) (.istore_n 3) 134 (by decide +kernel) rfl rfl ?_
                      refine w_load (.iload_n 3) 135 (by decide +kernel) rfl rfl ?_
                      exact w_ret (by decide +kernel) (hq _ Nr4 hS (Or.inr ⟨_, by assumption, rfl, true, true, true, true, false, if_t hpv, if_t (by assumption), if_t hlk, if_t (by assumption), if_f (by rw [← hSt.2.2.1]; exact ngt_of (by assumption)), by rw [ev52, ev50, ev42, ev39]; decide⟩))
                    · skip
                      refine w_pushN 16 128 (by decide +kernel) ?_
                      refine w_goto 132 (by decide +kernel) ?_
                      refine w_pure .ior 133 (by decide +kernel) rfl rfl ?_
                      refine w_topi (fun v53 ev53 => ?_)
                      refine w_store (ls' := [.ref 0, .int (nI k2), .ref (70 + 2 * k2), .int v53]) (.istore_n 3) 134 (by decide +kernel) rfl rfl ?_
                      refine w_load (.iload_n 3) 135 (by decide +kernel) rfl rfl ?_
                      exact w_ret (by decide +kernel) (hq _ Nr4 hS (Or.inr ⟨_, by assumption, rfl, true, true, true, true, true, if_t hpv, if_t (by assumption), if_t hlk, if_t (by assumption), if_t (by rw [← hSt.2.2.1]; exact gt_of (by assumption)), by rw [ev53, ev50, ev42, ev39]; decide⟩))
            · skip
              refine w_ieq 83 79 (by decide +kernel) (fun _ => ?_) (fun hz => absurd hz (by decide))
              refine w_pushN 0 84 (by decide +kernel) ?_
              refine w_pure .ior 85 (by decide +kernel) rfl rfl ?_
              refine w_topi (fun v55 ev55 => ?_)
              refine w_store (ls' := [.ref 0, .int (nI k2), .ref (70 + 2 * k2), .int v55]) (.istore_n 3) 86 (by decide +kernel) rfl rfl ?_
              refine w_load (.iload_n 3) 87 (by decide +kernel) rfl rfl ?_
              refine w_load (.aload_n 0) 88 (by decide +kernel) rfl rfl ?_
              refine w_getR (k := 4) (r := 10) 91 (by decide +kernel) sh_0 rfl ?_
              refine w_getR (k := 0) (r := 11) 94 (by decide +kernel) sh_10 rfl ?_
              refine w_callV0 20 1 1 97 (by decide +kernel) sh_11 (Nat.le_of_ble_eq_true rfl)  (by decide) (by omega) ?_
              refine s_dead hS.1 hs_11 (by omega) hGt hSt.1 (by omega) (fun r56 hr56 => ?_)
              dsimp only [Option.toList, List.cons_append, List.nil_append]
              rcases hr56 with rfl
              · skip
                refine w_load (.aload_n 0) 98 (by decide +kernel) rfl rfl ?_
                refine w_getR (k := 2) (r := 4) 101 (by decide +kernel) sh_0 rfl ?_
                refine w_callV0 20 1 1 104 (by decide +kernel) sh_4 (Nat.le_of_ble_eq_true rfl)  (by decide) (by omega) ?_
                refine s_dead hS.1 hs_4 (by omega) kn5 (by rw [hS.row (x := 5) (fun k => (by (try dsimp only); first | omega | (simp only [Hs, Tl, Sc, isHs, isScr, isTs] at *; omega)))]; exact hc) (by omega) (fun r57 hr57 => ?_)
                dsimp only [Option.toList, List.cons_append, List.nil_append]
                rcases hr57 with rfl
                · skip
                  refine w_ceq 112 107 (by decide +kernel) (fun h58 => ?_) (fun h58 => ?_)
                  · skip
                    refine w_pushN 0 113 (by decide +kernel) ?_
                    refine w_pure .ior 114 (by decide +kernel) rfl rfl ?_
                    refine w_topi (fun v59 ev59 => ?_)
                    refine w_store (ls' := [.ref 0, .int (nI k2), .ref (70 + 2 * k2), .int v59]) (.istore_n 3) 115 (by decide +kernel) rfl rfl ?_
                    refine w_load (.iload_n 3) 116 (by decide +kernel) rfl rfl ?_
                    refine w_load (.aload_n 0) 117 (by decide +kernel) rfl rfl ?_
                    refine w_getR (k := 4) (r := 10) 120 (by decide +kernel) sh_0 rfl ?_
                    refine w_getI (k := 3) 123 (by decide +kernel) sh_10 rfl ?_
                    refine w_ile 131 126 (by decide +kernel) (fun h60 => ?_) (fun h60 => ?_)
                    · skip
                      refine w_pushN 0 132 (by decide +kernel) ?_
                      refine w_pure .ior 133 (by decide +kernel) rfl rfl ?_
                      refine w_topi (fun v61 ev61 => ?_)
                      refine w_store (ls' := [.ref 0, .int (nI k2), .ref (70 + 2 * k2), .int v61]) (.istore_n 3) 134 (by decide +kernel) rfl rfl ?_
                      refine w_load (.iload_n 3) 135 (by decide +kernel) rfl rfl ?_
                      exact w_ret (by decide +kernel) (hq _ Nr4 hS (Or.inr ⟨_, by assumption, rfl, true, true, false, false, false, if_t hpv, if_t (by assumption), if_f hlk, if_f (fun hz => hz (by assumption)), if_f (by rw [← hSt.2.2.1]; exact ngt_of (by assumption)), by rw [ev61, ev59, ev55, ev39]; decide⟩))
                    · skip
                      refine w_pushN 16 128 (by decide +kernel) ?_
                      refine w_goto 132 (by decide +kernel) ?_
                      refine w_pure .ior 133 (by decide +kernel) rfl rfl ?_
                      refine w_topi (fun v62 ev62 => ?_)
                      refine w_store (ls' := [.ref 0, .int (nI k2), .ref (70 + 2 * k2), .int v62]) (.istore_n 3) 134 (by decide +kernel) rfl rfl ?_
                      refine w_load (.iload_n 3) 135 (by decide +kernel) rfl rfl ?_
                      exact w_ret (by decide +kernel) (hq _ Nr4 hS (Or.inr ⟨_, by assumption, rfl, true, true, false, false, true, if_t hpv, if_t (by assumption), if_f hlk, if_f (fun hz => hz (by assumption)), if_t (by rw [← hSt.2.2.1]; exact gt_of (by assumption)), by rw [ev62, ev59, ev55, ev39]; decide⟩))
                  · skip
                    refine w_pushN 8 109 (by decide +kernel) ?_
                    refine w_goto 113 (by decide +kernel) ?_
                    refine w_pure .ior 114 (by decide +kernel) rfl rfl ?_
                    refine w_topi (fun v63 ev63 => ?_)
                    refine w_store (ls' := [.ref 0, .int (nI k2), .ref (70 + 2 * k2), .int v63]) (.istore_n 3) 115 (by decide +kernel) rfl rfl ?_
                    refine w_load (.iload_n 3) 116 (by decide +kernel) rfl rfl ?_
                    refine w_load (.aload_n 0) 117 (by decide +kernel) rfl rfl ?_
                    refine w_getR (k := 4) (r := 10) 120 (by decide +kernel) sh_0 rfl ?_
                    refine w_getI (k := 3) 123 (by decide +kernel) sh_10 rfl ?_
                    refine w_ile 131 126 (by decide +kernel) (fun h64 => ?_) (fun h64 => ?_)
                    · skip
                      refine w_pushN 0 132 (by decide +kernel) ?_
                      refine w_pure .ior 133 (by decide +kernel) rfl rfl ?_
                      refine w_topi (fun v65 ev65 => ?_)
                      refine w_store (ls' := [.ref 0, .int (nI k2), .ref (70 + 2 * k2), .int v65]) (.istore_n 3) 134 (by decide +kernel) rfl rfl ?_
                      refine w_load (.iload_n 3) 135 (by decide +kernel) rfl rfl ?_
                      exact w_ret (by decide +kernel) (hq _ Nr4 hS (Or.inr ⟨_, by assumption, rfl, true, true, false, true, false, if_t hpv, if_t (by assumption), if_f hlk, if_t (by assumption), if_f (by rw [← hSt.2.2.1]; exact ngt_of (by assumption)), by rw [ev65, ev63, ev55, ev39]; decide⟩))
                    · skip
                      refine w_pushN 16 128 (by decide +kernel) ?_
                      refine w_goto 132 (by decide +kernel) ?_
                      refine w_pure .ior 133 (by decide +kernel) rfl rfl ?_
                      refine w_topi (fun v66 ev66 => ?_)
                      refine w_store (ls' := [.ref 0, .int (nI k2), .ref (70 + 2 * k2), .int v66]) (.istore_n 3) 134 (by decide +kernel) rfl rfl ?_
                      refine w_load (.iload_n 3) 135 (by decide +kernel) rfl rfl ?_
                      exact w_ret (by decide +kernel) (hq _ Nr4 hS (Or.inr ⟨_, by assumption, rfl, true, true, false, true, true, if_t hpv, if_t (by assumption), if_f hlk, if_t (by assumption), if_t (by rw [← hSt.2.2.1]; exact gt_of (by assumption)), by rw [ev66, ev63, ev55, ev39]; decide⟩))
    · skip
      refine w_ieq 40 36 (by decide +kernel) (fun _ => ?_) (fun hz => absurd hz (by decide))
      refine w_pushN 0 41 (by decide +kernel) ?_
      refine w_store (ls' := [.ref 0, .int (nI k2), .ref (70 + 2 * k2), .int (nI 0)]) (.istore_n 3) 42 (by decide +kernel) rfl rfl ?_
      refine w_load (.iload_n 3) 43 (by decide +kernel) rfl rfl ?_
      refine w_load (.aload_n 2) 44 (by decide +kernel) rfl rfl ?_
      refine w_callV0 42 2 2 47 (by decide +kernel) (sc_tale k2 (by omega)).1.1 (Nat.le_of_ble_eq_true rfl)  (by decide) (by omega) ?_
      refine s_faultT hS.1 (by omega) (hT.keep (fun i k h1 h2 => hS.2 i k (by (try dsimp only); first | omega | (simp only [Hs, Tl, Sc, isHs, isScr, isTs] at *; omega)))) (by omega) (fun r68 hr68 => ?_)
      dsimp only [Option.toList, List.cons_append, List.nil_append]
      rcases hr68 with rfl
      · skip
        refine w_load (.aload_n 2) 48 (by decide +kernel) rfl rfl ?_
        refine w_callV0 36 2 1 51 (by decide +kernel) (sc_tale k2 (by omega)).1.1 (Nat.le_of_ble_eq_true rfl)  (by decide) (by omega) ?_
        refine k_36 hS.1 (sc_tale k2 (by omega)) (by omega) (((hT.keep (fun i k h1 h2 => hS.2 i k (by (try dsimp only); first | omega | (simp only [Hs, Tl, Sc, isHs, isScr, isTs] at *; omega))))) k2 (by omega)).2.1 (by omega) (fun r69 hr69 => ?_)
        dsimp only [Option.toList, List.cons_append, List.nil_append]
        rcases hr69 with rfl
        · skip
          refine w_cne 58 54 (by decide +kernel) (fun h70 => ?_) (fun h70 => ?_)
          · skip
            refine w_pushN 0 59 (by decide +kernel) ?_
            refine w_pure .ior 60 (by decide +kernel) rfl rfl ?_
            refine w_topi (fun v71 ev71 => ?_)
            refine w_store (ls' := [.ref 0, .int (nI k2), .ref (70 + 2 * k2), .int v71]) (.istore_n 3) 61 (by decide +kernel) rfl rfl ?_
            refine w_load (.iload_n 3) 62 (by decide +kernel) rfl rfl ?_
            refine w_load (.aload_n 0) 63 (by decide +kernel) rfl rfl ?_
            refine w_getR (k := 4) (r := 10) 66 (by decide +kernel) sh_0 rfl ?_
            refine w_getR (k := 0) (r := 11) 69 (by decide +kernel) sh_10 rfl ?_
            refine w_load (.aload_n 0) 70 (by decide +kernel) rfl rfl ?_
            refine w_getR (k := 2) (r := 4) 73 (by decide +kernel) sh_0 rfl ?_
            refine w_callV1 31 1 2 76 (by decide +kernel) sh_11 (Nat.le_of_ble_eq_true rfl) rfl (by decide) (by omega) ?_
            refine s_isLike hS.1 hs_11 hs_4 (by omega) hGt kn5 hSt.1 (by rw [hS.row (x := 5) (fun k => (by (try dsimp only); first | omega | (simp only [Hs, Tl, Sc, isHs, isScr, isTs] at *; omega)))]; exact hc) (by omega) (fun r72 hr72 => ?_)
            dsimp only [Option.toList, List.cons_append, List.nil_append]
            rcases hr72 with ⟨rfl, hlk⟩ | ⟨rfl, hlk⟩
            · skip
              refine w_ieq 83 79 (by decide +kernel) (fun hz => absurd hz (by decide)) (fun _ => ?_)
              refine w_pushN 4 80 (by decide +kernel) ?_
              refine w_goto 84 (by decide +kernel) ?_
              refine w_pure .ior 85 (by decide +kernel) rfl rfl ?_
              refine w_topi (fun v74 ev74 => ?_)
              refine w_store (ls' := [.ref 0, .int (nI k2), .ref (70 + 2 * k2), .int v74]) (.istore_n 3) 86 (by decide +kernel) rfl rfl ?_
              refine w_load (.iload_n 3) 87 (by decide +kernel) rfl rfl ?_
              refine w_load (.aload_n 0) 88 (by decide +kernel) rfl rfl ?_
              refine w_getR (k := 4) (r := 10) 91 (by decide +kernel) sh_0 rfl ?_
              refine w_getR (k := 0) (r := 11) 94 (by decide +kernel) sh_10 rfl ?_
              refine w_callV0 20 1 1 97 (by decide +kernel) sh_11 (Nat.le_of_ble_eq_true rfl)  (by decide) (by omega) ?_
              refine s_dead hS.1 hs_11 (by omega) hGt hSt.1 (by omega) (fun r75 hr75 => ?_)
              dsimp only [Option.toList, List.cons_append, List.nil_append]
              rcases hr75 with rfl
              · skip
                refine w_load (.aload_n 0) 98 (by decide +kernel) rfl rfl ?_
                refine w_getR (k := 2) (r := 4) 101 (by decide +kernel) sh_0 rfl ?_
                refine w_callV0 20 1 1 104 (by decide +kernel) sh_4 (Nat.le_of_ble_eq_true rfl)  (by decide) (by omega) ?_
                refine s_dead hS.1 hs_4 (by omega) kn5 (by rw [hS.row (x := 5) (fun k => (by (try dsimp only); first | omega | (simp only [Hs, Tl, Sc, isHs, isScr, isTs] at *; omega)))]; exact hc) (by omega) (fun r76 hr76 => ?_)
                dsimp only [Option.toList, List.cons_append, List.nil_append]
                rcases hr76 with rfl
                · skip
                  refine w_ceq 112 107 (by decide +kernel) (fun h77 => ?_) (fun h77 => ?_)
                  · skip
                    refine w_pushN 0 113 (by decide +kernel) ?_
                    refine w_pure .ior 114 (by decide +kernel) rfl rfl ?_
                    refine w_topi (fun v78 ev78 => ?_)
                    refine w_store (ls' := [.ref 0, .int (nI k2), .ref (70 + 2 * k2), .int v78]) (.istore_n 3) 115 (by decide +kernel) rfl rfl ?_
                    refine w_load (.iload_n 3) 116 (by decide +kernel) rfl rfl ?_
                    refine w_load (.aload_n 0) 117 (by decide +kernel) rfl rfl ?_
                    refine w_getR (k := 4) (r := 10) 120 (by decide +kernel) sh_0 rfl ?_
                    refine w_getI (k := 3) 123 (by decide +kernel) sh_10 rfl ?_
                    refine w_ile 131 126 (by decide +kernel) (fun h79 => ?_) (fun h79 => ?_)
                    · skip
                      refine w_pushN 0 132 (by decide +kernel) ?_
                      refine w_pure .ior 133 (by decide +kernel) rfl rfl ?_
                      refine w_topi (fun v80 ev80 => ?_)
                      refine w_store (ls' := [.ref 0, .int (nI k2), .ref (70 + 2 * k2), .int v80]) (.istore_n 3) 134 (by decide +kernel) rfl rfl ?_
                      refine w_load (.iload_n 3) 135 (by decide +kernel) rfl rfl ?_
                      exact w_ret (by decide +kernel) (hq _ Nr4 hS (Or.inr ⟨_, by assumption, rfl, false, false, true, false, false, if_f hpv, if_f (by assumption), if_t hlk, if_f (fun hz => hz (by assumption)), if_f (by rw [← hSt.2.2.1]; exact ngt_of (by assumption)), by rw [ev80, ev78, ev74, ev71]; decide⟩))
                    · skip
                      refine w_pushN 16 128 (by decide +kernel) ?_
                      refine w_goto 132 (by decide +kernel) ?_
                      refine w_pure .ior 133 (by decide +kernel) rfl rfl ?_
                      refine w_topi (fun v81 ev81 => ?_)
                      refine w_store (ls' := [.ref 0, .int (nI k2), .ref (70 + 2 * k2), .int v81]) (.istore_n 3) 134 (by decide +kernel) rfl rfl ?_
                      refine w_load (.iload_n 3) 135 (by decide +kernel) rfl rfl ?_
                      exact w_ret (by decide +kernel) (hq _ Nr4 hS (Or.inr ⟨_, by assumption, rfl, false, false, true, false, true, if_f hpv, if_f (by assumption), if_t hlk, if_f (fun hz => hz (by assumption)), if_t (by rw [← hSt.2.2.1]; exact gt_of (by assumption)), by rw [ev81, ev78, ev74, ev71]; decide⟩))
                  · skip
                    refine w_pushN 8 109 (by decide +kernel) ?_
                    refine w_goto 113 (by decide +kernel) ?_
                    refine w_pure .ior 114 (by decide +kernel) rfl rfl ?_
                    refine w_topi (fun v82 ev82 => ?_)
                    refine w_store (ls' := [.ref 0, .int (nI k2), .ref (70 + 2 * k2), .int v82]) (.istore_n 3) 115 (by decide +kernel) rfl rfl ?_
                    refine w_load (.iload_n 3) 116 (by decide +kernel) rfl rfl ?_
                    refine w_load (.aload_n 0) 117 (by decide +kernel) rfl rfl ?_
                    refine w_getR (k := 4) (r := 10) 120 (by decide +kernel) sh_0 rfl ?_
                    refine w_getI (k := 3) 123 (by decide +kernel) sh_10 rfl ?_
                    refine w_ile 131 126 (by decide +kernel) (fun h83 => ?_) (fun h83 => ?_)
                    · skip
                      refine w_pushN 0 132 (by decide +kernel) ?_
                      refine w_pure .ior 133 (by decide +kernel) rfl rfl ?_
                      refine w_topi (fun v84 ev84 => ?_)
                      refine w_store (ls' := [.ref 0, .int (nI k2), .ref (70 + 2 * k2), .int v84]) (.istore_n 3) 134 (by decide +kernel) rfl rfl ?_
                      refine w_load (.iload_n 3) 135 (by decide +kernel) rfl rfl ?_
                      exact w_ret (by decide +kernel) (hq _ Nr4 hS (Or.inr ⟨_, by assumption, rfl, false, false, true, true, false, if_f hpv, if_f (by assumption), if_t hlk, if_t (by assumption), if_f (by rw [← hSt.2.2.1]; exact ngt_of (by assumption)), by rw [ev84, ev82, ev74, ev71]; decide⟩))
                    · skip
                      refine w_pushN 16 128 (by decide +kernel) ?_
                      refine w_goto 132 (by decide +kernel) ?_
                      refine w_pure .ior 133 (by decide +kernel) rfl rfl ?_
                      refine w_topi (fun v85 ev85 => ?_)
                      refine w_store (ls' := [.ref 0, .int (nI k2), .ref (70 + 2 * k2), .int v85]) (.istore_n 3) 134 (by decide +kernel) rfl rfl ?_
                      refine w_load (.iload_n 3) 135 (by decide +kernel) rfl rfl ?_
                      exact w_ret (by decide +kernel) (hq _ Nr4 hS (Or.inr ⟨_, by assumption, rfl, false, false, true, true, true, if_f hpv, if_f (by assumption), if_t hlk, if_t (by assumption), if_t (by rw [← hSt.2.2.1]; exact gt_of (by assumption)), by rw [ev85, ev82, ev74, ev71]; decide⟩))
            · skip
              refine w_ieq 83 79 (by decide +kernel) (fun _ => ?_) (fun hz => absurd hz (by decide))
              refine w_pushN 0 84 (by decide +kernel) ?_
              refine w_pure .ior 85 (by decide +kernel) rfl rfl ?_
              refine w_topi (fun v87 ev87 => ?_)
              refine w_store (ls' := [.ref 0, .int (nI k2), .ref (70 + 2 * k2), .int v87]) (.istore_n 3) 86 (by decide +kernel) rfl rfl ?_
              refine w_load (.iload_n 3) 87 (by decide +kernel) rfl rfl ?_
              refine w_load (.aload_n 0) 88 (by decide +kernel) rfl rfl ?_
              refine w_getR (k := 4) (r := 10) 91 (by decide +kernel) sh_0 rfl ?_
              refine w_getR (k := 0) (r := 11) 94 (by decide +kernel) sh_10 rfl ?_
              refine w_callV0 20 1 1 97 (by decide +kernel) sh_11 (Nat.le_of_ble_eq_true rfl)  (by decide) (by omega) ?_
              refine s_dead hS.1 hs_11 (by omega) hGt hSt.1 (by omega) (fun r88 hr88 => ?_)
              dsimp only [Option.toList, List.cons_append, List.nil_append]
              rcases hr88 with rfl
              · skip
                refine w_load (.aload_n 0) 98 (by decide +kernel) rfl rfl ?_
                refine w_getR (k := 2) (r := 4) 101 (by decide +kernel) sh_0 rfl ?_
                refine w_callV0 20 1 1 104 (by decide +kernel) sh_4 (Nat.le_of_ble_eq_true rfl)  (by decide) (by omega) ?_
                refine s_dead hS.1 hs_4 (by omega) kn5 (by rw [hS.row (x := 5) (fun k => (by (try dsimp only); first | omega | (simp only [Hs, Tl, Sc, isHs, isScr, isTs] at *; omega)))]; exact hc) (by omega) (fun r89 hr89 => ?_)
                dsimp only [Option.toList, List.cons_append, List.nil_append]
                rcases hr89 with rfl
                · skip
                  refine w_ceq 112 107 (by decide +kernel) (fun h90 => ?_) (fun h90 => ?_)
                  · skip
                    refine w_pushN 0 113 (by decide +kernel) ?_
                    refine w_pure .ior 114 (by decide +kernel) rfl rfl ?_
                    refine w_topi (fun v91 ev91 => ?_)
                    refine w_store (ls' := [.ref 0, .int (nI k2), .ref (70 + 2 * k2), .int v91]) (.istore_n 3) 115 (by decide +kernel) rfl rfl ?_
                    refine w_load (.iload_n 3) 116 (by decide +kernel) rfl rfl ?_
                    refine w_load (.aload_n 0) 117 (by decide +kernel) rfl rfl ?_
                    refine w_getR (k := 4) (r := 10) 120 (by decide +kernel) sh_0 rfl ?_
                    refine w_getI (k := 3) 123 (by decide +kernel) sh_10 rfl ?_
                    refine w_ile 131 126 (by decide +kernel) (fun h92 => ?_) (fun h92 => ?_)
                    · skip
                      refine w_pushN 0 132 (by decide +kernel) ?_
                      refine w_pure .ior 133 (by decide +kernel) rfl rfl ?_
                      refine w_topi (fun v93 ev93 => ?_)
                      refine w_store (ls' := [.ref 0, .int (nI k2), .ref (70 + 2 * k2), .int v93]) (.istore_n 3) 134 (by decide +kernel) rfl rfl ?_
                      refine w_load (.iload_n 3) 135 (by decide +kernel) rfl rfl ?_
                      exact w_ret (by decide +kernel) (hq _ Nr4 hS (Or.inr ⟨_, by assumption, rfl, false, false, false, false, false, if_f hpv, if_f (by assumption), if_f hlk, if_f (fun hz => hz (by assumption)), if_f (by rw [← hSt.2.2.1]; exact ngt_of (by assumption)), by rw [ev93, ev91, ev87, ev71]; decide⟩))
                    · skip
                      refine w_pushN 16 128 (by decide +kernel) ?_
                      refine w_goto 132 (by decide +kernel) ?_
                      refine w_pure .ior 133 (by decide +kernel) rfl rfl ?_
                      refine w_topi (fun v94 ev94 => ?_)
                      refine w_store (ls' := [.ref 0, .int (nI k2), .ref (70 + 2 * k2), .int v94]) (.istore_n 3) 134 (by decide +kernel) rfl rfl ?_
                      refine w_load (.iload_n 3) 135 (by decide +kernel) rfl rfl ?_
                      exact w_ret (by decide +kernel) (hq _ Nr4 hS (Or.inr ⟨_, by assumption, rfl, false, false, false, false, true, if_f hpv, if_f (by assumption), if_f hlk, if_f (fun hz => hz (by assumption)), if_t (by rw [← hSt.2.2.1]; exact gt_of (by assumption)), by rw [ev94, ev91, ev87, ev71]; decide⟩))
                  · skip
                    refine w_pushN 8 109 (by decide +kernel) ?_
                    refine w_goto 113 (by decide +kernel) ?_
                    refine w_pure .ior 114 (by decide +kernel) rfl rfl ?_
                    refine w_topi (fun v95 ev95 => ?_)
                    refine w_store (ls' := [.ref 0, .int (nI k2), .ref (70 + 2 * k2), .int v95]) (.istore_n 3) 115 (by decide +kernel) rfl rfl ?_
                    refine w_load (.iload_n 3) 116 (by decide +kernel) rfl rfl ?_
                    refine w_load (.aload_n 0) 117 (by decide +kernel) rfl rfl ?_
                    refine w_getR (k := 4) (r := 10) 120 (by decide +kernel) sh_0 rfl ?_
                    refine w_getI (k := 3) 123 (by decide +kernel) sh_10 rfl ?_
                    refine w_ile 131 126 (by decide +kernel) (fun h96 => ?_) (fun h96 => ?_)
                    · skip
                      refine w_pushN 0 132 (by decide +kernel) ?_
                      refine w_pure .ior 133 (by decide +kernel) rfl rfl ?_
                      refine w_topi (fun v97 ev97 => ?_)
                      refine w_store (ls' := [.ref 0, .int (nI k2), .ref (70 + 2 * k2), .int v97]) (.istore_n 3) 134 (by decide +kernel) rfl rfl ?_
                      refine w_load (.iload_n 3) 135 (by decide +kernel) rfl rfl ?_
                      exact w_ret (by decide +kernel) (hq _ Nr4 hS (Or.inr ⟨_, by assumption, rfl, false, false, false, true, false, if_f hpv, if_f (by assumption), if_f hlk, if_t (by assumption), if_f (by rw [← hSt.2.2.1]; exact ngt_of (by assumption)), by rw [ev97, ev95, ev87, ev71]; decide⟩))
                    · skip
                      refine w_pushN 16 128 (by decide +kernel) ?_
                      refine w_goto 132 (by decide +kernel) ?_
                      refine w_pure .ior 133 (by decide +kernel) rfl rfl ?_
                      refine w_topi (fun v98 ev98 => ?_)
                      refine w_store (ls' := [.ref 0, .int (nI k2), .ref (70 + 2 * k2), .int v98]) (.istore_n 3) 134 (by decide +kernel) rfl rfl ?_
                      refine w_load (.iload_n 3) 135 (by decide +kernel) rfl rfl ?_
                      exact w_ret (by decide +kernel) (hq _ Nr4 hS (Or.inr ⟨_, by assumption, rfl, false, false, false, true, true, if_f hpv, if_f (by assumption), if_f hlk, if_t (by assumption), if_t (by rw [← hSt.2.2.1]; exact gt_of (by assumption)), by rw [ev98, ev95, ev87, ev71]; decide⟩))
          · skip
            refine w_pushN 2 55 (by decide +kernel) ?_
            refine w_goto 59 (by decide +kernel) ?_
            refine w_pure .ior 60 (by decide +kernel) rfl rfl ?_
            refine w_topi (fun v99 ev99 => ?_)
            refine w_store (ls' := [.ref 0, .int (nI k2), .ref (70 + 2 * k2), .int v99]) (.istore_n 3) 61 (by decide +kernel) rfl rfl ?_
            refine w_load (.iload_n 3) 62 (by decide +kernel) rfl rfl ?_
            refine w_load (.aload_n 0) 63 (by decide +kernel) rfl rfl ?_
            refine w_getR (k := 4) (r := 10) 66 (by decide +kernel) sh_0 rfl ?_
            refine w_getR (k := 0) (r := 11) 69 (by decide +kernel) sh_10 rfl ?_
            refine w_load (.aload_n 0) 70 (by decide +kernel) rfl rfl ?_
            refine w_getR (k := 2) (r := 4) 73 (by decide +kernel) sh_0 rfl ?_
            refine w_callV1 31 1 2 76 (by decide +kernel) sh_11 (Nat.le_of_ble_eq_true rfl) rfl (by decide) (by omega) ?_
            refine s_isLike hS.1 hs_11 hs_4 (by omega) hGt kn5 hSt.1 (by rw [hS.row (x := 5) (fun k => (by (try dsimp only); first | omega | (simp only [Hs, Tl, Sc, isHs, isScr, isTs] at *; omega)))]; exact hc) (by omega) (fun r100 hr100 => ?_)
            dsimp only [Option.toList, List.cons_append, List.nil_append]
            rcases hr100 with ⟨rfl, hlk⟩ | ⟨rfl, hlk⟩
            · skip
              refine w_ieq 83 79 (by decide +kernel) (fun hz => absurd hz (by decide)) (fun _ => ?_)
              refine w_pushN 4 80 (by decide +kernel) ?_
              refine w_goto 84 (by decide +kernel) ?_
              refine w_pure .ior 85 (by decide +kernel) rfl rfl ?_
              refine w_topi (fun v102 ev102 => ?_)
              refine w_store (ls' := [.ref 0, .int (nI k2), .ref (70 + 2 * k2), .int v102]) (.istore_n 3) 86 (by decide +kernel) rfl rfl ?_
              refine w_load (.iload_n 3) 87 (by decide +kernel) rfl rfl ?_
              refine w_load (.aload_n 0) 88 (by decide +kernel) rfl rfl ?_
              refine w_getR (k := 4) (r := 10) 91 (by decide +kernel) sh_0 rfl ?_
              refine w_getR (k := 0) (r := 11) 94 (by decide +kernel) sh_10 rfl ?_
              refine w_callV0 20 1 1 97 (by decide +kernel) sh_11 (Nat.le_of_ble_eq_true rfl)  (by decide) (by omega) ?_
              refine s_dead hS.1 hs_11 (by omega) hGt hSt.1 (by omega) (fun r103 hr103 => ?_)
              dsimp only [Option.toList, List.cons_append, List.nil_append]
              rcases hr103 with rfl
              · skip
                refine w_load (.aload_n 0) 98 (by decide +kernel) rfl rfl ?_
                refine w_getR (k := 2) (r := 4) 101 (by decide +kernel) sh_0 rfl ?_
                refine w_callV0 20 1 1 104 (by decide +kernel) sh_4 (Nat.le_of_ble_eq_true rfl)  (by decide) (by omega) ?_
                refine s_dead hS.1 hs_4 (by omega) kn5 (by rw [hS.row (x := 5) (fun k => (by (try dsimp only); first | omega | (simp only [Hs, Tl, Sc, isHs, isScr, isTs] at *; omega)))]; exact hc) (by omega) (fun r104 hr104 => ?_)
                dsimp only [Option.toList, List.cons_append, List.nil_append]
                rcases hr104 with rfl
                · skip
                  refine w_ceq 112 107 (by decide +kernel) (fun h105 => ?_) (fun h105 => ?_)
                  · skip
                    refine w_pushN 0 113 (by decide +kernel) ?_
                    refine w_pure .ior 114 (by decide +kernel) rfl rfl ?_
                    refine w_topi (fun v106 ev106 => ?_)
                    refine w_store (ls' := [.ref 0, .int (nI k2), .ref (70 + 2 * k2), .int v106]) (.istore_n 3) 115 (by decide +kernel) rfl rfl ?_
                    refine w_load (.iload_n 3) 116 (by decide +kernel) rfl rfl ?_
                    refine w_load (.aload_n 0) 117 (by decide +kernel) rfl rfl ?_
                    refine w_getR (k := 4) (r := 10) 120 (by decide +kernel) sh_0 rfl ?_
                    refine w_getI (k := 3) 123 (by decide +kernel) sh_10 rfl ?_
                    refine w_ile 131 126 (by decide +kernel) (fun h107 => ?_) (fun h107 => ?_)
                    · skip
                      refine w_pushN 0 132 (by decide +kernel) ?_
                      refine w_pure .ior 133 (by decide +kernel) rfl rfl ?_
                      refine w_topi (fun v108 ev108 => ?_)
                      refine w_store (ls' := [.ref 0, .int (nI k2), .ref (70 + 2 * k2), .int v108]) (.istore_n 3) 134 (by decide +kernel) rfl rfl ?_
                      refine w_load (.iload_n 3) 135 (by decide +kernel) rfl rfl ?_
                      exact w_ret (by decide +kernel) (hq _ Nr4 hS (Or.inr ⟨_, by assumption, rfl, false, true, true, false, false, if_f hpv, if_t (by assumption), if_t hlk, if_f (fun hz => hz (by assumption)), if_f (by rw [← hSt.2.2.1]; exact ngt_of (by assumption)), by rw [ev108, ev106, ev102, ev99]; decide⟩))
                    · skip
                      refine w_pushN 16 128 (by decide +kernel) ?_
                      refine w_goto 132 (by decide +kernel) ?_
                      refine w_pure .ior 133 (by decide +kernel) rfl rfl ?_
                      refine w_topi (fun v109 ev109 => ?_)
                      refine w_store (ls' := [.ref 0, .int (nI k2), .ref (70 + 2 * k2), .int v109]) (.istore_n 3) 134 (by decide +kernel) rfl rfl ?_
                      refine w_load (.iload_n 3) 135 (by decide +kernel) rfl rfl ?_
                      exact w_ret (by decide +kernel) (hq _ Nr4 hS (Or.inr ⟨_, by assumption, rfl, false, true, true, false, true, if_f hpv, if_t (by assumption), if_t hlk, if_f (fun hz => hz (by assumption)), if_t (by rw [← hSt.2.2.1]; exact gt_of (by assumption)), by rw [ev109, ev106, ev102, ev99]; decide⟩))
                  · skip
                    refine w_pushN 8 109 (by decide +kernel) ?_
                    refine w_goto 113 (by decide +kernel) ?_
                    refine w_pure .ior 114 (by decide +kernel) rfl rfl ?_
                    refine w_topi (fun v110 ev110 => ?_)
                    refine w_store (ls' := [.ref 0, .int (nI k2), .ref (70 + 2 * k2), .int v110]) (.istore_n 3) 115 (by decide +kernel) rfl rfl ?_
                    refine w_load (.iload_n 3) 116 (by decide +kernel) rfl rfl ?_
                    refine w_load (.aload_n 0) 117 (by decide +kernel) rfl rfl ?_
                    refine w_getR (k := 4) (r := 10) 120 (by decide +kernel) sh_0 rfl ?_
                    refine w_getI (k := 3) 123 (by decide +kernel) sh_10 rfl ?_
                    refine w_ile 131 126 (by decide +kernel) (fun h111 => ?_) (fun h111 => ?_)
                    · skip
                      refine w_pushN 0 132 (by decide +kernel) ?_
                      refine w_pure .ior 133 (by decide +kernel) rfl rfl ?_
                      refine w_topi (fun v112 ev112 => ?_)
                      refine w_store (ls' := [.ref 0, .int (nI k2), .ref (70 + 2 * k2), .int v112]) (.istore_n 3) 134 (by decide +kernel) rfl rfl ?_
                      refine w_load (.iload_n 3) 135 (by decide +kernel) rfl rfl ?_
                      exact w_ret (by decide +kernel) (hq _ Nr4 hS (Or.inr ⟨_, by assumption, rfl, false, true, true, true, false, if_f hpv, if_t (by assumption), if_t hlk, if_t (by assumption), if_f (by rw [← hSt.2.2.1]; exact ngt_of (by assumption)), by rw [ev112, ev110, ev102, ev99]; decide⟩))
                    · skip
                      refine w_pushN 16 128 (by decide +kernel) ?_
                      refine w_goto 132 (by decide +kernel) ?_
                      refine w_pure .ior 133 (by decide +kernel) rfl rfl ?_
                      refine w_topi (fun v113 ev113 => ?_)
                      refine w_store (ls' := [.ref 0, .int (nI k2), .ref (70 + 2 * k2), .int v113]) (.istore_n 3) 134 (by decide +kernel) rfl rfl ?_
                      refine w_load (.iload_n 3) 135 (by decide +kernel) rfl rfl ?_
                      exact w_ret (by decide +kernel) (hq _ Nr4 hS (Or.inr ⟨_, by assumption, rfl, false, true, true, true, true, if_f hpv, if_t (by assumption), if_t hlk, if_t (by assumption), if_t (by rw [← hSt.2.2.1]; exact gt_of (by assumption)), by rw [ev113, ev110, ev102, ev99]; decide⟩))
            · skip
              refine w_ieq 83 79 (by decide +kernel) (fun _ => ?_) (fun hz => absurd hz (by decide))
              refine w_pushN 0 84 (by decide +kernel) ?_
              refine w_pure .ior 85 (by decide +kernel) rfl rfl ?_
              refine w_topi (fun v115 ev115 => ?_)
              refine w_store (ls' := [.ref 0, .int (nI k2), .ref (70 + 2 * k2), .int v115]) (.istore_n 3) 86 (by decide +kernel) rfl rfl ?_
              refine w_load (.iload_n 3) 87 (by decide +kernel) rfl rfl ?_
              refine w_load (.aload_n 0) 88 (by decide +kernel) rfl rfl ?_
              refine w_getR (k := 4) (r := 10) 91 (by decide +kernel) sh_0 rfl ?_
              refine w_getR (k := 0) (r := 11) 94 (by decide +kernel) sh_10 rfl ?_
              refine w_callV0 20 1 1 97 (by decide +kernel) sh_11 (Nat.le_of_ble_eq_true rfl)  (by decide) (by omega) ?_
              refine s_dead hS.1 hs_11 (by omega) hGt hSt.1 (by omega) (fun r116 hr116 => ?_)
              dsimp only [Option.toList, List.cons_append, List.nil_append]
              rcases hr116 with rfl
              · skip
                refine w_load (.aload_n 0) 98 (by decide +kernel) rfl rfl ?_
                refine w_getR (k := 2) (r := 4) 101 (by decide +kernel) sh_0 rfl ?_
                refine w_callV0 20 1 1 104 (by decide +kernel) sh_4 (Nat.le_of_ble_eq_true rfl)  (by decide) (by omega) ?_
                refine s_dead hS.1 hs_4 (by omega) kn5 (by rw [hS.row (x := 5) (fun k => (by (try dsimp only); first | omega | (simp only [Hs, Tl, Sc, isHs, isScr, isTs] at *; omega)))]; exact hc) (by omega) (fun r117 hr117 => ?_)
                dsimp only [Option.toList, List.cons_append, List.nil_append]
                rcases hr117 with rfl
                · skip
                  refine w_ceq 112 107 (by decide +kernel) (fun h118 => ?_) (fun h118 => ?_)
                  · skip
                    refine w_pushN 0 113 (by decide +kernel) ?_
                    refine w_pure .ior 114 (by decide +kernel) rfl rfl ?_
                    refine w_topi (fun v119 ev119 => ?_)
                    refine w_store (ls' := [.ref 0, .int (nI k2), .ref (70 + 2 * k2), .int v119]) (.istore_n 3) 115 (by decide +kernel) rfl rfl ?_
                    refine w_load (.iload_n 3) 116 (by decide +kernel) rfl rfl ?_
                    refine w_load (.aload_n 0) 117 (by decide +kernel) rfl rfl ?_
                    refine w_getR (k := 4) (r := 10) 120 (by decide +kernel) sh_0 rfl ?_
                    refine w_getI (k := 3) 123 (by decide +kernel) sh_10 rfl ?_
                    refine w_ile 131 126 (by decide +kernel) (fun h120 => ?_) (fun h120 => ?_)
                    · skip
                      refine w_pushN 0 132 (by decide +kernel) ?_
                      refine w_pure .ior 133 (by decide +kernel) rfl rfl ?_
                      refine w_topi (fun v121 ev121 => ?_)
                      refine w_store (ls' := [.ref 0, .int (nI k2), .ref (70 + 2 * k2), .int v121]) (.istore_n 3) 134 (by decide +kernel) rfl rfl ?_
                      refine w_load (.iload_n 3) 135 (by decide +kernel) rfl rfl ?_
                      exact w_ret (by decide +kernel) (hq _ Nr4 hS (Or.inr ⟨_, by assumption, rfl, false, true, false, false, false, if_f hpv, if_t (by assumption), if_f hlk, if_f (fun hz => hz (by assumption)), if_f (by rw [← hSt.2.2.1]; exact ngt_of (by assumption)), by rw [ev121, ev119, ev115, ev99]; decide⟩))
                    · skip
                      refine w_pushN 16 128 (by decide +kernel) ?_
                      refine w_goto 132 (by decide +kernel) ?_
                      refine w_pure .ior 133 (by decide +kernel) rfl rfl ?_
                      refine w_topi (fun v122 ev122 => ?_)
                      refine w_store (ls' := [.ref 0, .int (nI k2), .ref (70 + 2 * k2), .int v122]) (.istore_n 3) 134 (by decide +kernel) rfl rfl ?_
                      refine w_load (.iload_n 3) 135 (by decide +kernel) rfl rfl ?_
                      exact w_ret (by decide +kernel) (hq _ Nr4 hS (Or.inr ⟨_, by assumption, rfl, false, true, false, false, true, if_f hpv, if_t (by assumption), if_f hlk, if_f (fun hz => hz (by assumption)), if_t (by rw [← hSt.2.2.1]; exact gt_of (by assumption)), by rw [ev122, ev119, ev115, ev99]; decide⟩))
                  · skip
                    refine w_pushN 8 109 (by decide +kernel) ?_
                    refine w_goto 113 (by decide +kernel) ?_
                    refine w_pure .ior 114 (by decide +kernel) rfl rfl ?_
                    refine w_topi (fun v123 ev123 => ?_)
                    refine w_store (ls' := [.ref 0, .int (nI k2), .ref (70 + 2 * k2), .int v123]) (.istore_n 3) 115 (by decide +kernel) rfl rfl ?_
                    refine w_load (.iload_n 3) 116 (by decide +kernel) rfl rfl ?_
                    refine w_load (.aload_n 0) 117 (by decide +kernel) rfl rfl ?_
                    refine w_getR (k := 4) (r := 10) 120 (by decide +kernel) sh_0 rfl ?_
                    refine w_getI (k := 3) 123 (by decide +kernel) sh_10 rfl ?_
                    refine w_ile 131 126 (by decide +kernel) (fun h124 => ?_) (fun h124 => ?_)
                    · skip
                      refine w_pushN 0 132 (by decide +kernel) ?_
                      refine w_pure .ior 133 (by decide +kernel) rfl rfl ?_
                      refine w_topi (fun v125 ev125 => ?_)
                      refine w_store (ls' := [.ref 0, .int (nI k2), .ref (70 + 2 * k2), .int v125]) (.istore_n 3) 134 (by decide +kernel) rfl rfl ?_
                      refine w_load (.iload_n 3) 135 (by decide +kernel) rfl rfl ?_
                      exact w_ret (by decide +kernel) (hq _ Nr4 hS (Or.inr ⟨_, by assumption, rfl, false, true, false, true, false, if_f hpv, if_t (by assumption), if_f hlk, if_t (by assumption), if_f (by rw [← hSt.2.2.1]; exact ngt_of (by assumption)), by rw [ev125, ev123, ev115, ev99]; decide⟩))
                    · skip
                      refine w_pushN 16 128 (by decide +kernel) ?_
                      refine w_goto 132 (by decide +kernel) ?_
                      refine w_pure .ior 133 (by decide +kernel) rfl rfl ?_
                      refine w_topi (fun v126 ev126 => ?_)
                      refine w_store (ls' := [.ref 0, .int (nI k2), .ref (70 + 2 * k2), .int v126]) (.istore_n 3) 134 (by decide +kernel) rfl rfl ?_
                      refine w_load (.iload_n 3) 135 (by decide +kernel) rfl rfl ?_
                      exact w_ret (by decide +kernel) (hq _ Nr4 hS (Or.inr ⟨_, by assumption, rfl, false, true, false, true, true, if_f hpv, if_t (by assumption), if_f hlk, if_t (by assumption), if_t (by rw [← hSt.2.2.1]; exact gt_of (by assumption)), by rw [ev126, ev123, ev115, ev99]; decide⟩))
  · skip
    refine w_ine 9 7 (by decide +kernel) (fun hz => absurd hz (by decide)) (fun _ => ?_)
    refine w_push (-1) 8 (by decide +kernel) ?_
    exact w_ret (by decide +kernel) (hq _ N hS (Or.inl ⟨rfl, by assumption⟩))
