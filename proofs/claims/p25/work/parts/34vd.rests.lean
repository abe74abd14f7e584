-- X7_isRest#s
set_option maxRecDepth 10000 in
theorem s_isRest {d : Nat} {M : Mt} {L : Lt} {Q : Option Value → Mt → Lt → Prop} {x y : Nat} {f h : Nat → Nat → Int32}  (hI : Inv M) (hx : x < 4) (hy : y < 4) (hF : mnQ f 16 (M 68)) (hG : mnQ h 16 (M 69)) (hd : 0 ≤ d) (hq : ∀ (r : Int32), ((r = 1 ∧ rsx f h x y) ∨ (r = 0 ∧ ¬ rsx f h x y)) → Q (some (.int r)) M L) : Wp d 127 0 [.ref 0, .int (nI x), .int (nI y), .null, .null, .null, .null] [] M L Q := by
  refine w_load (.iload_n 1) 1 (by decide +kernel) rfl rfl ?_
  refine w_pushN 4 2 (by decide +kernel) ?_
  refine w_mulN (x * 4) 3 (by decide +kernel) rfl ?_
  refine w_load (.iload_n 2) 4 (by decide +kernel) rfl rfl ?_
  refine w_addN (x * 4 + y) 5 (by decide +kernel) (by omega) ?_
  refine w_store (ls' := [.ref 0, .int (nI x), .int (nI y), .int (nI (x * 4 + y)), .null, .null, .null]) (.istore_n 3) 6 (by decide +kernel) rfl rfl ?_
  refine w_pushN 0 7 (by decide +kernel) ?_
  refine w_store (ls' := [.ref 0, .int (nI x), .int (nI y), .int (nI (x * 4 + y)), .int (nI 0), .null, .null]) (.istore 4) 9 (by decide +kernel) rfl rfl ?_
  have LP_9 : ∀ (kk : Nat) (g4 : Nat), g4 ≤ 4 → (∀ z, z < g4 → f z y ≤ f x y ∧ h x z ≤ h x y) → 4 - g4 < kk → Wp d 127 9 [.ref 0, .int (nI x), .int (nI y), .int (nI (x * 4 + y)), .int (nI g4), .null, .null] [] M L Q := by
    intro kk
    induction kk with
    | zero => intro g4 hi0_9 hi1_9 hm_9; exact absurd hm_9 (Nat.not_lt_zero _)
    | succ kk ih_9 =>
      intro g4 hi0_9 hi1_9 hm_9
      refine w_load (.iload 4) 11 (by decide +kernel) rfl rfl ?_
      refine w_pushN 4 12 (by decide +kernel) ?_
      refine w_cgeN 87 15 (by decide +kernel) (by omega) (by omega) (fun h1 => ?_) (fun h1 => ?_)
      · skip
        refine w_pushN 1 88 (by decide +kernel) ?_
        exact w_retZ (by decide +kernel) (Or.inr rfl) (hq _ (Or.inl ⟨rfl, fun z hz => hi1_9 z (by omega)⟩))
      · skip
        refine w_load (.aload_n 0) 16 (by decide +kernel) rfl rfl ?_
        refine w_getR (k := 12) (r := 68) 19 (by decide +kernel) sh_0 rfl ?_
        refine w_load (.iload 4) 21 (by decide +kernel) rfl rfl ?_
        refine w_pushN 4 22 (by decide +kernel) ?_
        refine w_mulN (g4 * 4) 23 (by decide +kernel) rfl ?_
        refine w_load (.iload_n 2) 24 (by decide +kernel) rfl rfl ?_
        refine w_addN (g4 * 4 + y) 25 (by decide +kernel) (by omega) ?_
        refine w_ialdN 26 (by decide +kernel) sh_68 (by omega) (by omega) ?_
        refine w_load (.aload_n 0) 27 (by decide +kernel) rfl rfl ?_
        refine w_getR (k := 12) (r := 68) 30 (by decide +kernel) sh_0 rfl ?_
        refine w_load (.iload_n 3) 31 (by decide +kernel) rfl rfl ?_
        refine w_ialdN 32 (by decide +kernel) sh_68 (by omega) (by omega) ?_
        refine w_cgt 39 35 (by decide +kernel) (fun h2 => ?_) (fun h2 => ?_)
        · skip
          refine w_pushN 0 40 (by decide +kernel) ?_
          refine w_store (ls' := [.ref 0, .int (nI x), .int (nI y), .int (nI (x * 4 + y)), .int (nI g4), .int (nI 0), .null]) (.istore 5) 42 (by decide +kernel) rfl rfl ?_
          refine w_load (.aload_n 0) 43 (by decide +kernel) rfl rfl ?_
          refine w_getR (k := 13) (r := 69) 46 (by decide +kernel) sh_0 rfl ?_
          refine w_load (.iload_n 1) 47 (by decide +kernel) rfl rfl ?_
          refine w_pushN 4 48 (by decide +kernel) ?_
          refine w_mulN (x * 4) 49 (by decide +kernel) rfl ?_
          refine w_load (.iload 4) 51 (by decide +kernel) rfl rfl ?_
          refine w_addN (x * 4 + g4) 52 (by decide +kernel) (by omega) ?_
          refine w_ialdN 53 (by decide +kernel) sh_69 (by omega) (by omega) ?_
          refine w_load (.aload_n 0) 54 (by decide +kernel) rfl rfl ?_
          refine w_getR (k := 13) (r := 69) 57 (by decide +kernel) sh_0 rfl ?_
          refine w_load (.iload_n 3) 58 (by decide +kernel) rfl rfl ?_
          refine w_ialdN 59 (by decide +kernel) sh_69 (by omega) (by omega) ?_
          refine w_cgt 66 62 (by decide +kernel) (fun h3 => ?_) (fun h3 => ?_)
          · skip
            refine w_pushN 0 67 (by decide +kernel) ?_
            refine w_store (ls' := [.ref 0, .int (nI x), .int (nI y), .int (nI (x * 4 + y)), .int (nI g4), .int (nI 0), .int (nI 0)]) (.istore 6) 69 (by decide +kernel) rfl rfl ?_
            refine w_load (.iload 5) 71 (by decide +kernel) rfl rfl ?_
            refine w_ieq 79 74 (by decide +kernel) (fun _ => ?_) (fun hz => absurd hz (by decide))
            refine w_pushN 0 80 (by decide +kernel) ?_
            exact w_retZ (by decide +kernel) (Or.inl rfl) (hq _ (Or.inr ⟨rfl, by first | exact rs_no1 (g := g4) hF hx hy (by omega) rfl rfl (by assumption) | exact rs_no2 (g := g4) hG hx hy (by omega) rfl rfl (by assumption)⟩))
          · skip
            refine w_pushN 1 63 (by decide +kernel) ?_
            refine w_goto 67 (by decide +kernel) ?_
            refine w_store (ls' := [.ref 0, .int (nI x), .int (nI y), .int (nI (x * 4 + y)), .int (nI g4), .int (nI 0), .int (nI 1)]) (.istore 6) 69 (by decide +kernel) rfl rfl ?_
            refine w_load (.iload 5) 71 (by decide +kernel) rfl rfl ?_
            refine w_ieq 79 74 (by decide +kernel) (fun _ => ?_) (fun hz => absurd hz (by decide))
            refine w_pushN 0 80 (by decide +kernel) ?_
            exact w_retZ (by decide +kernel) (Or.inl rfl) (hq _ (Or.inr ⟨rfl, by first | exact rs_no1 (g := g4) hF hx hy (by omega) rfl rfl (by assumption) | exact rs_no2 (g := g4) hG hx hy (by omega) rfl rfl (by assumption)⟩))
        · skip
          refine w_pushN 1 36 (by decide +kernel) ?_
          refine w_goto 40 (by decide +kernel) ?_
          refine w_store (ls' := [.ref 0, .int (nI x), .int (nI y), .int (nI (x * 4 + y)), .int (nI g4), .int (nI 1), .null]) (.istore 5) 42 (by decide +kernel) rfl rfl ?_
          refine w_load (.aload_n 0) 43 (by decide +kernel) rfl rfl ?_
          refine w_getR (k := 13) (r := 69) 46 (by decide +kernel) sh_0 rfl ?_
          refine w_load (.iload_n 1) 47 (by decide +kernel) rfl rfl ?_
          refine w_pushN 4 48 (by decide +kernel) ?_
          refine w_mulN (x * 4) 49 (by decide +kernel) rfl ?_
          refine w_load (.iload 4) 51 (by decide +kernel) rfl rfl ?_
          refine w_addN (x * 4 + g4) 52 (by decide +kernel) (by omega) ?_
          refine w_ialdN 53 (by decide +kernel) sh_69 (by omega) (by omega) ?_
          refine w_load (.aload_n 0) 54 (by decide +kernel) rfl rfl ?_
          refine w_getR (k := 13) (r := 69) 57 (by decide +kernel) sh_0 rfl ?_
          refine w_load (.iload_n 3) 58 (by decide +kernel) rfl rfl ?_
          refine w_ialdN 59 (by decide +kernel) sh_69 (by omega) (by omega) ?_
          refine w_cgt 66 62 (by decide +kernel) (fun h6 => ?_) (fun h6 => ?_)
          · skip
            refine w_pushN 0 67 (by decide +kernel) ?_
            refine w_store (ls' := [.ref 0, .int (nI x), .int (nI y), .int (nI (x * 4 + y)), .int (nI g4), .int (nI 1), .int (nI 0)]) (.istore 6) 69 (by decide +kernel) rfl rfl ?_
            refine w_load (.iload 5) 71 (by decide +kernel) rfl rfl ?_
            refine w_ieq 79 74 (by decide +kernel) (fun hz => absurd hz (by decide)) (fun _ => ?_)
            refine w_load (.iload 6) 76 (by decide +kernel) rfl rfl ?_
            refine w_ine 81 79 (by decide +kernel) (fun hz => absurd hz (by decide)) (fun _ => ?_)
            refine w_pushN 0 80 (by decide +kernel) ?_
            exact w_retZ (by decide +kernel) (Or.inl rfl) (hq _ (Or.inr ⟨rfl, by first | exact rs_no1 (g := g4) hF hx hy (by omega) rfl rfl (by assumption) | exact rs_no2 (g := g4) hG hx hy (by omega) rfl rfl (by assumption)⟩))
          · skip
            refine w_pushN 1 63 (by decide +kernel) ?_
            refine w_goto 67 (by decide +kernel) ?_
            refine w_store (ls' := [.ref 0, .int (nI x), .int (nI y), .int (nI (x * 4 + y)), .int (nI g4), .int (nI 1), .int (nI 1)]) (.istore 6) 69 (by decide +kernel) rfl rfl ?_
            refine w_load (.iload 5) 71 (by decide +kernel) rfl rfl ?_
            refine w_ieq 79 74 (by decide +kernel) (fun hz => absurd hz (by decide)) (fun _ => ?_)
            refine w_load (.iload 6) 76 (by decide +kernel) rfl rfl ?_
            refine w_ine 81 79 (by decide +kernel) (fun _ => ?_) (fun hz => absurd hz (by decide))
            refine w_iincN (z := 4) (g4 + 1) 84 (by decide +kernel) rfl (Nat.le_of_ble_eq_true rfl) rfl rfl ?_
            show Wp _ _ _ [.ref 0, .int (nI x), .int (nI y), .int (nI (x * 4 + y)), .int (nI (g4 + 1)), .int (nI 1), .int (nI 1)] _ _ _ _
            refine w_goto 9 (by decide +kernel) ?_
            refine Wp.forget (ls := [.ref 0, .int (nI x), .int (nI y), .int (nI (x * 4 + y)), .int (nI (g4 + 1)), .null, .null]) ⟨Or.inl rfl, Or.inl rfl, Or.inl rfl, Or.inl rfl, Or.inl rfl, Or.inr ⟨rfl, rfl⟩, Or.inr ⟨rfl, rfl⟩, trivial⟩ ?_
            exact ih_9 (g4 + 1) (by first | omega | exact rs_in (g := g4) hF hG hx hy (by omega) rfl rfl rfl hi1_9 (by assumption) (by assumption)) (by first | omega | exact rs_in (g := g4) hF hG hx hy (by omega) rfl rfl rfl hi1_9 (by assumption) (by assumption)) (by omega)
  exact LP_9 _ 0 (by first | omega | (intro z hz; omega)) (by first | omega | (intro z hz; omega)) (Nat.lt_succ_self _)
-- X7_restsInAll#s
set_option maxRecDepth 10000 in
theorem s_restsInAll {d : Nat} {M : Mt} {L : Lt} {Q : Option Value → Mt → Lt → Prop} {f h : Nat → Nat → Int32}  (hI : Inv M) (hF : mnQ f 16 (M 68)) (hG : mnQ h 16 (M 69)) (hd : 1 ≤ d) (hq : ∀ (r : Int32), (r = nI (cntP (rstP f h) 16)) → Q (some (.int r)) M L) : Wp d 128 0 [.ref 0, .null, .null] [] M L Q := by
  refine w_pushN 0 1 (by decide +kernel) ?_
  refine w_store (ls' := [.ref 0, .int (nI 0), .null]) (.istore_n 1) 2 (by decide +kernel) rfl rfl ?_
  refine w_pushN 0 3 (by decide +kernel) ?_
  refine w_store (ls' := [.ref 0, .int (nI 0), .int (nI 0)]) (.istore_n 2) 4 (by decide +kernel) rfl rfl ?_
  have LP_4 : ∀ (kk : Nat) (g1 : Nat) (g2 : Nat), g2 ≤ 16 → g1 = cntP (rstP f h) g2 → g1 ≤ g2 → 16 - g2 < kk → Wp d 128 4 [.ref 0, .int (nI g1), .int (nI g2)] [] M L Q := by
    intro kk
    induction kk with
    | zero => intro g1 g2 hi0_4 hi1_4 hi2_4 hm_4; exact absurd hm_4 (Nat.not_lt_zero _)
    | succ kk ih_4 =>
      intro g1 g2 hi0_4 hi1_4 hi2_4 hm_4
      refine w_load (.iload_n 2) 5 (by decide +kernel) rfl rfl ?_
      refine w_pushN 16 7 (by decide +kernel) ?_
      refine w_cgeN 37 10 (by decide +kernel) (by omega) (by omega) (fun h1 => ?_) (fun h1 => ?_)
      · skip
        refine w_load (.iload_n 1) 38 (by decide +kernel) rfl rfl ?_
        exact w_ret (by decide +kernel) (hq _ (by have hgn : g2 = 16 := (by omega); rw [hgn] at hi1_4; rw [hi1_4]))
      · skip
        refine w_load (.iload_n 1) 11 (by decide +kernel) rfl rfl ?_
        refine w_load (.aload_n 0) 12 (by decide +kernel) rfl rfl ?_
        refine w_load (.iload_n 2) 13 (by decide +kernel) rfl rfl ?_
        refine w_pushN 4 14 (by decide +kernel) ?_
        refine w_divN (g2 / 4) 15 (by decide +kernel) (by decide) (by decide) (by omega) rfl ?_
        refine w_load (.iload_n 2) 16 (by decide +kernel) rfl rfl ?_
        refine w_pushN 4 17 (by decide +kernel) ?_
        refine w_remN (g2 % 4) 18 (by decide +kernel) (by decide) (by decide) (by omega) rfl ?_
        refine w_callV2 127 7 7 21 (by decide +kernel) sh_0 (Nat.le_of_ble_eq_true rfl) rfl rfl (by decide) (by omega) ?_
        refine s_isRest hI (by omega) (by omega) hF hG (by omega) (fun r2 hr2 => ?_)
        dsimp only [Option.toList, List.cons_append, List.nil_append]
        rcases hr2 with ⟨rfl, hzr2⟩ | ⟨rfl, hzr2⟩
        · skip
          refine w_ieq 28 24 (by decide +kernel) (fun hz => absurd hz (by decide)) (fun _ => ?_)
          refine w_pushN 1 25 (by decide +kernel) ?_
          refine w_goto 29 (by decide +kernel) ?_
          refine w_addN (g1 + 1) 30 (by decide +kernel) (by omega) ?_
          refine w_store (ls' := [.ref 0, .int (nI (g1 + 1)), .int (nI g2)]) (.istore_n 1) 31 (by decide +kernel) rfl rfl ?_
          refine w_iincN (z := 2) (g2 + 1) 34 (by decide +kernel) rfl (Nat.le_of_ble_eq_true rfl) rfl rfl ?_
          show Wp _ _ _ [.ref 0, .int (nI (g1 + 1)), .int (nI (g2 + 1))] _ _ _ _
          refine w_goto 4 (by decide +kernel) ?_
          exact ih_4 (g1 + 1) (g2 + 1) (by first | omega | (rw [cnt_t (by assumption)]; omega) | (rw [cnt_f (by assumption)]; omega)) (by first | omega | (rw [cnt_t (by assumption)]; omega) | (rw [cnt_f (by assumption)]; omega)) (by first | omega | (rw [cnt_t (by assumption)]; omega) | (rw [cnt_f (by assumption)]; omega)) (by omega)
        · skip
          refine w_ieq 28 24 (by decide +kernel) (fun _ => ?_) (fun hz => absurd hz (by decide))
          refine w_pushN 0 29 (by decide +kernel) ?_
          refine w_addN g1 30 (by decide +kernel) (by omega) ?_
          refine w_store (ls' := [.ref 0, .int (nI g1), .int (nI g2)]) (.istore_n 1) 31 (by decide +kernel) rfl rfl ?_
          refine w_iincN (z := 2) (g2 + 1) 34 (by decide +kernel) rfl (Nat.le_of_ble_eq_true rfl) rfl rfl ?_
          show Wp _ _ _ [.ref 0, .int (nI g1), .int (nI (g2 + 1))] _ _ _ _
          refine w_goto 4 (by decide +kernel) ?_
          exact ih_4 g1 (g2 + 1) (by first | omega | (rw [cnt_t (by assumption)]; omega) | (rw [cnt_f (by assumption)]; omega)) (by first | omega | (rw [cnt_t (by assumption)]; omega) | (rw [cnt_f (by assumption)]; omega)) (by first | omega | (rw [cnt_t (by assumption)]; omega) | (rw [cnt_f (by assumption)]; omega)) (by omega)
  exact LP_4 _ 0 0 (by first | omega | rfl) (by first | omega | rfl) (by first | omega | rfl) (Nat.lt_succ_self _)
-- X7_firstRest#s
set_option maxRecDepth 10000 in
theorem s_firstRest {d : Nat} {M : Mt} {L : Lt} {Q : Option Value → Mt → Lt → Prop} {f h : Nat → Nat → Int32}  (hI : Inv M) (hF : mnQ f 16 (M 68)) (hG : mnQ h 16 (M 69)) (hd : 1 ≤ d) (hq : ∀ (r : Int32), (fstP (rstP f h) 16 r) → Q (some (.int r)) M L) : Wp d 129 0 [.ref 0, .null] [] M L Q := by
  refine w_pushN 0 1 (by decide +kernel) ?_
  refine w_store (ls' := [.ref 0, .int (nI 0)]) (.istore_n 1) 2 (by decide +kernel) rfl rfl ?_
  have LP_2 : ∀ (kk : Nat) (g1 : Nat), g1 ≤ 16 → (∀ i, i < g1 → ¬ rstP f h i) → 16 - g1 < kk → Wp d 129 2 [.ref 0, .int (nI g1)] [] M L Q := by
    intro kk
    induction kk with
    | zero => intro g1 hi0_2 hi1_2 hm_2; exact absurd hm_2 (Nat.not_lt_zero _)
    | succ kk ih_2 =>
      intro g1 hi0_2 hi1_2 hm_2
      refine w_load (.iload_n 1) 3 (by decide +kernel) rfl rfl ?_
      refine w_pushN 16 5 (by decide +kernel) ?_
      refine w_cgeN 38 8 (by decide +kernel) (by omega) (by omega) (fun h1 => ?_) (fun h1 => ?_)
      · skip
        refine w_push (-9) 40 (by decide +kernel) ?_
        exact w_ret (by decide +kernel) (hq _ (Or.inr ⟨fun i hi => hi1_2 i (by omega), rfl⟩))
      · skip
        refine w_load (.aload_n 0) 9 (by decide +kernel) rfl rfl ?_
        refine w_load (.iload_n 1) 10 (by decide +kernel) rfl rfl ?_
        refine w_pushN 4 11 (by decide +kernel) ?_
        refine w_divN (g1 / 4) 12 (by decide +kernel) (by decide) (by decide) (by omega) rfl ?_
        refine w_load (.iload_n 1) 13 (by decide +kernel) rfl rfl ?_
        refine w_pushN 4 14 (by decide +kernel) ?_
        refine w_remN (g1 % 4) 15 (by decide +kernel) (by decide) (by decide) (by omega) rfl ?_
        refine w_callV2 127 7 7 18 (by decide +kernel) sh_0 (Nat.le_of_ble_eq_true rfl) rfl rfl (by decide) (by omega) ?_
        refine s_isRest hI (by omega) (by omega) hF hG (by omega) (fun r2 hr2 => ?_)
        dsimp only [Option.toList, List.cons_append, List.nil_append]
        rcases hr2 with ⟨rfl, hzr2⟩ | ⟨rfl, hzr2⟩
        · skip
          refine w_ieq 32 21 (by decide +kernel) (fun hz => absurd hz (by decide)) (fun _ => ?_)
          refine w_pushN 10 23 (by decide +kernel) ?_
          refine w_load (.iload_n 1) 24 (by decide +kernel) rfl rfl ?_
          refine w_pushN 4 25 (by decide +kernel) ?_
          refine w_divN (g1 / 4) 26 (by decide +kernel) (by decide) (by decide) (by omega) rfl ?_
          refine w_mulN (10 * ((g1 / 4))) 27 (by decide +kernel) rfl ?_
          refine w_load (.iload_n 1) 28 (by decide +kernel) rfl rfl ?_
          refine w_pushN 4 29 (by decide +kernel) ?_
          refine w_remN (g1 % 4) 30 (by decide +kernel) (by decide) (by decide) (by omega) rfl ?_
          refine w_addN (10 * ((g1 / 4)) + (g1 % 4)) 31 (by decide +kernel) (by omega) ?_
          exact w_ret (by decide +kernel) (hq _ (Or.inl ⟨g1, by omega, by assumption, hi1_2, rfl⟩))
        · skip
          refine w_ieq 32 21 (by decide +kernel) (fun _ => ?_) (fun hz => absurd hz (by decide))
          refine w_iincN (z := 1) (g1 + 1) 35 (by decide +kernel) rfl (Nat.le_of_ble_eq_true rfl) rfl rfl ?_
          show Wp _ _ _ [.ref 0, .int (nI (g1 + 1))] _ _ _ _
          refine w_goto 2 (by decide +kernel) ?_
          exact ih_2 (g1 + 1) (by first | omega | exact lt_ext hi1_2 (by assumption)) (by first | omega | exact lt_ext hi1_2 (by assumption)) (by omega)
  exact LP_2 _ 0 (by first | omega | (intro i hi; omega)) (by first | omega | (intro i hi; omega)) (Nat.lt_succ_self _)
-- X7_rests#s
set_option maxRecDepth 10000 in
theorem s_rests {d : Nat} {M : Mt} {L : Lt} {Q : Option Value → Mt → Lt → Prop} {n : Nat} {c pw : Row} {T : TLs} {od : Row} {g : Int32} {o : Int32} {w : Int32} (hI : Inv M) (hn : n ≤ 5) (en : M 4 2 = nI n) (hc : HE n (M 5) c) (hp : LQ n (M 6) pw) (hw : wedOk n c) (hT : tlX T M) (ho : ∀ t, t < 3 → M 67 t = od t) (hd : 7 ≤ d) (hq : ∀ (r : Int32) (N : Mt), St (fun i _ => (7 ≤ i ∧ i ≤ 57) ∨ i = 63 ∨ i = 68 ∨ i = 69) M N → ((r = -1 ∧ ¬ ((∃ k, k < n ∧ g = nI k) ∧ (∃ k, k < n ∧ o = nI k))) ∨ (∃ a b, a < n ∧ g = nI a ∧ b < n ∧ o = nI b ∧ ((r = -2 ∧ ¬ (¬ a = b ∧ inR w 0 1)) ∨ ((¬ a = b ∧ inR w 0 1) ∧ ((r = -3 ∧ ¬ (tb (c 15) a = true ∧ tb (c 15) b = true)) ∨ ((tb (c 15) a = true ∧ tb (c 15) b = true) ∧ rsR (rsP n T pw od c a b) w r)))))) → Q (some (.int r)) N L) : Wp d 99 0 [.ref 0, .int g, .int o, .int w, .null] [] M L Q := by
  refine (show ∀ N : Mt, N = M → St (fun i _ => (7 ≤ i ∧ i ≤ 57) ∨ i = 63 ∨ i = 68 ∨ i = 69) M N → Wp d 99 0 [.ref 0, .int g, .int o, .int w, .null] [] N L Q from ?_) M rfl (St.rf hI)
  intro N hNM hS
  have kz0 : N (4) 2 = nI n := by rw [hNM]; exact en
  refine w_load (.aload_n 0) 1 (by decide +kernel) rfl rfl ?_
  refine w_getR (k := 2) (r := 4) 4 (by decide +kernel) sh_0 rfl ?_
  refine w_load (.iload_n 1) 5 (by decide +kernel) rfl rfl ?_
  refine w_callV1 11 1 2 8 (by decide +kernel) sh_4 (Nat.le_of_ble_eq_true rfl) rfl (by decide) (by omega) ?_
  refine k_11 hS.1 hs_4 (by omega) kz0 (by omega) (fun r1 hr1 => ?_)
  dsimp only [Option.toList, List.cons_append, List.nil_append]
  rcases hr1 with ⟨rfl, k2, hk2, rfl⟩ | ⟨rfl, hnok2⟩
  · skip
    refine w_ieq 22 11 (by decide +kernel) (fun hz => absurd hz (by decide)) (fun _ => ?_)
    refine w_load (.aload_n 0) 12 (by decide +kernel) rfl rfl ?_
    refine w_getR (k := 2) (r := 4) 15 (by decide +kernel) sh_0 rfl ?_
    refine w_load (.iload_n 2) 16 (by decide +kernel) rfl rfl ?_
    refine w_callV1 11 1 2 19 (by decide +kernel) sh_4 (Nat.le_of_ble_eq_true rfl) rfl (by decide) (by omega) ?_
    refine k_11 hS.1 hs_4 (by omega) kz0 (by omega) (fun r4 hr4 => ?_)
    dsimp only [Option.toList, List.cons_append, List.nil_append]
    rcases hr4 with ⟨rfl, k5, hk5, rfl⟩ | ⟨rfl, hnok5⟩
    · skip
      refine w_ine 24 22 (by decide +kernel) (fun _ => ?_) (fun hz => absurd hz (by decide))
      refine w_load (.iload_n 1) 25 (by decide +kernel) rfl rfl ?_
      refine w_load (.iload_n 2) 26 (by decide +kernel) rfl rfl ?_
      refine w_ceqN 38 29 (by decide +kernel) (by omega) (by omega) (fun h7 => ?_) (fun h7 => ?_)
      · skip
        refine w_push (-2) 40 (by decide +kernel) ?_
        exact w_ret (by decide +kernel) (hq _ N hS (Or.inr ⟨_, _, by assumption, rfl, by assumption, rfl, Or.inl ⟨rfl, fun hz => by first | exact absurd (by assumption) hz.1 | exact inR_lo (by assumption) (by decide) hz.2 | exact inR_nle (by assumption) (by decide) hz.2⟩⟩))
      · skip
        refine w_load (.iload_n 3) 30 (by decide +kernel) rfl rfl ?_
        refine w_ilt 38 33 (by decide +kernel) (fun h8 => ?_) (fun h8 => ?_)
        · skip
          refine w_push (-2) 40 (by decide +kernel) ?_
          exact w_ret (by decide +kernel) (hq _ N hS (Or.inr ⟨_, _, by assumption, rfl, by assumption, rfl, Or.inl ⟨rfl, fun hz => by first | exact absurd (by assumption) hz.1 | exact inR_lo (by assumption) (by decide) hz.2 | exact inR_nle (by assumption) (by decide) hz.2⟩⟩))
        · skip
          refine w_load (.iload_n 3) 34 (by decide +kernel) rfl rfl ?_
          refine w_pushN 1 35 (by decide +kernel) ?_
          refine w_cle 41 38 (by decide +kernel) (fun h9 => ?_) (fun h9 => ?_)
          · skip
            refine w_load (.aload_n 0) 42 (by decide +kernel) rfl rfl ?_
            refine w_getR (k := 2) (r := 4) 45 (by decide +kernel) sh_0 rfl ?_
            refine w_load (.iload_n 1) 46 (by decide +kernel) rfl rfl ?_
            refine w_callV1 16 1 2 49 (by decide +kernel) sh_4 (Nat.le_of_ble_eq_true rfl) rfl (by decide) (by omega) ?_
            refine s_lives hS.1 hs_4 (by omega) kz0 (by rw [hNM]; exact hc) (by omega) (by omega) (fun r10 hr10 => ?_)
            dsimp only [Option.toList, List.cons_append, List.nil_append]
            rcases hr10 with ⟨rfl, htr10⟩ | ⟨rfl, htr10⟩
            · skip
              refine w_ieq 63 52 (by decide +kernel) (fun hz => absurd hz (by decide)) (fun _ => ?_)
              refine w_load (.aload_n 0) 53 (by decide +kernel) rfl rfl ?_
              refine w_getR (k := 2) (r := 4) 56 (by decide +kernel) sh_0 rfl ?_
              refine w_load (.iload_n 2) 57 (by decide +kernel) rfl rfl ?_
              refine w_callV1 16 1 2 60 (by decide +kernel) sh_4 (Nat.le_of_ble_eq_true rfl) rfl (by decide) (by omega) ?_
              refine s_lives hS.1 hs_4 (by omega) kz0 (by rw [hNM]; exact hc) (by omega) (by omega) (fun r12 hr12 => ?_)
              dsimp only [Option.toList, List.cons_append, List.nil_append]
              rcases hr12 with ⟨rfl, htr12⟩ | ⟨rfl, htr12⟩
              · skip
                refine w_ine 66 63 (by decide +kernel) (fun _ => ?_) (fun hz => absurd hz (by decide))
                refine w_load (.aload_n 0) 67 (by decide +kernel) rfl rfl ?_
                refine w_getR (k := 3) (r := 7) 70 (by decide +kernel) sh_0 rfl ?_
                refine w_load (.aload_n 0) 71 (by decide +kernel) rfl rfl ?_
                refine w_getR (k := 2) (r := 4) 74 (by decide +kernel) sh_0 rfl ?_
                refine w_callV1 8 1 2 77 (by decide +kernel) sh_7 (Nat.le_of_ble_eq_true rfl) rfl (by decide) (by omega) ?_
                refine k_8 hS.1 hs_7 hs_4 (by omega) (fun Nr14 hTr14 hr14 => ?_)
                have hS := hS.tr hTr14 (by intro i k; first | exact rfl | exact fun h => h.elim | omega | (dsimp only; omega) | (simp only [Hs, Tl, Sc, isHs, isScr, isTs] at *; omega))
                have c7 : HE n (Nr14 8) c := by rw [hr14]; exact (HE.of17 hn (fun k hk => cpH_c (o := 4) hk)).tr (by rw [hNM]; exact hc)
                have g7 : Nr14 7 2 = nI n := by rw [hr14, cpH_g]; exact (by rw [hNM]; exact en)
                have p7 : LQ n (Nr14 9) pw := by rw [hr14]; exact fun g hg => (cpH_p (by omega) (by decide)).trans ((show LQ n (N 6) pw from (by rw [hNM]; exact hp)) g hg)
                dsimp only [Option.toList, List.nil_append]
                refine w_pushN 0 78 (by decide +kernel) ?_
                refine w_store (ls' := [.ref 0, .int (nI k2), .int (nI k5), .int w, .int (nI 0)]) (.istore 4) 80 (by decide +kernel) rfl rfl ?_
                have LP_80 : ∀ (kk : Nat) (N_80 : Mt) (g4 : Nat), St (fun i _ => (7 ≤ i ∧ i ≤ 57) ∨ i = 63 ∨ i = 68 ∨ i = 69) M N_80 → g4 ≤ 16 → HN2 n k2 k5 (N_80 8) c → mnQ (mnW n T pw od c k2 k5 k2) g4 (N_80 68) → mnQ (mnW n T pw od c k2 k5 k5) g4 (N_80 69) → N_80 7 2 = nI n → LQ n (N_80 9) pw → 16 - g4 < kk → Wp d 99 80 [.ref 0, .int (nI k2), .int (nI k5), .int w, .int (nI g4)] [] N_80 L Q := by
                  intro kk
                  induction kk with
                  | zero => intro N_80 g4 hS hi0_80 hi1_80 hi2_80 hi3_80 hi4_80 hi5_80 hm_80; exact absurd hm_80 (Nat.not_lt_zero _)
                  | succ kk ih_80 =>
                    intro N_80 g4 hS hi0_80 hi1_80 hi2_80 hi3_80 hi4_80 hi5_80 hm_80
                    refine w_load (.iload 4) 82 (by decide +kernel) rfl rfl ?_
                    refine w_load (.aload_n 0) 83 (by decide +kernel) rfl rfl ?_
                    refine w_getR (k := 12) (r := 68) 86 (by decide +kernel) sh_0 rfl ?_
                    refine w_alen (nI 16) 87 (by decide +kernel) sh_68 (by decide) (by first | rfl | simp [nI]) ?_
                    refine w_cgeN 144 90 (by decide +kernel) (by omega) (by omega) (fun h15 => ?_) (fun h15 => ?_)
                    · skip
                      have hgn : g4 = 16 := (by omega)
                      have f68e : mnQ (mnW n T pw od c k2 k5 k2) 16 (N_80 68) := hgn ▸ hi2_80
                      have f69e : mnQ (mnW n T pw od c k2 k5 k5) 16 (N_80 69) := hgn ▸ hi3_80
                      refine w_load (.iload_n 3) 145 (by decide +kernel) rfl rfl ?_
                      refine w_ine 155 148 (by decide +kernel) (fun h16 => ?_) (fun h16 => ?_)
                      · skip
                        refine w_load (.aload_n 0) 156 (by decide +kernel) rfl rfl ?_
                        refine w_callV0 129 7 2 159 (by decide +kernel) sh_0 (Nat.le_of_ble_eq_true rfl)  (by decide) (by omega) ?_
                        refine s_firstRest hS.1 f68e f69e (by omega) (fun r17 hr17 => ?_)
                        dsimp only [Option.toList, List.cons_append, List.nil_append]
                        exact w_ret (by decide +kernel) (hq _ N_80 hS (Or.inr ⟨_, _, by assumption, rfl, by assumption, rfl, Or.inr ⟨⟨by assumption, inR_ofle (x := 0) (y := nI 1) (by assumption) (by assumption) (by decide) (by decide)⟩, Or.inr ⟨⟨by assumption, by assumption⟩, by first | exact Or.inl ⟨by assumption, by first | assumption | rfl⟩ | exact Or.inr ⟨by assumption, by assumption⟩⟩⟩⟩))
                      · skip
                        refine w_load (.aload_n 0) 149 (by decide +kernel) rfl rfl ?_
                        refine w_callV0 128 7 3 152 (by decide +kernel) sh_0 (Nat.le_of_ble_eq_true rfl)  (by decide) (by omega) ?_
                        refine s_restsInAll hS.1 f68e f69e (by omega) (fun r18 hr18 => ?_)
                        dsimp only [Option.toList, List.cons_append, List.nil_append]
                        rcases hr18 with rfl
                        · skip
                          refine w_goto 159 (by decide +kernel) ?_
                          exact w_ret (by decide +kernel) (hq _ N_80 hS (Or.inr ⟨_, _, by assumption, rfl, by assumption, rfl, Or.inr ⟨⟨by assumption, inR_ofle (x := 0) (y := nI 1) (by assumption) (by assumption) (by decide) (by decide)⟩, Or.inr ⟨⟨by assumption, by assumption⟩, by first | exact Or.inl ⟨by assumption, by first | assumption | rfl⟩ | exact Or.inr ⟨by assumption, by assumption⟩⟩⟩⟩))
                    · skip
                      refine w_load (.aload_n 0) 91 (by decide +kernel) rfl rfl ?_
                      refine w_getR (k := 3) (r := 7) 94 (by decide +kernel) sh_0 rfl ?_
                      refine w_load (.iload_n 1) 95 (by decide +kernel) rfl rfl ?_
                      refine w_load (.iload 4) 97 (by decide +kernel) rfl rfl ?_
                      refine w_pushN 4 98 (by decide +kernel) ?_
                      refine w_divN (g4 / 4) 99 (by decide +kernel) (by decide) (by decide) (by omega) rfl ?_
                      refine w_callV2 26 1 3 102 (by decide +kernel) sh_7 (Nat.le_of_ble_eq_true rfl) rfl rfl (by decide) (by omega) ?_
                      refine s_rename hS.1 hs_7 (by omega) hi4_80 HE.rf (by omega) (by omega) (fun Nr19 hTr19 hr19 => ?_)
                      have kn20 := (hTr19.2 (7) 2 (by (try dsimp only); first | omega | (simp only [Hs, Tl, Sc, isHs, isScr, isTs] at *; omega))).trans hi4_80
                      have hS := hS.tr hTr19 (by intro i k; first | exact rfl | exact fun h => h.elim | omega | (dsimp only; omega) | (simp only [Hs, Tl, Sc, isHs, isScr, isTs] at *; omega))
                      have r1 : HE n (Nr19 8) (up1 (N_80 8) k2 (nI (g4 / 4))) := hr19
                      have q1 : LQ n (Nr19 9) pw := by rw [hTr19.row (fun k => (by (try dsimp only); first | omega | (simp only [Hs, Tl, Sc, isHs, isScr, isTs] at *; omega)))]; exact hi5_80
                      dsimp only [Option.toList, List.nil_append]
                      refine w_load (.aload_n 0) 103 (by decide +kernel) rfl rfl ?_
                      refine w_getR (k := 3) (r := 7) 106 (by decide +kernel) sh_0 rfl ?_
                      refine w_load (.iload_n 2) 107 (by decide +kernel) rfl rfl ?_
                      refine w_load (.iload 4) 109 (by decide +kernel) rfl rfl ?_
                      refine w_pushN 4 110 (by decide +kernel) ?_
                      refine w_remN (g4 % 4) 111 (by decide +kernel) (by decide) (by decide) (by omega) rfl ?_
                      refine w_callV2 26 1 3 114 (by decide +kernel) sh_7 (Nat.le_of_ble_eq_true rfl) rfl rfl (by decide) (by omega) ?_
                      refine s_rename hS.1 hs_7 (by omega) kn20 HE.rf (by omega) (by omega) (fun Nr21 hTr21 hr21 => ?_)
                      have kn22 := (hTr21.2 (7) 2 (by (try dsimp only); first | omega | (simp only [Hs, Tl, Sc, isHs, isScr, isTs] at *; omega))).trans kn20
                      have hS := hS.tr hTr21 (by intro i k; first | exact rfl | exact fun h => h.elim | omega | (dsimp only; omega) | (simp only [Hs, Tl, Sc, isHs, isScr, isTs] at *; omega))
                      have c7 : HE n (Nr21 8) (up1 (up1 c k2 (nI (g4 / 4))) k5 (nI (g4 % 4))) := hr21.tr ((r1.up k5 rfl).tr hi1_80.set)
                      have p7 : LQ n (Nr21 9) pw := by rw [hTr21.row (fun k => (by (try dsimp only); first | omega | (simp only [Hs, Tl, Sc, isHs, isScr, isTs] at *; omega)))]; exact q1
                      dsimp only [Option.toList, List.nil_append]
                      refine w_load (.aload_n 0) 115 (by decide +kernel) rfl rfl ?_
                      refine w_getR (k := 12) (r := 68) 118 (by decide +kernel) sh_0 rfl ?_
                      refine w_load (.iload 4) 120 (by decide +kernel) rfl rfl ?_
                      refine w_load (.aload_n 0) 121 (by decide +kernel) rfl rfl ?_
                      refine w_load (.iload_n 1) 122 (by decide +kernel) rfl rfl ?_
                      refine w_callV1 126 7 4 125 (by decide +kernel) sh_0 (Nat.le_of_ble_eq_true rfl) rfl (by decide) (by omega) ?_
                      refine s_meanAS hS.1 (by omega) kn22 c7 p7 (wedOk.up (hw.up (Or.inr (Or.inr (Or.inl (by omega)))) hn) (Or.inr (Or.inr (Or.inl (by omega)))) hn) (hT.keep (fun i k h1 h2 => hS.2 i k (by (try dsimp only); first | omega | (simp only [Hs, Tl, Sc, isHs, isScr, isTs] at *; omega)))) (fun t ht => (hS.2 67 t (by (try dsimp only); first | omega | (simp only [Hs, Tl, Sc, isHs, isScr, isTs] at *; omega))).trans (ho t ht)) (by omega) (by omega) (fun r23 Nr23 hTr23 hr23 => ?_)
                      have kn24 := (hTr23.2 (7) 2 (by (try dsimp only); first | omega | (simp only [Hs, Tl, Sc, isHs, isScr, isTs] at *; omega))).trans kn22
                      have hS := hS.tr hTr23 (by intro i k; first | exact rfl | exact fun h => h.elim | omega | (dsimp only; omega) | (simp only [Hs, Tl, Sc, isHs, isScr, isTs] at *; omega))
                      have hmA := hr23
                      have c72 : HE n (Nr23 8) (up1 (up1 c k2 (nI (g4 / 4))) k5 (nI (g4 % 4))) := by rw [hTr23.row (fun k => (by (try dsimp only); first | omega | (simp only [Hs, Tl, Sc, isHs, isScr, isTs] at *; omega)))]; exact c7
                      have p72 : LQ n (Nr23 9) pw := by rw [hTr23.row (fun k => (by (try dsimp only); first | omega | (simp only [Hs, Tl, Sc, isHs, isScr, isTs] at *; omega)))]; exact p7
                      have f68 : mnQ (mnW n T pw od c k2 k5 k2) g4 (Nr23 68) := by rw [hTr23.row (fun k => (by (try dsimp only); first | omega | (simp only [Hs, Tl, Sc, isHs, isScr, isTs] at *; omega))), hTr21.row (fun k => (by (try dsimp only); first | omega | (simp only [Hs, Tl, Sc, isHs, isScr, isTs] at *; omega))), hTr19.row (fun k => (by (try dsimp only); first | omega | (simp only [Hs, Tl, Sc, isHs, isScr, isTs] at *; omega)))]; exact hi2_80
                      have f69 : mnQ (mnW n T pw od c k2 k5 k5) g4 (Nr23 69) := by rw [hTr23.row (fun k => (by (try dsimp only); first | omega | (simp only [Hs, Tl, Sc, isHs, isScr, isTs] at *; omega))), hTr21.row (fun k => (by (try dsimp only); first | omega | (simp only [Hs, Tl, Sc, isHs, isScr, isTs] at *; omega))), hTr19.row (fun k => (by (try dsimp only); first | omega | (simp only [Hs, Tl, Sc, isHs, isScr, isTs] at *; omega)))]; exact hi3_80
                      dsimp only [Option.toList, List.cons_append, List.nil_append]
                      refine w_iastE 126 (by decide +kernel) sh_68 (by omega) (by omega) hS (Rg.free (by simp only [Hs, Tl, Sc, isScr, isHs, isTs] at *; omega)) (by first | exact rfl | omega | (dsimp only; omega) | (simp only [Hs, Tl, Sc, isHs, isScr, isTs] at *; omega)) (fun Nq25 hS hq25 oq25 mq25 => ?_)
                      have kn26 := (oq25 (7) 2 (by first | omega | (simp only [Hs, Tl, Sc, isHs, isScr, isTs] at *; omega))).trans kn24
                      have f68b : mnQ (mnW n T pw od c k2 k5 k2) (g4 + 1) (Nq25 68) := f68.up (by rw [mq25, row_eq]) hmA
                      have f69b : mnQ (mnW n T pw od c k2 k5 k5) g4 (Nq25 69) := by rw [mq25, row_ne (by decide)]; exact f69
                      have c73 : HE n (Nq25 8) (up1 (up1 c k2 (nI (g4 / 4))) k5 (nI (g4 % 4))) := by rw [mq25, row_ne (by decide)]; exact c72
                      have p73 : LQ n (Nq25 9) pw := by rw [mq25, row_ne (by decide)]; exact p72
                      refine w_load (.aload_n 0) 127 (by decide +kernel) rfl rfl ?_
                      refine w_getR (k := 13) (r := 69) 130 (by decide +kernel) sh_0 rfl ?_
                      refine w_load (.iload 4) 132 (by decide +kernel) rfl rfl ?_
                      refine w_load (.aload_n 0) 133 (by decide +kernel) rfl rfl ?_
                      refine w_load (.iload_n 2) 134 (by decide +kernel) rfl rfl ?_
                      refine w_callV1 126 7 4 137 (by decide +kernel) sh_0 (Nat.le_of_ble_eq_true rfl) rfl (by decide) (by omega) ?_
                      refine s_meanAS hS.1 (by omega) kn26 c73 p73 (wedOk.up (hw.up (Or.inr (Or.inr (Or.inl (by omega)))) hn) (Or.inr (Or.inr (Or.inl (by omega)))) hn) (hT.keep (fun i k h1 h2 => hS.2 i k (by (try dsimp only); first | omega | (simp only [Hs, Tl, Sc, isHs, isScr, isTs] at *; omega)))) (fun t ht => (hS.2 67 t (by (try dsimp only); first | omega | (simp only [Hs, Tl, Sc, isHs, isScr, isTs] at *; omega))).trans (ho t ht)) (by omega) (by omega) (fun r27 Nr27 hTr27 hr27 => ?_)
                      have kn28 := (hTr27.2 (7) 2 (by (try dsimp only); first | omega | (simp only [Hs, Tl, Sc, isHs, isScr, isTs] at *; omega))).trans kn26
                      have hS := hS.tr hTr27 (by intro i k; first | exact rfl | exact fun h => h.elim | omega | (dsimp only; omega) | (simp only [Hs, Tl, Sc, isHs, isScr, isTs] at *; omega))
                      have hmB := hr27
                      have c74 : HE n (Nr27 8) (up1 (up1 c k2 (nI (g4 / 4))) k5 (nI (g4 % 4))) := by rw [hTr27.row (fun k => (by (try dsimp only); first | omega | (simp only [Hs, Tl, Sc, isHs, isScr, isTs] at *; omega)))]; exact c73
                      have p74 : LQ n (Nr27 9) pw := by rw [hTr27.row (fun k => (by (try dsimp only); first | omega | (simp only [Hs, Tl, Sc, isHs, isScr, isTs] at *; omega)))]; exact p73
                      have f68c : mnQ (mnW n T pw od c k2 k5 k2) (g4 + 1) (Nr27 68) := by rw [hTr27.row (fun k => (by (try dsimp only); first | omega | (simp only [Hs, Tl, Sc, isHs, isScr, isTs] at *; omega)))]; exact f68b
                      have f69c : mnQ (mnW n T pw od c k2 k5 k5) g4 (Nr27 69) := by rw [hTr27.row (fun k => (by (try dsimp only); first | omega | (simp only [Hs, Tl, Sc, isHs, isScr, isTs] at *; omega)))]; exact f69b
                      dsimp only [Option.toList, List.cons_append, List.nil_append]
                      refine w_iastE 138 (by decide +kernel) sh_69 (by omega) (by omega) hS (Rg.free (by simp only [Hs, Tl, Sc, isScr, isHs, isTs] at *; omega)) (by first | exact rfl | omega | (dsimp only; omega) | (simp only [Hs, Tl, Sc, isHs, isScr, isTs] at *; omega)) (fun Nq29 hS hq29 oq29 mq29 => ?_)
                      have kn30 := (oq29 (7) 2 (by first | omega | (simp only [Hs, Tl, Sc, isHs, isScr, isTs] at *; omega))).trans kn28
                      have f69d : mnQ (mnW n T pw od c k2 k5 k5) (g4 + 1) (Nq29 69) := f69c.up (by rw [mq29, row_eq]) hmB
                      have f68d : mnQ (mnW n T pw od c k2 k5 k2) (g4 + 1) (Nq29 68) := by rw [mq29, row_ne (by decide)]; exact f68c
                      have n8 : HN2 n k2 k5 (Nq29 8) c := HN2.of (by rw [mq29, row_ne (by decide)]; exact c74)
                      have q9 : LQ n (Nq29 9) pw := by rw [mq29, row_ne (by decide)]; exact p74
                      refine w_iincN (z := 4) (g4 + 1) 141 (by decide +kernel) rfl (Nat.le_of_ble_eq_true rfl) rfl rfl ?_
                      show Wp _ _ _ [.ref 0, .int (nI k2), .int (nI k5), .int w, .int (nI (g4 + 1))] _ _ _ _
                      refine w_goto 80 (by decide +kernel) ?_
                      exact ih_80 Nq29 (g4 + 1) hS (by first | omega | assumption) (by first | omega | assumption) (by first | omega | assumption) (by first | omega | assumption) (by first | omega | assumption) (by first | omega | assumption) (by omega)
                exact LP_80 _ Nr14 0 hS (by first | omega | assumption | exact HN2.he c7 | (intro p hp; omega)) (by first | omega | assumption | exact HN2.he c7 | (intro p hp; omega)) (by first | omega | assumption | exact HN2.he c7 | (intro p hp; omega)) (by first | omega | assumption | exact HN2.he c7 | (intro p hp; omega)) (by first | omega | assumption | exact HN2.he c7 | (intro p hp; omega)) (by first | omega | assumption | exact HN2.he c7 | (intro p hp; omega)) (Nat.lt_succ_self _)
              · skip
                refine w_ine 66 63 (by decide +kernel) (fun hz => absurd hz (by decide)) (fun _ => ?_)
                refine w_push (-3) 65 (by decide +kernel) ?_
                exact w_ret (by decide +kernel) (hq _ N hS (Or.inr ⟨_, _, by assumption, rfl, by assumption, rfl, Or.inr ⟨⟨by assumption, inR_ofle (x := 0) (y := nI 1) (by assumption) (by assumption) (by decide) (by decide)⟩, Or.inl ⟨rfl, fun hz => by first | exact absurd (hz.1.symm.trans (show tb (c 15) _ = false by assumption)) (by decide) | exact absurd (hz.2.symm.trans (show tb (c 15) _ = false by assumption)) (by decide)⟩⟩⟩))
            · skip
              refine w_ieq 63 52 (by decide +kernel) (fun _ => ?_) (fun hz => absurd hz (by decide))
              refine w_push (-3) 65 (by decide +kernel) ?_
              exact w_ret (by decide +kernel) (hq _ N hS (Or.inr ⟨_, _, by assumption, rfl, by assumption, rfl, Or.inr ⟨⟨by assumption, inR_ofle (x := 0) (y := nI 1) (by assumption) (by assumption) (by decide) (by decide)⟩, Or.inl ⟨rfl, fun hz => by first | exact absurd (hz.1.symm.trans (show tb (c 15) _ = false by assumption)) (by decide) | exact absurd (hz.2.symm.trans (show tb (c 15) _ = false by assumption)) (by decide)⟩⟩⟩))
          · skip
            refine w_push (-2) 40 (by decide +kernel) ?_
            exact w_ret (by decide +kernel) (hq _ N hS (Or.inr ⟨_, _, by assumption, rfl, by assumption, rfl, Or.inl ⟨rfl, fun hz => by first | exact absurd (by assumption) hz.1 | exact inR_lo (by assumption) (by decide) hz.2 | exact inR_nle (by assumption) (by decide) hz.2⟩⟩))
    · skip
      refine w_ine 24 22 (by decide +kernel) (fun hz => absurd hz (by decide)) (fun _ => ?_)
      refine w_push (-1) 23 (by decide +kernel) ?_
      exact w_ret (by decide +kernel) (hq _ N hS (Or.inl ⟨rfl, fun hz => by first | exact absurd hz.1 (by assumption) | exact absurd hz.2 (by assumption)⟩))
  · skip
    refine w_ieq 22 11 (by decide +kernel) (fun _ => ?_) (fun hz => absurd hz (by decide))
    refine w_push (-1) 23 (by decide +kernel) ?_
    exact w_ret (by decide +kernel) (hq _ N hS (Or.inl ⟨rfl, fun hz => by first | exact absurd hz.1 (by assumption) | exact absurd hz.2 (by assumption)⟩))
