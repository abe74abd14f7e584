-- X7_holds#s
set_option maxRecDepth 10000 in
theorem s_holds {d : Nat} {M : Mt} {L : Lt} {Q : Option Value → Mt → Lt → Prop} {a : Int32} {k : Nat} (hI : Inv M) (hk : k < 32) (hd : 0 ≤ d) (hq : ∀ (r : Int32), ((r = 1 ∧ tb a k = true) ∨ (r = 0 ∧ tb a k = false)) → Q (some (.int r)) M L) : Wp d 115 0 [.int a, .int (nI k)] [] M L Q := by
  refine w_load (.iload_n 0) 1 (by decide +kernel) rfl rfl ?_
  refine w_load (.iload_n 1) 2 (by decide +kernel) rfl rfl ?_
  refine w_pure .ishr 3 (by decide +kernel) rfl rfl ?_
  refine w_pushN 1 4 (by decide +kernel) ?_
  refine w_pure .iand 5 (by decide +kernel) rfl rfl ?_
  refine w_ieq 12 8 (by decide +kernel) (fun h1 => ?_) (fun h1 => ?_)
  · skip
    refine w_pushN 0 13 (by decide +kernel) ?_
    exact w_retZ (by decide +kernel) (Or.inl rfl) (hq _ (Or.inr ⟨rfl, tb_f hk (by assumption)⟩))
  · skip
    refine w_pushN 1 9 (by decide +kernel) ?_
    refine w_goto 13 (by decide +kernel) ?_
    exact w_retZ (by decide +kernel) (Or.inr rfl) (hq _ (Or.inl ⟨rfl, tb_t hk (by assumption)⟩))
-- X7_leastOf#s
set_option maxRecDepth 10000 in
theorem s_leastOf {d : Nat} {M : Mt} {L : Lt} {Q : Option Value → Mt → Lt → Prop} {a : Int32} (hI : Inv M)  (hd : 1 ≤ d) (hq : ∀ (r : Int32), ((∃ k, k < 5 ∧ r = nI k ∧ isL a k) ∨ (r = -9 ∧ ∀ k, k < 5 → tb a k = false)) → Q (some (.int r)) M L) : Wp d 116 0 [.int a, .null] [] M L Q := by
  refine w_pushN 0 1 (by decide +kernel) ?_
  refine w_store (ls' := [.int a, .int (nI 0)]) (.istore_n 1) 2 (by decide +kernel) rfl rfl ?_
  have LP_2 : ∀ (kk : Nat) (g1 : Nat), g1 ≤ 5 → (∀ z, z < g1 → tb a z = false) → 5 - g1 < kk → Wp d 116 2 [.int a, .int (nI g1)] [] M L Q := by
    intro kk
    induction kk with
    | zero => intro g1 hi0_2 hi1_2 hm_2; exact absurd hm_2 (Nat.not_lt_zero _)
    | succ kk ih_2 =>
      intro g1 hi0_2 hi1_2 hm_2
      refine w_load (.iload_n 1) 3 (by decide +kernel) rfl rfl ?_
      refine w_pushN 5 4 (by decide +kernel) ?_
      refine w_cgeN 23 7 (by decide +kernel) (by omega) (by omega) (fun h1 => ?_) (fun h1 => ?_)
      · skip
        refine w_push (-9) 25 (by decide +kernel) ?_
        exact w_ret (by decide +kernel) (hq _ (Or.inr ⟨rfl, fun z hz => hi1_2 z (by omega)⟩))
      · skip
        refine w_load (.iload_n 0) 8 (by decide +kernel) rfl rfl ?_
        refine w_load (.iload_n 1) 9 (by decide +kernel) rfl rfl ?_
        refine w_callS2 115 2 12 (by decide +kernel) (Nat.le_of_ble_eq_true rfl) rfl rfl (by decide) (by omega) ?_
        refine s_holds hI (by omega) (by omega) (fun r2 hr2 => ?_)
        dsimp only [Option.toList, List.cons_append, List.nil_append]
        rcases hr2 with ⟨rfl, htr2⟩ | ⟨rfl, htr2⟩
        · skip
          refine w_ieq 17 15 (by decide +kernel) (fun hz => absurd hz (by decide)) (fun _ => ?_)
          refine w_load (.iload_n 1) 16 (by decide +kernel) rfl rfl ?_
          exact w_ret (by decide +kernel) (hq _ (Or.inl ⟨g1, by omega, rfl, by assumption, by assumption⟩))
        · skip
          refine w_ieq 17 15 (by decide +kernel) (fun _ => ?_) (fun hz => absurd hz (by decide))
          refine w_iincN (z := 1) (g1 + 1) 20 (by decide +kernel) rfl (Nat.le_of_ble_eq_true rfl) rfl rfl ?_
          show Wp _ _ _ [.int a, .int (nI (g1 + 1))] _ _ _ _
          refine w_goto 2 (by decide +kernel) ?_
          exact ih_2 (g1 + 1) (by first | omega | exact lt_ext (by assumption) (by assumption)) (by first | omega | exact lt_ext (by assumption) (by assumption)) (by omega)
  exact LP_2 _ 0 (by first | omega | (intro z hz; omega)) (by first | omega | (intro z hz; omega)) (Nat.lt_succ_self _)
-- X7_kindOf#s
set_option maxRecDepth 10000 in
theorem s_kindOf {d : Nat} {M : Mt} {L : Lt} {Q : Option Value → Mt → Lt → Prop} {a : Int32} (hI : Inv M)  (hd : 0 ≤ d) (hq : ∀ (r : Int32), (r = kdD a) → Q (some (.int r)) M L) : Wp d 117 0 [.int a] [] M L Q := by
  refine w_load (.iload_n 0) 1 (by decide +kernel) rfl rfl ?_
  refine w_pushN 16 3 (by decide +kernel) ?_
  refine w_div 4 (by decide +kernel) (by decide) ?_
  exact w_ret (by decide +kernel) (hq _ rfl)
-- X7_firstNameOf#s
set_option maxRecDepth 10000 in
theorem s_fst {d : Nat} {M : Mt} {L : Lt} {Q : Option Value → Mt → Lt → Prop} {a : Int32} (hI : Inv M)  (hd : 0 ≤ d) (hq : ∀ (r : Int32), (r = fstD a) → Q (some (.int r)) M L) : Wp d 118 0 [.int a] [] M L Q := by
  refine w_load (.iload_n 0) 1 (by decide +kernel) rfl rfl ?_
  refine w_pushN 4 2 (by decide +kernel) ?_
  refine w_div 3 (by decide +kernel) (by decide) ?_
  refine w_pushN 4 4 (by decide +kernel) ?_
  refine w_rem 5 (by decide +kernel) (by decide) ?_
  exact w_ret (by decide +kernel) (hq _ rfl)
-- X7_secondNameOf#s
set_option maxRecDepth 10000 in
theorem s_snd {d : Nat} {M : Mt} {L : Lt} {Q : Option Value → Mt → Lt → Prop} {a : Int32} (hI : Inv M)  (hd : 0 ≤ d) (hq : ∀ (r : Int32), (r = sndD a) → Q (some (.int r)) M L) : Wp d 119 0 [.int a] [] M L Q := by
  refine w_load (.iload_n 0) 1 (by decide +kernel) rfl rfl ?_
  refine w_pushN 4 2 (by decide +kernel) ?_
  refine w_rem 3 (by decide +kernel) (by decide) ?_
  exact w_ret (by decide +kernel) (hq _ rfl)
-- X1_has#s
set_option maxRecDepth 10000 in
theorem s_has {d : Nat} {M : Mt} {L : Lt} {Q : Option Value → Mt → Lt → Prop} {h n k : Nat} (hI : Inv M) (hh : Hs h) (hn : n ≤ 5) (en : M h 2 = nI n) (hk : k < n) (hd : 0 ≤ d) (hq : ∀ (r : Int32), (r = 1) → Q (some (.int r)) M L) : Wp d 11 0 [.ref h, .int (nI k)] [] M L Q := by
  refine w_load (.iload_n 1) 1 (by decide +kernel) rfl rfl ?_
  refine w_iltN 16 4 (by decide +kernel) (by omega) ?_
  refine w_load (.iload_n 1) 5 (by decide +kernel) rfl rfl ?_
  refine w_load (.aload_n 0) 6 (by decide +kernel) rfl rfl ?_
  refine w_getK (k := 2) 9 (by decide +kernel) hh.1.1 rfl en ?_
  refine w_cgeN 16 12 (by decide +kernel) (by omega) (by omega) (fun h2 => ?_) (fun h2 => ?_)
  · skip
    refine w_pushN 0 17 (by decide +kernel) ?_
    exact w_retZ (by decide +kernel) (Or.inl rfl) (hq _ (by first | rfl | omega))
  · skip
    refine w_pushN 1 13 (by decide +kernel) ?_
    refine w_goto 17 (by decide +kernel) ?_
    exact w_retZ (by decide +kernel) (Or.inr rfl) (hq _ (by first | rfl | omega))
-- X1_has#d
set_option maxRecDepth 10000 in
theorem s_hasd {d : Nat} {M : Mt} {L : Lt} {Q : Option Value → Mt → Lt → Prop} {h n k : Nat} (hI : Inv M) (hh : Hs h) (hn : n ≤ 5) (en : M h 2 = nI n) (hk : k < 5) (hd : 0 ≤ d) (hq : ∀ (r : Int32), ((r = 1 ∧ k < n) ∨ (r = 0 ∧ ¬ k < n)) → Q (some (.int r)) M L) : Wp d 11 0 [.ref h, .int (nI k)] [] M L Q := by
  refine w_load (.iload_n 1) 1 (by decide +kernel) rfl rfl ?_
  refine w_iltN 16 4 (by decide +kernel) (by omega) ?_
  refine w_load (.iload_n 1) 5 (by decide +kernel) rfl rfl ?_
  refine w_load (.aload_n 0) 6 (by decide +kernel) rfl rfl ?_
  refine w_getK (k := 2) 9 (by decide +kernel) hh.1.1 rfl en ?_
  refine w_cgeN 16 12 (by decide +kernel) (by omega) (by omega) (fun h2 => ?_) (fun h2 => ?_)
  · skip
    refine w_pushN 0 17 (by decide +kernel) ?_
    exact w_retZ (by decide +kernel) (Or.inl rfl) (hq _ (Or.inr ⟨rfl, by omega⟩))
  · skip
    refine w_pushN 1 13 (by decide +kernel) ?_
    refine w_goto 17 (by decide +kernel) ?_
    exact w_retZ (by decide +kernel) (Or.inr rfl) (hq _ (Or.inl ⟨rfl, by omega⟩))
-- X1_nameOf#s
set_option maxRecDepth 10000 in
theorem s_nameOf {d : Nat} {M : Mt} {L : Lt} {Q : Option Value → Mt → Lt → Prop} {h n k : Nat} {c : Row} (hI : Inv M) (hh : Hs h) (hn : n ≤ 5) (en : M h 2 = nI n) (hc : HE n (M (h + 1)) c) (hk : k < n) (hd : 1 ≤ d) (hq : ∀ (r : Int32), (r = c k) → Q (some (.int r)) M L) : Wp d 12 0 [.ref h, .int (nI k)] [] M L Q := by
  refine w_load (.aload_n 0) 1 (by decide +kernel) rfl rfl ?_
  refine w_load (.iload_n 1) 2 (by decide +kernel) rfl rfl ?_
  refine w_callV1 11 1 2 5 (by decide +kernel) hh.1.1 (Nat.le_of_ble_eq_true rfl) rfl (by decide) (by omega) ?_
  refine s_has hI hh (by omega) en (by omega) (by omega) (fun r1 hr1 => ?_)
  dsimp only [Option.toList, List.cons_append, List.nil_append]
  rcases hr1 with rfl
  · skip
    refine w_ieq 19 8 (by decide +kernel) (fun hz => absurd hz (by decide)) (fun _ => ?_)
    refine w_load (.aload_n 0) 9 (by decide +kernel) rfl rfl ?_
    refine w_getR (k := 0) (r := h + 1) 12 (by decide +kernel) hh.1.1 rfl ?_
    refine w_pushN 0 13 (by decide +kernel) ?_
    refine w_load (.iload_n 1) 14 (by decide +kernel) rfl rfl ?_
    refine w_addN k 15 (by decide +kernel) (by omega) ?_
    refine w_ialdN 16 (by decide +kernel) hh.1.2.1 (by omega) (by omega) ?_
    refine w_goto 21 (by decide +kernel) ?_
    exact w_ret (by decide +kernel) (hq _ (by first | exact (hc.1 k hk).1 | omega))
-- X1_lives#s
set_option maxRecDepth 10000 in
theorem s_lives {d : Nat} {M : Mt} {L : Lt} {Q : Option Value → Mt → Lt → Prop} {h n k : Nat} {c : Row} (hI : Inv M) (hh : Hs h) (hn : n ≤ 5) (en : M h 2 = nI n) (hc : HE n (M (h + 1)) c) (hk : k < n) (hd : 1 ≤ d) (hq : ∀ (r : Int32), ((r = 1 ∧ tb (c 15) k = true) ∨ (r = 0 ∧ tb (c 15) k = false)) → Q (some (.int r)) M L) : Wp d 16 0 [.ref h, .int (nI k)] [] M L Q := by
  refine w_load (.aload_n 0) 1 (by decide +kernel) rfl rfl ?_
  refine w_load (.iload_n 1) 2 (by decide +kernel) rfl rfl ?_
  refine w_callV1 11 1 2 5 (by decide +kernel) hh.1.1 (Nat.le_of_ble_eq_true rfl) rfl (by decide) (by omega) ?_
  refine s_has hI hh (by omega) en (by omega) (by omega) (fun r1 hr1 => ?_)
  dsimp only [Option.toList, List.cons_append, List.nil_append]
  rcases hr1 with rfl
  · skip
    refine w_ieq 26 8 (by decide +kernel) (fun hz => absurd hz (by decide)) (fun _ => ?_)
    refine w_load (.aload_n 0) 9 (by decide +kernel) rfl rfl ?_
    refine w_getR (k := 0) (r := h + 1) 12 (by decide +kernel) hh.1.1 rfl ?_
    refine w_pushN 15 14 (by decide +kernel) ?_
    refine w_ialdN 15 (by decide +kernel) hh.1.2.1 (by omega) (by omega) ?_
    refine w_load (.iload_n 1) 16 (by decide +kernel) rfl rfl ?_
    refine w_callS2 115 2 19 (by decide +kernel) (Nat.le_of_ble_eq_true rfl) rfl rfl (by decide) (by omega) ?_
    refine s_holds hI (by omega) (by omega) (fun r3 hr3 => ?_)
    dsimp only [Option.toList, List.cons_append, List.nil_append]
    rcases hr3 with ⟨rfl, htr3⟩ | ⟨rfl, htr3⟩
    · skip
      refine w_ieq 26 22 (by decide +kernel) (fun hz => absurd hz (by decide)) (fun _ => ?_)
      refine w_pushN 1 23 (by decide +kernel) ?_
      refine w_goto 27 (by decide +kernel) ?_
      exact w_retZ (by decide +kernel) (Or.inr rfl) (hq _ (Or.inl ⟨rfl, by rw [← hc.2.1]; assumption⟩))
    · skip
      refine w_ieq 26 22 (by decide +kernel) (fun _ => ?_) (fun hz => absurd hz (by decide))
      refine w_pushN 0 27 (by decide +kernel) ?_
      exact w_retZ (by decide +kernel) (Or.inl rfl) (hq _ (Or.inr ⟨rfl, by rw [← hc.2.1]; assumption⟩))
-- X1_powerOf#s
set_option maxRecDepth 10000 in
theorem s_powerOf {d : Nat} {M : Mt} {L : Lt} {Q : Option Value → Mt → Lt → Prop} {h n k : Nat} {pw : Row} (hI : Inv M) (hh : Hs h) (hn : n ≤ 5) (en : M h 2 = nI n) (hp : LQ n (M (h + 2)) pw) (hk : k < 5) (hd : 1 ≤ d) (hq : ∀ (r : Int32), (r = if k < n then pw k else nI 0) → Q (some (.int r)) M L) : Wp d 15 0 [.ref h, .int (nI k)] [] M L Q := by
  refine w_load (.aload_n 0) 1 (by decide +kernel) rfl rfl ?_
  refine w_load (.iload_n 1) 2 (by decide +kernel) rfl rfl ?_
  refine w_callV1 11 1 2 5 (by decide +kernel) hh.1.1 (Nat.le_of_ble_eq_true rfl) rfl (by decide) (by omega) ?_
  refine s_hasd hI hh (by omega) en (by omega) (by omega) (fun r1 hr1 => ?_)
  dsimp only [Option.toList, List.cons_append, List.nil_append]
  rcases hr1 with ⟨rfl, hgr1⟩ | ⟨rfl, hgr1⟩
  · skip
    refine w_ieq 17 8 (by decide +kernel) (fun hz => absurd hz (by decide)) (fun _ => ?_)
    refine w_load (.aload_n 0) 9 (by decide +kernel) rfl rfl ?_
    refine w_getR (k := 1) (r := h + 2) 12 (by decide +kernel) hh.1.1 rfl ?_
    refine w_load (.iload_n 1) 13 (by decide +kernel) rfl rfl ?_
    refine w_ialdN 14 (by decide +kernel) hh.1.2.2 (by omega) (by omega) ?_
    refine w_goto 18 (by decide +kernel) ?_
    exact w_ret (by decide +kernel) (hq _ (by first | (rw [if_pos (by assumption)]; exact hp k (by assumption)) | (rw [if_neg (by assumption)])))
  · skip
    refine w_ieq 17 8 (by decide +kernel) (fun _ => ?_) (fun hz => absurd hz (by decide))
    refine w_pushN 0 18 (by decide +kernel) ?_
    exact w_ret (by decide +kernel) (hq _ (by first | (rw [if_pos (by assumption)]; exact hp k (by assumption)) | (rw [if_neg (by assumption)])))
-- X1_bearing#s
set_option maxRecDepth 10000 in
theorem s_bearing {d : Nat} {M : Mt} {L : Lt} {Q : Option Value → Mt → Lt → Prop} {h n : Nat} {c : Row} {a : Int32} (hI : Inv M) (hh : Hs h) (hn : n ≤ 5) (en : M h 2 = nI n) (hc : HE n (M (h + 1)) c) (hd : 0 ≤ d) (hq : ∀ (r : Int32), (r = bears n c a) → Q (some (.int r)) M L) : Wp d 24 0 [.ref h, .int a, .null, .null] [] M L Q := by
  refine w_pushN 0 1 (by decide +kernel) ?_
  refine w_store (ls' := [.ref h, .int a, .int (nI 0), .null]) (.istore_n 2) 2 (by decide +kernel) rfl rfl ?_
  refine w_pushN 0 3 (by decide +kernel) ?_
  refine w_store (ls' := [.ref h, .int a, .int (nI 0), .int (nI 0)]) (.istore_n 3) 4 (by decide +kernel) rfl rfl ?_
  have LP_4 : ∀ (kk : Nat) (x2_4 : Int32) (g3 : Nat), g3 ≤ 5 → x2_4 = setI g3 (fun g => decide (M (h + 1) g = a)) → g3 ≤ n → 5 - g3 < kk → Wp d 24 4 [.ref h, .int a, .int x2_4, .int (nI g3)] [] M L Q := by
    intro kk
    induction kk with
    | zero => intro x2_4 g3 hi0_4 hi1_4 hi2_4 hm_4; exact absurd hm_4 (Nat.not_lt_zero _)
    | succ kk ih_4 =>
      intro x2_4 g3 hi0_4 hi1_4 hi2_4 hm_4
      refine w_load (.iload_n 3) 5 (by decide +kernel) rfl rfl ?_
      refine w_load (.aload_n 0) 6 (by decide +kernel) rfl rfl ?_
      refine w_getK (k := 2) 9 (by decide +kernel) hh.1.1 rfl en ?_
      refine w_cgeN 40 12 (by decide +kernel) (by omega) (by omega) (fun h1 => ?_) (fun h1 => ?_)
      · skip
        refine w_load (.iload_n 2) 41 (by decide +kernel) rfl rfl ?_
        refine w_load (.aload_n 0) 42 (by decide +kernel) rfl rfl ?_
        refine w_getR (k := 0) (r := h + 1) 45 (by decide +kernel) hh.1.1 rfl ?_
        refine w_pushN 15 47 (by decide +kernel) ?_
        refine w_ialdN 48 (by decide +kernel) hh.1.2.1 (by omega) (by omega) ?_
        refine w_pure .iand 49 (by decide +kernel) rfl rfl ?_
        exact w_ret (by decide +kernel) (hq _ (by have hgn : g3 = n := (by omega); rw [hgn] at hi1_4; exact (bears_and (by omega) hi1_4).trans (bears_cg hc)))
      · skip
        refine w_load (.iload_n 2) 13 (by decide +kernel) rfl rfl ?_
        refine w_load (.aload_n 0) 14 (by decide +kernel) rfl rfl ?_
        refine w_getR (k := 0) (r := h + 1) 17 (by decide +kernel) hh.1.1 rfl ?_
        refine w_pushN 0 18 (by decide +kernel) ?_
        refine w_load (.iload_n 3) 19 (by decide +kernel) rfl rfl ?_
        refine w_addN g3 20 (by decide +kernel) (by omega) ?_
        refine w_ialdN 21 (by decide +kernel) hh.1.2.1 (by omega) (by omega) ?_
        refine w_load (.iload_n 1) 22 (by decide +kernel) rfl rfl ?_
        refine w_cne 31 25 (by decide +kernel) (fun h2 => ?_) (fun h2 => ?_)
        · skip
          refine w_pushN 0 32 (by decide +kernel) ?_
          refine w_pure .ior 33 (by decide +kernel) rfl rfl ?_
          refine w_topi (fun v3 ev3 => ?_)
          refine w_store (ls' := [.ref h, .int a, .int v3, .int (nI g3)]) (.istore_n 2) 34 (by decide +kernel) rfl rfl ?_
          have ebit := ev3
          refine w_iincN (z := 3) (g3 + 1) 37 (by decide +kernel) rfl (Nat.le_of_ble_eq_true rfl) rfl rfl ?_
          show Wp _ _ _ [.ref h, .int a, .int v3, .int (nI (g3 + 1))] _ _ _ _
          refine w_goto 4 (by decide +kernel) ?_
          exact ih_4 _ (g3 + 1) (by first | omega | (rw [ebit]; first | exact setI_t (by assumption) (decide_eq_true (by assumption)) | exact setI_f (by assumption) (decide_eq_false (by assumption)))) (by first | omega | (rw [ebit]; first | exact setI_t (by assumption) (decide_eq_true (by assumption)) | exact setI_f (by assumption) (decide_eq_false (by assumption)))) (by first | omega | (rw [ebit]; first | exact setI_t (by assumption) (decide_eq_true (by assumption)) | exact setI_f (by assumption) (decide_eq_false (by assumption)))) (by omega)
        · skip
          refine w_pushN 1 26 (by decide +kernel) ?_
          refine w_load (.iload_n 3) 27 (by decide +kernel) rfl rfl ?_
          refine w_pure .ishl 28 (by decide +kernel) rfl rfl ?_
          refine w_goto 32 (by decide +kernel) ?_
          refine w_pure .ior 33 (by decide +kernel) rfl rfl ?_
          refine w_topi (fun v4 ev4 => ?_)
          refine w_store (ls' := [.ref h, .int a, .int v4, .int (nI g3)]) (.istore_n 2) 34 (by decide +kernel) rfl rfl ?_
          have ebit := ev4
          refine w_iincN (z := 3) (g3 + 1) 37 (by decide +kernel) rfl (Nat.le_of_ble_eq_true rfl) rfl rfl ?_
          show Wp _ _ _ [.ref h, .int a, .int v4, .int (nI (g3 + 1))] _ _ _ _
          refine w_goto 4 (by decide +kernel) ?_
          exact ih_4 _ (g3 + 1) (by first | omega | (rw [ebit]; first | exact setI_t (by assumption) (decide_eq_true (by assumption)) | exact setI_f (by assumption) (decide_eq_false (by assumption)))) (by first | omega | (rw [ebit]; first | exact setI_t (by assumption) (decide_eq_true (by assumption)) | exact setI_f (by assumption) (decide_eq_false (by assumption)))) (by first | omega | (rw [ebit]; first | exact setI_t (by assumption) (decide_eq_true (by assumption)) | exact setI_f (by assumption) (decide_eq_false (by assumption)))) (by omega)
  exact LP_4 _ _ 0 (by first | omega | rfl) (by first | omega | rfl) (by first | omega | rfl) (Nat.lt_succ_self _)
-- X1_rename#s
set_option maxRecDepth 10000 in
theorem s_rename {d : Nat} {M : Mt} {L : Lt} {Q : Option Value → Mt → Lt → Prop} {h n k : Nat} {c : Row} {a : Int32} (hI : Inv M) (hh : Hs h) (hn : n ≤ 5) (en : M h 2 = nI n) (hc : HE n (M (h + 1)) c) (hk : k < n) (hd : 1 ≤ d) (hq : ∀ (N : Mt), St (fun i _ => i = h + 1) M N → (HE n (N (h + 1)) (up1 c k a)) → Q none N L) : Wp d 26 0 [.ref h, .int (nI k), .int a] [] M L Q := by
  refine (show ∀ N : Mt, N = M → St (fun i _ => i = h + 1) M N → Wp d 26 0 [.ref h, .int (nI k), .int a] [] N L Q from ?_) M rfl (St.rf hI)
  intro N hNM hS
  have kz0 : N (h) 2 = nI n := by rw [hNM]; exact en
  refine w_load (.aload_n 0) 1 (by decide +kernel) rfl rfl ?_
  refine w_load (.iload_n 1) 2 (by decide +kernel) rfl rfl ?_
  refine w_callV1 11 1 2 5 (by decide +kernel) hh.1.1 (Nat.le_of_ble_eq_true rfl) rfl (by decide) (by omega) ?_
  refine s_has hS.1 hh (by omega) kz0 (by omega) (by omega) (fun r1 hr1 => ?_)
  dsimp only [Option.toList, List.cons_append, List.nil_append]
  rcases hr1 with rfl
  · skip
    refine w_ieq 17 8 (by decide +kernel) (fun hz => absurd hz (by decide)) (fun _ => ?_)
    refine w_load (.aload_n 0) 9 (by decide +kernel) rfl rfl ?_
    refine w_getR (k := 0) (r := h + 1) 12 (by decide +kernel) hh.1.1 rfl ?_
    refine w_pushN 0 13 (by decide +kernel) ?_
    refine w_load (.iload_n 1) 14 (by decide +kernel) rfl rfl ?_
    refine w_addN k 15 (by decide +kernel) (by omega) ?_
    refine w_load (.iload_n 2) 16 (by decide +kernel) rfl rfl ?_
    refine w_iastE 17 (by decide +kernel) hh.1.2.1 (by omega) (by omega) hS (Rg.free (by simp only [Hs, Tl, Sc, isScr, isHs, isTs] at *; omega)) (by first | exact rfl | omega | (dsimp only; omega) | (simp only [Hs, Tl, Sc, isHs, isScr, isTs] at *; omega)) (fun Nq3 hS hq3 oq3 mq3 => ?_)
    have kn4 := (oq3 (h) 2 (by first | omega | (simp only [Hs, Tl, Sc, isHs, isScr, isTs] at *; omega))).trans kz0
    exact w_retV (by decide +kernel) (hq Nq3 hS (by rw [mq3]; simp only [row_eq]; rw [hNM]; exact hc.up _ rfl))
-- X1_payFine#s
set_option maxRecDepth 10000 in
theorem s_payFine {d : Nat} {M : Mt} {L : Lt} {Q : Option Value → Mt → Lt → Prop} {h n k : Nat} {c : Row} (hI : Inv M) (hh : Hs h) (hn : n ≤ 5) (en : M h 2 = nI n) (hc : HE n (M (h + 1)) c) (hk : k < n) (hd : 1 ≤ d) (hq : ∀ (N : Mt), St (fun i _ => i = h + 1) M N → (HE n (N (h + 1)) (fineC c k)) → Q none N L) : Wp d 27 0 [.ref h, .int (nI k)] [] M L Q := by
  refine (show ∀ N : Mt, N = M → St (fun i _ => i = h + 1) M N → Wp d 27 0 [.ref h, .int (nI k)] [] N L Q from ?_) M rfl (St.rf hI)
  intro N hNM hS
  have kz0 : N (h) 2 = nI n := by rw [hNM]; exact en
  refine w_load (.aload_n 0) 1 (by decide +kernel) rfl rfl ?_
  refine w_load (.iload_n 1) 2 (by decide +kernel) rfl rfl ?_
  refine w_callV1 11 1 2 5 (by decide +kernel) hh.1.1 (Nat.le_of_ble_eq_true rfl) rfl (by decide) (by omega) ?_
  refine s_has hS.1 hh (by omega) kz0 (by omega) (by omega) (fun r1 hr1 => ?_)
  dsimp only [Option.toList, List.cons_append, List.nil_append]
  rcases hr1 with rfl
  · skip
    refine w_ieq 20 8 (by decide +kernel) (fun hz => absurd hz (by decide)) (fun _ => ?_)
    refine w_load (.aload_n 0) 9 (by decide +kernel) rfl rfl ?_
    refine w_getR (k := 0) (r := h + 1) 12 (by decide +kernel) hh.1.1 rfl ?_
    refine w_pushN 5 13 (by decide +kernel) ?_
    refine w_load (.iload_n 1) 14 (by decide +kernel) rfl rfl ?_
    refine w_addN (5 + k) 15 (by decide +kernel) (by omega) ?_
    refine w_pure .dup2 16 (by decide +kernel) rfl rfl ?_
    refine w_ialdN 17 (by decide +kernel) hh.1.2.1 (by omega) (by omega) ?_
    refine w_pushN 1 18 (by decide +kernel) ?_
    refine w_pure .isub 19 (by decide +kernel) rfl rfl ?_
    refine w_iastE 20 (by decide +kernel) hh.1.2.1 (by omega) (by omega) hS (Rg.free (by simp only [Hs, Tl, Sc, isScr, isHs, isTs] at *; omega)) (by first | exact rfl | omega | (dsimp only; omega) | (simp only [Hs, Tl, Sc, isHs, isScr, isTs] at *; omega)) (fun Nq3 hS hq3 oq3 mq3 => ?_)
    have kn4 := (oq3 (h) 2 (by first | omega | (simp only [Hs, Tl, Sc, isHs, isScr, isTs] at *; omega))).trans kz0
    exact w_retV (by decide +kernel) (hq Nq3 hS (by rw [mq3]; simp only [row_eq]; rw [hNM]; exact hc.fine hk))
-- X1_handCoin#s
set_option maxRecDepth 10000 in
theorem s_handCoin {d : Nat} {M : Mt} {L : Lt} {Q : Option Value → Mt → Lt → Prop} {h n k o : Nat} {c : Row} (hI : Inv M) (hh : Hs h) (hn : n ≤ 5) (en : M h 2 = nI n) (hc : HE n (M (h + 1)) c) (hk : k < n) (ho : o < n) (hd : 1 ≤ d) (hq : ∀ (r : Int32) (N : Mt), St (fun i _ => i = h + 1) M N → ((r = 1 ∧ 0 < c (5 + k) ∧ HE n (N (h + 1)) (giveC c k o)) ∨ (r = 0 ∧ ¬ 0 < c (5 + k) ∧ HE n (N (h + 1)) c)) → Q (some (.int r)) N L) : Wp d 28 0 [.ref h, .int (nI k), .int (nI o)] [] M L Q := by
  refine (show ∀ N : Mt, N = M → St (fun i _ => i = h + 1) M N → Wp d 28 0 [.ref h, .int (nI k), .int (nI o)] [] N L Q from ?_) M rfl (St.rf hI)
  intro N hNM hS
  have kz0 : N (h) 2 = nI n := by rw [hNM]; exact en
  refine w_load (.aload_n 0) 1 (by decide +kernel) rfl rfl ?_
  refine w_load (.iload_n 1) 2 (by decide +kernel) rfl rfl ?_
  refine w_callV1 11 1 2 5 (by decide +kernel) hh.1.1 (Nat.le_of_ble_eq_true rfl) rfl (by decide) (by omega) ?_
  refine s_has hS.1 hh (by omega) kz0 (by omega) (by omega) (fun r1 hr1 => ?_)
  dsimp only [Option.toList, List.cons_append, List.nil_append]
  rcases hr1 with rfl
  · skip
    refine w_ieq 27 8 (by decide +kernel) (fun hz => absurd hz (by decide)) (fun _ => ?_)
    refine w_load (.aload_n 0) 9 (by decide +kernel) rfl rfl ?_
    refine w_load (.iload_n 2) 10 (by decide +kernel) rfl rfl ?_
    refine w_callV1 11 1 2 13 (by decide +kernel) hh.1.1 (Nat.le_of_ble_eq_true rfl) rfl (by decide) (by omega) ?_
    refine s_has hS.1 hh (by omega) kz0 (by omega) (by omega) (fun r3 hr3 => ?_)
    dsimp only [Option.toList, List.cons_append, List.nil_append]
    rcases hr3 with rfl
    · skip
      refine w_ieq 27 16 (by decide +kernel) (fun hz => absurd hz (by decide)) (fun _ => ?_)
      refine w_load (.aload_n 0) 17 (by decide +kernel) rfl rfl ?_
      refine w_getR (k := 0) (r := h + 1) 20 (by decide +kernel) hh.1.1 rfl ?_
      refine w_pushN 5 21 (by decide +kernel) ?_
      refine w_load (.iload_n 1) 22 (by decide +kernel) rfl rfl ?_
      refine w_addN (5 + k) 23 (by decide +kernel) (by omega) ?_
      refine w_ialdN 24 (by decide +kernel) hh.1.2.1 (by omega) (by omega) ?_
      refine w_igt 29 27 (by decide +kernel) (fun h5 => ?_) (fun h5 => ?_)
      · skip
        refine w_load (.aload_n 0) 30 (by decide +kernel) rfl rfl ?_
        refine w_getR (k := 0) (r := h + 1) 33 (by decide +kernel) hh.1.1 rfl ?_
        refine w_pushN 5 34 (by decide +kernel) ?_
        refine w_load (.iload_n 1) 35 (by decide +kernel) rfl rfl ?_
        refine w_addN (5 + k) 36 (by decide +kernel) (by omega) ?_
        refine w_pure .dup2 37 (by decide +kernel) rfl rfl ?_
        refine w_ialdN 38 (by decide +kernel) hh.1.2.1 (by omega) (by omega) ?_
        refine w_pushN 1 39 (by decide +kernel) ?_
        refine w_pure .isub 40 (by decide +kernel) rfl rfl ?_
        refine w_iastE 41 (by decide +kernel) hh.1.2.1 (by omega) (by omega) hS (Rg.free (by simp only [Hs, Tl, Sc, isScr, isHs, isTs] at *; omega)) (by first | exact rfl | omega | (dsimp only; omega) | (simp only [Hs, Tl, Sc, isHs, isScr, isTs] at *; omega)) (fun Nq6 hS hq6 oq6 mq6 => ?_)
        have kn7 := (oq6 (h) 2 (by first | omega | (simp only [Hs, Tl, Sc, isHs, isScr, isTs] at *; omega))).trans kz0
        refine w_load (.aload_n 0) 42 (by decide +kernel) rfl rfl ?_
        refine w_getR (k := 0) (r := h + 1) 45 (by decide +kernel) hh.1.1 rfl ?_
        refine w_pushN 5 46 (by decide +kernel) ?_
        refine w_load (.iload_n 2) 47 (by decide +kernel) rfl rfl ?_
        refine w_addN (5 + o) 48 (by decide +kernel) (by omega) ?_
        refine w_pure .dup2 49 (by decide +kernel) rfl rfl ?_
        refine w_ialdN 50 (by decide +kernel) hh.1.2.1 (by omega) (by omega) ?_
        refine w_pushN 1 51 (by decide +kernel) ?_
        refine w_pure .iadd 52 (by decide +kernel) rfl rfl ?_
        refine w_iastE 53 (by decide +kernel) hh.1.2.1 (by omega) (by omega) hS (Rg.free (by simp only [Hs, Tl, Sc, isScr, isHs, isTs] at *; omega)) (by first | exact rfl | omega | (dsimp only; omega) | (simp only [Hs, Tl, Sc, isHs, isScr, isTs] at *; omega)) (fun Nq8 hS hq8 oq8 mq8 => ?_)
        have kn9 := (oq8 (h) 2 (by first | omega | (simp only [Hs, Tl, Sc, isHs, isScr, isTs] at *; omega))).trans kn7
        refine w_pushN 1 54 (by decide +kernel) ?_
        exact w_retZ (by decide +kernel) (Or.inr rfl) (hq _ Nq8 hS (Or.inl ⟨rfl, by rw [← (hc.1 k hk).2.1, ← hNM]; assumption, (by rw [mq8, mq6]; simp only [row_eq]; rw [hNM]; exact hc.give hk ho)⟩))
      · skip
        refine w_pushN 0 28 (by decide +kernel) ?_
        exact w_retZ (by decide +kernel) (Or.inl rfl) (hq _ N hS (Or.inr ⟨rfl, by rw [← (hc.1 k hk).2.1, ← hNM]; assumption, by rw [hNM]; exact hc⟩))
-- X1_join#s
set_option maxRecDepth 10000 in
theorem s_join {d : Nat} {M : Mt} {L : Lt} {Q : Option Value → Mt → Lt → Prop} {h n k o : Nat} {c : Row} (hI : Inv M) (hh : Hs h) (hn : n ≤ 5) (en : M h 2 = nI n) (hc : HE n (M (h + 1)) c) (hk : k < n) (ho : o < n) (hd : 1 ≤ d) (hq : ∀ (r : Int32) (N : Mt), St (fun i _ => i = h + 1) M N → ((r = 1 ∧ (c (10 + k) = -9 ∧ c (10 + o) = -9) ∧ HE n (N (h + 1)) (joinC c k o)) ∨ (r = 0 ∧ ¬ (c (10 + k) = -9 ∧ c (10 + o) = -9) ∧ HE n (N (h + 1)) c)) → Q (some (.int r)) N L) : Wp d 29 0 [.ref h, .int (nI k), .int (nI o)] [] M L Q := by
  refine (show ∀ N : Mt, N = M → St (fun i _ => i = h + 1) M N → Wp d 29 0 [.ref h, .int (nI k), .int (nI o)] [] N L Q from ?_) M rfl (St.rf hI)
  intro N hNM hS
  have kz0 : N (h) 2 = nI n := by rw [hNM]; exact en
  refine w_load (.aload_n 0) 1 (by decide +kernel) rfl rfl ?_
  refine w_load (.iload_n 1) 2 (by decide +kernel) rfl rfl ?_
  refine w_callV1 11 1 2 5 (by decide +kernel) hh.1.1 (Nat.le_of_ble_eq_true rfl) rfl (by decide) (by omega) ?_
  refine s_has hS.1 hh (by omega) kz0 (by omega) (by omega) (fun r1 hr1 => ?_)
  dsimp only [Option.toList, List.cons_append, List.nil_append]
  rcases hr1 with rfl
  · skip
    refine w_ieq 44 8 (by decide +kernel) (fun hz => absurd hz (by decide)) (fun _ => ?_)
    refine w_load (.aload_n 0) 9 (by decide +kernel) rfl rfl ?_
    refine w_load (.iload_n 2) 10 (by decide +kernel) rfl rfl ?_
    refine w_callV1 11 1 2 13 (by decide +kernel) hh.1.1 (Nat.le_of_ble_eq_true rfl) rfl (by decide) (by omega) ?_
    refine s_has hS.1 hh (by omega) kz0 (by omega) (by omega) (fun r3 hr3 => ?_)
    dsimp only [Option.toList, List.cons_append, List.nil_append]
    rcases hr3 with rfl
    · skip
      refine w_ieq 44 16 (by decide +kernel) (fun hz => absurd hz (by decide)) (fun _ => ?_)
      refine w_load (.aload_n 0) 17 (by decide +kernel) rfl rfl ?_
      refine w_getR (k := 0) (r := h + 1) 20 (by decide +kernel) hh.1.1 rfl ?_
      refine w_pushN 10 22 (by decide +kernel) ?_
      refine w_load (.iload_n 1) 23 (by decide +kernel) rfl rfl ?_
      refine w_addN (10 + k) 24 (by decide +kernel) (by omega) ?_
      refine w_ialdN 25 (by decide +kernel) hh.1.2.1 (by omega) (by omega) ?_
      refine w_push (-9) 27 (by decide +kernel) ?_
      refine w_cne 44 30 (by decide +kernel) (fun h5 => ?_) (fun h5 => ?_)
      · skip
        refine w_pushN 0 45 (by decide +kernel) ?_
        exact w_retZ (by decide +kernel) (Or.inl rfl) (hq _ N hS (Or.inr ⟨rfl, by rw [← (hc.1 k hk).2.2, ← (hc.1 o ho).2.2, ← hNM]; intro hz; first | exact absurd hz.1 (by assumption) | exact absurd hz.2 (by assumption), by rw [hNM]; exact hc⟩))
      · skip
        refine w_load (.aload_n 0) 31 (by decide +kernel) rfl rfl ?_
        refine w_getR (k := 0) (r := h + 1) 34 (by decide +kernel) hh.1.1 rfl ?_
        refine w_pushN 10 36 (by decide +kernel) ?_
        refine w_load (.iload_n 2) 37 (by decide +kernel) rfl rfl ?_
        refine w_addN (10 + o) 38 (by decide +kernel) (by omega) ?_
        refine w_ialdN 39 (by decide +kernel) hh.1.2.1 (by omega) (by omega) ?_
        refine w_push (-9) 41 (by decide +kernel) ?_
        refine w_ceq 46 44 (by decide +kernel) (fun h6 => ?_) (fun h6 => ?_)
        · skip
          refine w_load (.aload_n 0) 47 (by decide +kernel) rfl rfl ?_
          refine w_getR (k := 0) (r := h + 1) 50 (by decide +kernel) hh.1.1 rfl ?_
          refine w_pushN 10 52 (by decide +kernel) ?_
          refine w_load (.iload_n 1) 53 (by decide +kernel) rfl rfl ?_
          refine w_addN (10 + k) 54 (by decide +kernel) (by omega) ?_
          refine w_load (.iload_n 2) 55 (by decide +kernel) rfl rfl ?_
          refine w_iastE 56 (by decide +kernel) hh.1.2.1 (by omega) (by omega) hS (Rg.free (by simp only [Hs, Tl, Sc, isScr, isHs, isTs] at *; omega)) (by first | exact rfl | omega | (dsimp only; omega) | (simp only [Hs, Tl, Sc, isHs, isScr, isTs] at *; omega)) (fun Nq7 hS hq7 oq7 mq7 => ?_)
          have kn8 := (oq7 (h) 2 (by first | omega | (simp only [Hs, Tl, Sc, isHs, isScr, isTs] at *; omega))).trans kz0
          refine w_load (.aload_n 0) 57 (by decide +kernel) rfl rfl ?_
          refine w_getR (k := 0) (r := h + 1) 60 (by decide +kernel) hh.1.1 rfl ?_
          refine w_pushN 10 62 (by decide +kernel) ?_
          refine w_load (.iload_n 2) 63 (by decide +kernel) rfl rfl ?_
          refine w_addN (10 + o) 64 (by decide +kernel) (by omega) ?_
          refine w_load (.iload_n 1) 65 (by decide +kernel) rfl rfl ?_
          refine w_iastE 66 (by decide +kernel) hh.1.2.1 (by omega) (by omega) hS (Rg.free (by simp only [Hs, Tl, Sc, isScr, isHs, isTs] at *; omega)) (by first | exact rfl | omega | (dsimp only; omega) | (simp only [Hs, Tl, Sc, isHs, isScr, isTs] at *; omega)) (fun Nq9 hS hq9 oq9 mq9 => ?_)
          have kn10 := (oq9 (h) 2 (by first | omega | (simp only [Hs, Tl, Sc, isHs, isScr, isTs] at *; omega))).trans kn8
          refine w_pushN 1 67 (by decide +kernel) ?_
          exact w_retZ (by decide +kernel) (Or.inr rfl) (hq _ Nq9 hS (Or.inl ⟨rfl, by rw [← (hc.1 k hk).2.2, ← (hc.1 o ho).2.2, ← hNM]; exact ⟨by assumption, by assumption⟩, (by rw [mq9, mq7]; simp only [row_eq]; rw [hNM]; exact hc.join)⟩))
        · skip
          refine w_pushN 0 45 (by decide +kernel) ?_
          exact w_retZ (by decide +kernel) (Or.inl rfl) (hq _ N hS (Or.inr ⟨rfl, by rw [← (hc.1 k hk).2.2, ← (hc.1 o ho).2.2, ← hNM]; intro hz; first | exact absurd hz.1 (by assumption) | exact absurd hz.2 (by assumption), by rw [hNM]; exact hc⟩))
-- X1_bury#s
set_option maxRecDepth 10000 in
theorem s_bury {d : Nat} {M : Mt} {L : Lt} {Q : Option Value → Mt → Lt → Prop} {h n o : Nat} {c : Row} (hI : Inv M) (hh : Hs h) (hn : n ≤ 5) (en : M h 2 = nI n) (hc : HE n (M (h + 1)) c) (ho : o < n) (hw : wedOk n c) (hd : 1 ≤ d) (hq : ∀ (N : Mt), St (fun i _ => i = h + 1) M N → (HE n (N (h + 1)) (buryC c o)) → Q none N L) : Wp d 30 0 [.ref h, .int (nI o), .null] [] M L Q := by
  refine (show ∀ N : Mt, N = M → St (fun i _ => i = h + 1) M N → Wp d 30 0 [.ref h, .int (nI o), .null] [] N L Q from ?_) M rfl (St.rf hI)
  intro N hNM hS
  have kz0 : N (h) 2 = nI n := by rw [hNM]; exact en
  refine w_load (.aload_n 0) 1 (by decide +kernel) rfl rfl ?_
  refine w_load (.iload_n 1) 2 (by decide +kernel) rfl rfl ?_
  refine w_callV1 11 1 2 5 (by decide +kernel) hh.1.1 (Nat.le_of_ble_eq_true rfl) rfl (by decide) (by omega) ?_
  refine s_has hS.1 hh (by omega) kz0 (by omega) (by omega) (fun r1 hr1 => ?_)
  dsimp only [Option.toList, List.cons_append, List.nil_append]
  rcases hr1 with rfl
  · skip
    refine w_ine 9 8 (by decide +kernel) (fun _ => ?_) (fun hz => absurd hz (by decide))
    refine w_load (.aload_n 0) 10 (by decide +kernel) rfl rfl ?_
    refine w_getR (k := 0) (r := h + 1) 13 (by decide +kernel) hh.1.1 rfl ?_
    refine w_pushN 10 15 (by decide +kernel) ?_
    refine w_load (.iload_n 1) 16 (by decide +kernel) rfl rfl ?_
    refine w_addN (10 + o) 17 (by decide +kernel) (by omega) ?_
    refine w_ialdN 18 (by decide +kernel) hh.1.2.1 (by omega) (by omega) ?_
    refine w_topi (fun v3 ev3 => ?_)
    refine w_store (ls' := [.ref h, .int (nI o), .int v3]) (.istore_n 2) 19 (by decide +kernel) rfl rfl ?_
    have ewid := ev3
    refine w_load (.aload_n 0) 20 (by decide +kernel) rfl rfl ?_
    refine w_load (.iload_n 2) 21 (by decide +kernel) rfl rfl ?_
    refine w_callV1 11 1 2 24 (by decide +kernel) hh.1.1 (Nat.le_of_ble_eq_true rfl) rfl (by decide) (by omega) ?_
    refine k_11 hS.1 hh (by omega) kz0 (by omega) (fun r4 hr4 => ?_)
    dsimp only [Option.toList, List.cons_append, List.nil_append]
    rcases hr4 with ⟨rfl, k5, hk5, rfl⟩ | ⟨rfl, hnok5⟩
    · skip
      refine w_ieq 38 27 (by decide +kernel) (fun hz => absurd hz (by decide)) (fun _ => ?_)
      refine w_load (.aload_n 0) 28 (by decide +kernel) rfl rfl ?_
      refine w_getR (k := 0) (r := h + 1) 31 (by decide +kernel) hh.1.1 rfl ?_
      refine w_pushN 10 33 (by decide +kernel) ?_
      refine w_load (.iload_n 2) 34 (by decide +kernel) rfl rfl ?_
      refine w_addN (10 + k5) 35 (by decide +kernel) (by omega) ?_
      refine w_push (-9) 37 (by decide +kernel) ?_
      refine w_iastE 38 (by decide +kernel) hh.1.2.1 (by omega) (by omega) hS (Rg.free (by simp only [Hs, Tl, Sc, isScr, isHs, isTs] at *; omega)) (by first | exact rfl | omega | (dsimp only; omega) | (simp only [Hs, Tl, Sc, isHs, isScr, isTs] at *; omega)) (fun Nq7 hS hq7 oq7 mq7 => ?_)
      have kn8 := (oq7 (h) 2 (by first | omega | (simp only [Hs, Tl, Sc, isHs, isScr, isTs] at *; omega))).trans kz0
      refine w_load (.aload_n 0) 39 (by decide +kernel) rfl rfl ?_
      refine w_getR (k := 0) (r := h + 1) 42 (by decide +kernel) hh.1.1 rfl ?_
      refine w_pushN 10 44 (by decide +kernel) ?_
      refine w_load (.iload_n 1) 45 (by decide +kernel) rfl rfl ?_
      refine w_addN (10 + o) 46 (by decide +kernel) (by omega) ?_
      refine w_push (-9) 48 (by decide +kernel) ?_
      refine w_iastE 49 (by decide +kernel) hh.1.2.1 (by omega) (by omega) hS (Rg.free (by simp only [Hs, Tl, Sc, isScr, isHs, isTs] at *; omega)) (by first | exact rfl | omega | (dsimp only; omega) | (simp only [Hs, Tl, Sc, isHs, isScr, isTs] at *; omega)) (fun Nq9 hS hq9 oq9 mq9 => ?_)
      have kn10 := (oq9 (h) 2 (by first | omega | (simp only [Hs, Tl, Sc, isHs, isScr, isTs] at *; omega))).trans kn8
      refine w_load (.aload_n 0) 50 (by decide +kernel) rfl rfl ?_
      refine w_getR (k := 0) (r := h + 1) 53 (by decide +kernel) hh.1.1 rfl ?_
      refine w_pushN 15 55 (by decide +kernel) ?_
      refine w_pure .dup2 56 (by decide +kernel) rfl rfl ?_
      refine w_ialdN 57 (by decide +kernel) hh.1.2.1 (by omega) (by omega) ?_
      refine w_pushN 1 58 (by decide +kernel) ?_
      refine w_load (.iload_n 1) 59 (by decide +kernel) rfl rfl ?_
      refine w_pure .ishl 60 (by decide +kernel) rfl rfl ?_
      refine w_push (-1) 61 (by decide +kernel) ?_
      refine w_pure .ixor 62 (by decide +kernel) rfl rfl ?_
      refine w_pure .iand 63 (by decide +kernel) rfl rfl ?_
      refine w_iastE 64 (by decide +kernel) hh.1.2.1 (by omega) (by omega) hS (Rg.free (by simp only [Hs, Tl, Sc, isScr, isHs, isTs] at *; omega)) (by first | exact rfl | omega | (dsimp only; omega) | (simp only [Hs, Tl, Sc, isHs, isScr, isTs] at *; omega)) (fun Nq11 hS hq11 oq11 mq11 => ?_)
      have kn12 := (oq11 (h) 2 (by first | omega | (simp only [Hs, Tl, Sc, isHs, isScr, isTs] at *; omega))).trans kn10
      exact w_retV (by decide +kernel) (hq Nq11 hS (by rw [mq11, mq9, mq7]; simp only [row_eq]; rw [hNM]; exact (HE.of_eq (bury_in (by rw [← hNM]; exact ewid) (by assumption) (by omega) ho)).tr (hc.bury ho)))
    · skip
      refine w_ieq 38 27 (by decide +kernel) (fun _ => ?_) (fun hz => absurd hz (by decide))
      refine w_load (.aload_n 0) 39 (by decide +kernel) rfl rfl ?_
      refine w_getR (k := 0) (r := h + 1) 42 (by decide +kernel) hh.1.1 rfl ?_
      refine w_pushN 10 44 (by decide +kernel) ?_
      refine w_load (.iload_n 1) 45 (by decide +kernel) rfl rfl ?_
      refine w_addN (10 + o) 46 (by decide +kernel) (by omega) ?_
      refine w_push (-9) 48 (by decide +kernel) ?_
      refine w_iastE 49 (by decide +kernel) hh.1.2.1 (by omega) (by omega) hS (Rg.free (by simp only [Hs, Tl, Sc, isScr, isHs, isTs] at *; omega)) (by first | exact rfl | omega | (dsimp only; omega) | (simp only [Hs, Tl, Sc, isHs, isScr, isTs] at *; omega)) (fun Nq14 hS hq14 oq14 mq14 => ?_)
      have kn15 := (oq14 (h) 2 (by first | omega | (simp only [Hs, Tl, Sc, isHs, isScr, isTs] at *; omega))).trans kz0
      refine w_load (.aload_n 0) 50 (by decide +kernel) rfl rfl ?_
      refine w_getR (k := 0) (r := h + 1) 53 (by decide +kernel) hh.1.1 rfl ?_
      refine w_pushN 15 55 (by decide +kernel) ?_
      refine w_pure .dup2 56 (by decide +kernel) rfl rfl ?_
      refine w_ialdN 57 (by decide +kernel) hh.1.2.1 (by omega) (by omega) ?_
      refine w_pushN 1 58 (by decide +kernel) ?_
      refine w_load (.iload_n 1) 59 (by decide +kernel) rfl rfl ?_
      refine w_pure .ishl 60 (by decide +kernel) rfl rfl ?_
      refine w_push (-1) 61 (by decide +kernel) ?_
      refine w_pure .ixor 62 (by decide +kernel) rfl rfl ?_
      refine w_pure .iand 63 (by decide +kernel) rfl rfl ?_
      refine w_iastE 64 (by decide +kernel) hh.1.2.1 (by omega) (by omega) hS (Rg.free (by simp only [Hs, Tl, Sc, isScr, isHs, isTs] at *; omega)) (by first | exact rfl | omega | (dsimp only; omega) | (simp only [Hs, Tl, Sc, isHs, isScr, isTs] at *; omega)) (fun Nq16 hS hq16 oq16 mq16 => ?_)
      have kn17 := (oq16 (h) 2 (by first | omega | (simp only [Hs, Tl, Sc, isHs, isScr, isTs] at *; omega))).trans kn15
      exact w_retV (by decide +kernel) (hq Nq16 hS (by rw [mq16, mq14]; simp only [row_eq]; rw [hNM]; exact (HE.of_eq (bury_out (wed_no (by rw [(hc.1 o ho).2.2]; exact hw o ho) (by rw [← hNM, ← ewid]; assumption)) (by omega) ho)).tr (hc.bury ho)))
-- X2_deedAt#s
set_option maxRecDepth 10000 in
theorem s_deedAt {d : Nat} {M : Mt} {L : Lt} {Q : Option Value → Mt → Lt → Prop} {s n k : Nat} (hI : Inv M) (hc : Sc s) (hn : n ≤ 24) (en : M s 1 = nI n) (hk : 3 * k + 2 < n) (hd : 1 ≤ d) (hq : ∀ (r : Int32), (r = deedV (M (s + 1)) k) → Q (some (.int r)) M L) : Wp d 44 0 [.ref s, .int (nI k), .null, .null] [] M L Q := by
  refine w_load (.iload_n 1) 1 (by decide +kernel) rfl rfl ?_
  refine w_pushN 3 2 (by decide +kernel) ?_
  refine w_mulN (k * 3) 3 (by decide +kernel) rfl ?_
  refine w_store (ls' := [.ref s, .int (nI k), .int (nI (k * 3)), .null]) (.istore_n 2) 4 (by decide +kernel) rfl rfl ?_
  refine w_load (.aload_n 0) 5 (by decide +kernel) rfl rfl ?_
  refine w_load (.iload_n 2) 6 (by decide +kernel) rfl rfl ?_
  refine w_callV1 40 2 2 9 (by decide +kernel) hc.1.1 (Nat.le_of_ble_eq_true rfl) rfl (by decide) (by omega) ?_
  refine s_letterAt hI hc (by omega) en (by omega) (by omega) (fun r1 hr1 => ?_)
  dsimp only [Option.toList, List.cons_append, List.nil_append]
  rcases hr1 with rfl
  · skip
    refine w_callS1 49 1 12 (by decide +kernel) (Nat.le_of_ble_eq_true rfl) rfl (by decide) (by omega) ?_
    refine k_49 hI  (by omega) (fun r2 hr2 => ?_)
    dsimp only [Option.toList, List.cons_append, List.nil_append]
    rcases hr2 with rfl
    · skip
      refine w_topi (fun v3 ev3 => ?_)
      refine w_store (ls' := [.ref s, .int (nI k), .int (nI (k * 3)), .int v3]) (.istore_n 3) 13 (by decide +kernel) rfl rfl ?_
      have eK := ev3
      refine w_load (.iload_n 3) 14 (by decide +kernel) rfl rfl ?_
      refine w_pushN 16 16 (by decide +kernel) ?_
      refine w_pure .imul 17 (by decide +kernel) rfl rfl ?_
      refine w_load (.aload_n 0) 18 (by decide +kernel) rfl rfl ?_
      refine w_load (.iload_n 2) 19 (by decide +kernel) rfl rfl ?_
      refine w_pushN 1 20 (by decide +kernel) ?_
      refine w_addN (k * 3 + 1) 21 (by decide +kernel) (by omega) ?_
      refine w_callV1 40 2 2 24 (by decide +kernel) hc.1.1 (Nat.le_of_ble_eq_true rfl) rfl (by decide) (by omega) ?_
      refine s_letterAt hI hc (by omega) en (by omega) (by omega) (fun r4 hr4 => ?_)
      dsimp only [Option.toList, List.cons_append, List.nil_append]
      rcases hr4 with rfl
      · skip
        refine w_pushN 97 26 (by decide +kernel) ?_
        refine w_pure .isub 27 (by decide +kernel) rfl rfl ?_
        refine w_pushN 4 28 (by decide +kernel) ?_
        refine w_pure .imul 29 (by decide +kernel) rfl rfl ?_
        refine w_pure .iadd 30 (by decide +kernel) rfl rfl ?_
        refine w_load (.aload_n 0) 31 (by decide +kernel) rfl rfl ?_
        refine w_load (.iload_n 2) 32 (by decide +kernel) rfl rfl ?_
        refine w_pushN 2 33 (by decide +kernel) ?_
        refine w_addN (k * 3 + 2) 34 (by decide +kernel) (by omega) ?_
        refine w_callV1 40 2 2 37 (by decide +kernel) hc.1.1 (Nat.le_of_ble_eq_true rfl) rfl (by decide) (by omega) ?_
        refine s_letterAt hI hc (by omega) en (by omega) (by omega) (fun r5 hr5 => ?_)
        dsimp only [Option.toList, List.cons_append, List.nil_append]
        rcases hr5 with rfl
        · skip
          refine w_pure .iadd 38 (by decide +kernel) rfl rfl ?_
          refine w_pushN 97 40 (by decide +kernel) ?_
          refine w_pure .isub 41 (by decide +kernel) rfl rfl ?_
          exact w_ret (by decide +kernel) (hq _ (by rw [eK]; unfold deedV; rw [Nat.mul_comm k 3]))
