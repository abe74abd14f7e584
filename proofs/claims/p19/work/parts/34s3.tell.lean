-- X6_fine#s
set_option maxRecDepth 10000 in
theorem s_fine {d : Nat} {M : Mt} {L : Lt} {Q : Option Value → Mt → Lt → Prop} {t n k : Nat} {s : TSt} (hI : Inv M) (ht : Tl t) (hn : n ≤ 5) (en : M (t + 1) 2 = nI n) (hs : shT n t M s) (hk : k < n) (hd : 2 ≤ d) (hq : ∀ (N : Mt), St (fun i _ => i = t ∨ i = t + 2 ∨ i = t + 4) M N → (shT n t N (fineS s k)) → Q none N L) : Wp d 74 0 [.ref t, .int (nI k)] [] M L Q := by
  refine (show ∀ N : Mt, N = M → St (fun i _ => i = t ∨ i = t + 2 ∨ i = t + 4) M N → Wp d 74 0 [.ref t, .int (nI k)] [] N L Q from ?_) M rfl (St.rf hI)
  intro N hNM hS
  have kz0 : N (t + 1) 2 = nI n := by rw [hNM]; exact en
  have hs0 : shT n t N s := by rw [hNM]; exact hs
  refine w_load (.aload_n 0) 1 (by decide +kernel) rfl rfl ?_
  refine w_getR (k := 0) (r := t + 1) 4 (by decide +kernel) ht.1.1 rfl ?_
  refine w_load (.iload_n 1) 5 (by decide +kernel) rfl rfl ?_
  refine w_callV1 27 1 2 8 (by decide +kernel) ht.1.2.1.1 (Nat.le_of_ble_eq_true rfl) rfl (by decide) (by omega) ?_
  refine s_payFine hS.1 (tl_h ht) (by omega) kz0 hs0.1 (by omega) (by omega) (fun Nr1 hTr1 hr1 => ?_)
  have kn2 := (hTr1.2 (t + 1) 2 (by (try dsimp only); first | omega | (simp only [Hs, Tl, Sc, isHs, isScr, isTs] at *; omega))).trans kz0
  have hS := hS.tr hTr1 (by intro i k; first | exact rfl | exact fun h => h.elim | omega | (dsimp only; omega) | (simp only [Hs, Tl, Sc, isHs, isScr, isTs] at *; omega))
  dsimp only [Option.toList, List.nil_append]
  refine w_load (.aload_n 0) 9 (by decide +kernel) rfl rfl ?_
  refine w_pure .dup 10 (by decide +kernel) rfl rfl ?_
  refine w_getI (k := 3) 13 (by decide +kernel) ht.1.1 rfl ?_
  refine w_pushN 1 14 (by decide +kernel) ?_
  refine w_pure .iadd 15 (by decide +kernel) rfl rfl ?_
  refine w_putE (k := 3) 18 (by decide +kernel) ht.1.1 rfl hS (Rg.free (by simp only [Hs, Tl, Sc, isScr, isHs, isTs] at *; omega)) (by first | exact rfl | omega | (dsimp only; omega) | (simp only [Hs, Tl, Sc, isHs, isScr, isTs] at *; omega)) (fun Nq3 hS hq3 oq3 mq3 => ?_)
  have kn4 := (oq3 (t + 1) 2 (by first | omega | (simp only [Hs, Tl, Sc, isHs, isScr, isTs] at *; omega))).trans kn2
  exact w_retV (by decide +kernel) (hq Nq3 hS ⟨by rw [mq3, row_ne (by first | omega | (simp only [Hs, Tl, Sc, isHs, isScr, isTs] at *; omega))]; exact hr1, by rw [mq3, row_ne (by first | omega | (simp only [Hs, Tl, Sc, isHs, isScr, isTs] at *; omega)), hTr1.row (fun k => by (try dsimp only); first | omega | (simp only [Hs, Tl, Sc, isHs, isScr, isTs] at *; omega)), hNM]; exact hs.2.1, by show _ = s.2.2.1 + nI 1; rw [mq3, up2_eq, hTr1.2 t 3 (by (try dsimp only); omega), hNM, hs.2.2.1], by show _ = s.2.2.2; rw [mq3, up2_ne (by first | omega | (simp only [Hs, Tl, Sc, isHs, isScr, isTs] at *; omega)), hTr1.2 t 2 (by (try dsimp only); first | omega | (simp only [Hs, Tl, Sc, isHs, isScr, isTs] at *; omega)), hNM]; exact hs.2.2.2⟩)
-- X6_doersOf#s
set_option maxRecDepth 10000 in
theorem s_doersOf {d : Nat} {M : Mt} {L : Lt} {Q : Option Value → Mt → Lt → Prop} {t n : Nat} {s : TSt} {a : Int32} (hI : Inv M) (ht : Tl t) (hn : n ≤ 5) (en : M (t + 1) 2 = nI n) (hs : shT n t M s) (hd : 1 ≤ d) (hq : ∀ (r : Int32), (r = dorI n a s) → Q (some (.int r)) M L) : Wp d 70 0 [.ref t, .int a, .null, .null] [] M L Q := by
  refine w_load (.aload_n 0) 1 (by decide +kernel) rfl rfl ?_
  refine w_getR (k := 0) (r := t + 1) 4 (by decide +kernel) ht.1.1 rfl ?_
  refine w_load (.iload_n 1) 5 (by decide +kernel) rfl rfl ?_
  refine w_callS1 118 1 8 (by decide +kernel) (Nat.le_of_ble_eq_true rfl) rfl (by decide) (by omega) ?_
  refine s_fst hI  (by omega) (fun r1 hr1 => ?_)
  dsimp only [Option.toList, List.cons_append, List.nil_append]
  rcases hr1 with rfl
  · skip
    refine w_callV1 24 1 4 11 (by decide +kernel) ht.1.2.1.1 (Nat.le_of_ble_eq_true rfl) rfl (by decide) (by omega) ?_
    refine s_bearing hI (tl_h ht) (by omega) en hs.1 (by omega) (fun r2 hr2 => ?_)
    dsimp only [Option.toList, List.cons_append, List.nil_append]
    rcases hr2 with rfl
    · skip
      refine w_topi (fun v3 ev3 => ?_)
      refine w_store (ls' := [.ref t, .int a, .int v3, .null]) (.istore_n 2) 12 (by decide +kernel) rfl rfl ?_
      have eB := ev3
      refine w_pushN 0 13 (by decide +kernel) ?_
      refine w_store (ls' := [.ref t, .int a, .int v3, .int (nI 0)]) (.istore_n 3) 14 (by decide +kernel) rfl rfl ?_
      have LP_14 : ∀ (kk : Nat) (x2_14 : Int32) (g3 : Nat), g3 ≤ 5 → x2_14 = rmI (bears n s.1 (fstD a)) (M (t + 4)) g3 → 5 - g3 < kk → Wp d 70 14 [.ref t, .int a, .int x2_14, .int (nI g3)] [] M L Q := by
        intro kk
        induction kk with
        | zero => intro x2_14 g3 hi0_14 hi1_14 hm_14; exact absurd hm_14 (Nat.not_lt_zero _)
        | succ kk ih_14 =>
          intro x2_14 g3 hi0_14 hi1_14 hm_14
          refine w_load (.iload_n 3) 15 (by decide +kernel) rfl rfl ?_
          refine w_load (.aload_n 0) 16 (by decide +kernel) rfl rfl ?_
          refine w_getR (k := 1) (r := t + 4) 19 (by decide +kernel) ht.1.1 rfl ?_
          refine w_alen (nI 5) 20 (by decide +kernel) ht.1.2.2 (by decide) (by first | rfl | simp [nI]) ?_
          refine w_cgeN 46 23 (by decide +kernel) (by omega) (by omega) (fun h4 => ?_) (fun h4 => ?_)
          · skip
            refine w_load (.iload_n 2) 47 (by decide +kernel) rfl rfl ?_
            exact w_ret (by decide +kernel) (hq _ (by have h5 : g3 = 5 := (by omega); rw [h5] at hi1_14; exact (hi1_14.trans (rm_able (by omega) rfl)).trans (able_cg hs.2.1)))
          · skip
            refine w_load (.aload_n 0) 24 (by decide +kernel) rfl rfl ?_
            refine w_getR (k := 1) (r := t + 4) 27 (by decide +kernel) ht.1.1 rfl ?_
            refine w_load (.iload_n 3) 28 (by decide +kernel) rfl rfl ?_
            refine w_ialdN 29 (by decide +kernel) ht.1.2.2 (by omega) (by omega) ?_
            refine w_igt 40 32 (by decide +kernel) (fun h5 => ?_) (fun h5 => ?_)
            · skip
              refine w_iincN (z := 3) (g3 + 1) 43 (by decide +kernel) rfl (Nat.le_of_ble_eq_true rfl) rfl rfl ?_
              show Wp _ _ _ [.ref t, .int a, .int x2_14, .int (nI (g3 + 1))] _ _ _ _
              refine w_goto 14 (by decide +kernel) ?_
              exact ih_14 _ (g3 + 1) (by first | omega | exact rm_t (by assumption) (by assumption) | (rw [eR]; exact rm_f (by assumption) (by assumption))) (by first | omega | exact rm_t (by assumption) (by assumption) | (rw [eR]; exact rm_f (by assumption) (by assumption))) (by omega)
            · skip
              refine w_load (.iload_n 2) 33 (by decide +kernel) rfl rfl ?_
              refine w_pushN 1 34 (by decide +kernel) ?_
              refine w_load (.iload_n 3) 35 (by decide +kernel) rfl rfl ?_
              refine w_pure .ishl 36 (by decide +kernel) rfl rfl ?_
              refine w_push (-1) 37 (by decide +kernel) ?_
              refine w_pure .ixor 38 (by decide +kernel) rfl rfl ?_
              refine w_pure .iand 39 (by decide +kernel) rfl rfl ?_
              refine w_topi (fun v6 ev6 => ?_)
              refine w_store (ls' := [.ref t, .int a, .int v6, .int (nI g3)]) (.istore_n 2) 40 (by decide +kernel) rfl rfl ?_
              have eR := ev6
              refine w_iincN (z := 3) (g3 + 1) 43 (by decide +kernel) rfl (Nat.le_of_ble_eq_true rfl) rfl rfl ?_
              show Wp _ _ _ [.ref t, .int a, .int v6, .int (nI (g3 + 1))] _ _ _ _
              refine w_goto 14 (by decide +kernel) ?_
              exact ih_14 _ (g3 + 1) (by first | omega | exact rm_t (by assumption) (by assumption) | (rw [eR]; exact rm_f (by assumption) (by assumption))) (by first | omega | exact rm_t (by assumption) (by assumption) | (rw [eR]; exact rm_f (by assumption) (by assumption))) (by omega)
      exact LP_14 _ _ 0 (by first | omega | exact eB) (by first | omega | exact eB) (Nat.lt_succ_self _)
-- X6_othersOf#s
set_option maxRecDepth 10000 in
theorem s_othersOf {d : Nat} {M : Mt} {L : Lt} {Q : Option Value → Mt → Lt → Prop} {t n k : Nat} {s : TSt} {a : Int32} (hI : Inv M) (ht : Tl t) (hn : n ≤ 5) (en : M (t + 1) 2 = nI n) (hs : shT n t M s) (hd : 1 ≤ d) (hq : ∀ (r : Int32), (r = othI n a s k) → Q (some (.int r)) M L) : Wp d 71 0 [.ref t, .int a, .int (nI k)] [] M L Q := by
  refine w_load (.aload_n 0) 1 (by decide +kernel) rfl rfl ?_
  refine w_getR (k := 0) (r := t + 1) 4 (by decide +kernel) ht.1.1 rfl ?_
  refine w_load (.iload_n 1) 5 (by decide +kernel) rfl rfl ?_
  refine w_callS1 119 1 8 (by decide +kernel) (Nat.le_of_ble_eq_true rfl) rfl (by decide) (by omega) ?_
  refine s_snd hI  (by omega) (fun r1 hr1 => ?_)
  dsimp only [Option.toList, List.cons_append, List.nil_append]
  rcases hr1 with rfl
  · skip
    refine w_callV1 24 1 4 11 (by decide +kernel) ht.1.2.1.1 (Nat.le_of_ble_eq_true rfl) rfl (by decide) (by omega) ?_
    refine s_bearing hI (tl_h ht) (by omega) en hs.1 (by omega) (fun r2 hr2 => ?_)
    dsimp only [Option.toList, List.cons_append, List.nil_append]
    rcases hr2 with rfl
    · skip
      refine w_pushN 1 12 (by decide +kernel) ?_
      refine w_load (.iload_n 2) 13 (by decide +kernel) rfl rfl ?_
      refine w_pure .ishl 14 (by decide +kernel) rfl rfl ?_
      refine w_push (-1) 15 (by decide +kernel) ?_
      refine w_pure .ixor 16 (by decide +kernel) rfl rfl ?_
      refine w_pure .iand 17 (by decide +kernel) rfl rfl ?_
      exact w_ret (by decide +kernel) (hq _ rfl)
-- X6_failWithoutDoer#s
set_option maxRecDepth 10000 in
theorem s_fail {d : Nat} {M : Mt} {L : Lt} {Q : Option Value → Mt → Lt → Prop} {t n : Nat} {s : TSt} {a : Int32} (hI : Inv M) (ht : Tl t) (hn : n ≤ 5) (en : M (t + 1) 2 = nI n) (hs : shT n t M s) (hd : 3 ≤ d) (hq : ∀ (N : Mt), St (fun i _ => i = t ∨ i = t + 2 ∨ i = t + 4) M N → (shT n t N (failS n a s)) → Q none N L) : Wp d 72 0 [.ref t, .int a, .null] [] M L Q := by
  refine (show ∀ N : Mt, N = M → St (fun i _ => i = t ∨ i = t + 2 ∨ i = t + 4) M N → Wp d 72 0 [.ref t, .int a, .null] [] N L Q from ?_) M rfl (St.rf hI)
  intro N hNM hS
  have kz0 : N (t + 1) 2 = nI n := by rw [hNM]; exact en
  have hs0 : shT n t N s := by rw [hNM]; exact hs
  refine w_load (.aload_n 0) 1 (by decide +kernel) rfl rfl ?_
  refine w_getR (k := 0) (r := t + 1) 4 (by decide +kernel) ht.1.1 rfl ?_
  refine w_load (.iload_n 1) 5 (by decide +kernel) rfl rfl ?_
  refine w_callS1 118 1 8 (by decide +kernel) (Nat.le_of_ble_eq_true rfl) rfl (by decide) (by omega) ?_
  refine s_fst hS.1  (by omega) (fun r1 hr1 => ?_)
  dsimp only [Option.toList, List.cons_append, List.nil_append]
  rcases hr1 with rfl
  · skip
    refine w_callV1 24 1 4 11 (by decide +kernel) ht.1.2.1.1 (Nat.le_of_ble_eq_true rfl) rfl (by decide) (by omega) ?_
    refine s_bearing hS.1 (tl_h ht) (by omega) kz0 hs0.1 (by omega) (fun r2 hr2 => ?_)
    dsimp only [Option.toList, List.cons_append, List.nil_append]
    rcases hr2 with rfl
    · skip
      refine w_topi (fun v3 ev3 => ?_)
      refine w_store (ls' := [.ref t, .int a, .int v3]) (.istore_n 2) 12 (by decide +kernel) rfl rfl ?_
      have eB := ev3
      have hb5 := is5_set (n := n) (P := fun g => decide (s.1 g = fstD a) && tb (s.1 15) g) hn
      have hv5 : is5 v3 := by rw [eB]; exact hb5
      refine w_load (.iload_n 2) 13 (by decide +kernel) rfl rfl ?_
      refine w_ieq 24 16 (by decide +kernel) (fun h4 => ?_) (fun h4 => ?_)
      · skip
        exact w_retV (by decide +kernel) (hq N hS (by unfold failS; rw [← eB, if_pos (by assumption)]; exact hs0))
      · skip
        refine w_load (.aload_n 0) 17 (by decide +kernel) rfl rfl ?_
        refine w_load (.iload_n 2) 18 (by decide +kernel) rfl rfl ?_
        refine w_callS1 116 2 21 (by decide +kernel) (Nat.le_of_ble_eq_true rfl) rfl (by decide) (by omega) ?_
        refine s_leastOf hS.1  (by omega) (fun r5 hr5 => ?_)
        dsimp only [Option.toList, List.cons_append, List.nil_append]
        rcases hr5 with ⟨kr5, hkr5, rfl, hLr5⟩ | ⟨rfl, hnor5⟩
        · skip
          refine w_callV1 74 6 2 24 (by decide +kernel) ht.1.1 (Nat.le_of_ble_eq_true rfl) rfl (by decide) (by omega) ?_
          refine s_fine hS.1 ht (by omega) kz0 hs0 (isL_lt hn (P := fun g => decide (s.1 g = fstD a) && tb (s.1 15) g) (by rw [eB] at hLr5; exact hLr5.1)).1 (by omega) (fun Nr6 hTr6 hr6 => ?_)
          have kn7 := (hTr6.2 (t + 1) 2 (by (try dsimp only); first | omega | (simp only [Hs, Tl, Sc, isHs, isScr, isTs] at *; omega))).trans kz0
          have hS := hS.tr hTr6 (by intro i k; first | exact rfl | exact fun h => h.elim | omega | (dsimp only; omega) | (simp only [Hs, Tl, Sc, isHs, isScr, isTs] at *; omega))
          dsimp only [Option.toList, List.nil_append]
          exact w_retV (by decide +kernel) (hq Nr6 hS (by unfold failS; rw [← eB, if_neg (by assumption), lsN_eq hLr5 hkr5]; exact hr6))
        · skip
          exact (no_ls (by first | assumption | (subst_vars; first | exact is5_dor (by omega) | exact is5_oth (by omega) | exact is5_set (by omega))) (by assumption) hnor5).elim
-- X6_attempt#s
set_option maxRecDepth 10000 in
theorem s_attempt {d : Nat} {M : Mt} {L : Lt} {Q : Option Value → Mt → Lt → Prop} {t n p k o : Nat} {s : TSt} {a : Int32} (hI : Inv M) (ht : Tl t) (hn : n ≤ 5) (en : M (t + 1) 2 = nI n) (hs : shT n t M s) (hk : k < n) (ho : o < n) (hw : wedOk n s.1) (hd : 3 ≤ d) (hq : ∀ (N : Mt), St (fun i _ => i = t ∨ i = t + 2 ∨ i = t + 4) M N → (shT n t N (actS a p s k o)) → Q none N L) : Wp d 73 0 [.ref t, .int a, .int (nI p), .int (nI k), .int (nI o), .null] [] M L Q := by
  refine (show ∀ N : Mt, N = M → St (fun i _ => i = t ∨ i = t + 2 ∨ i = t + 4) M N → Wp d 73 0 [.ref t, .int a, .int (nI p), .int (nI k), .int (nI o), .null] [] N L Q from ?_) M rfl (St.rf hI)
  intro N hNM hS
  have kz0 : N (t + 1) 2 = nI n := by rw [hNM]; exact en
  have hs0 : shT n t N s := by rw [hNM]; exact hs
  refine w_pushN 1 1 (by decide +kernel) ?_
  refine w_store (ls' := [.ref t, .int a, .int (nI p), .int (nI k), .int (nI o), .int (nI 1)]) (.istore 5) 3 (by decide +kernel) rfl rfl ?_
  refine w_load (.iload_n 1) 4 (by decide +kernel) rfl rfl ?_
  refine w_callS1 117 1 7 (by decide +kernel) (Nat.le_of_ble_eq_true rfl) rfl (by decide) (by omega) ?_
  refine s_kindOf hS.1  (by omega) (fun r1 hr1 => ?_)
  dsimp only [Option.toList, List.cons_append, List.nil_append]
  rcases hr1 with rfl
  · skip
    refine w_tab (show insAt 73 7 = some (.tableswitch 67 0 2 #[25, 37, 52]) by decide +kernel) (fun h2 => ⟨74, rfl, ?_⟩) (fun z3 h2 h2b => ?_)
    · skip
      refine w_load (.aload_n 0) 75 (by decide +kernel) rfl rfl ?_
      refine w_getR (k := 0) (r := t + 1) 78 (by decide +kernel) ht.1.1 rfl ?_
      refine w_load (.iload_n 3) 79 (by decide +kernel) rfl rfl ?_
      refine w_load (.iload_n 1) 80 (by decide +kernel) rfl rfl ?_
      refine w_callS1 119 1 83 (by decide +kernel) (Nat.le_of_ble_eq_true rfl) rfl (by decide) (by omega) ?_
      refine s_snd hS.1  (by omega) (fun r4 hr4 => ?_)
      dsimp only [Option.toList, List.cons_append, List.nil_append]
      rcases hr4 with rfl
      · skip
        refine w_callV2 26 1 3 86 (by decide +kernel) ht.1.2.1.1 (Nat.le_of_ble_eq_true rfl) rfl rfl (by decide) (by omega) ?_
        refine s_rename hS.1 (tl_h ht) (by omega) kz0 hs0.1 (by omega) (by omega) (fun Nr5 hTr5 hr5 => ?_)
        have kn6 := (hTr5.2 (t + 1) 2 (by (try dsimp only); first | omega | (simp only [Hs, Tl, Sc, isHs, isScr, isTs] at *; omega))).trans kz0
        have hS := hS.tr hTr5 (by intro i k; first | exact rfl | exact fun h => h.elim | omega | (dsimp only; omega) | (simp only [Hs, Tl, Sc, isHs, isScr, isTs] at *; omega))
        dsimp only [Option.toList, List.nil_append]
        refine w_load (.iload 5) 88 (by decide +kernel) rfl rfl ?_
        refine w_ieq 127 91 (by decide +kernel) (fun hz => absurd hz (by decide)) (fun _ => ?_)
        refine w_load (.aload_n 0) 92 (by decide +kernel) rfl rfl ?_
        refine w_getR (k := 0) (r := t + 1) 95 (by decide +kernel) ht.1.1 rfl ?_
        refine w_load (.iload_n 3) 96 (by decide +kernel) rfl rfl ?_
        refine w_callV1 11 1 2 99 (by decide +kernel) ht.1.2.1.1 (Nat.le_of_ble_eq_true rfl) rfl (by decide) (by omega) ?_
        refine s_has hS.1 (tl_h ht) (by omega) kn6 (by omega) (by omega) (fun r8 hr8 => ?_)
        dsimp only [Option.toList, List.cons_append, List.nil_append]
        rcases hr8 with rfl
        · skip
          refine w_ieq 127 102 (by decide +kernel) (fun hz => absurd hz (by decide)) (fun _ => ?_)
          refine w_load (.aload_n 0) 103 (by decide +kernel) rfl rfl ?_
          refine w_getR (k := 1) (r := t + 4) 106 (by decide +kernel) ht.1.1 rfl ?_
          refine w_load (.iload_n 3) 107 (by decide +kernel) rfl rfl ?_
          refine w_pure .dup2 108 (by decide +kernel) rfl rfl ?_
          refine w_ialdN 109 (by decide +kernel) ht.1.2.2 (by omega) (by omega) ?_
          refine w_pushN 1 110 (by decide +kernel) ?_
          refine w_pure .isub 111 (by decide +kernel) rfl rfl ?_
          refine w_iastE 112 (by decide +kernel) ht.1.2.2 (by omega) (by omega) hS (Rg.free (by simp only [Hs, Tl, Sc, isScr, isHs, isTs] at *; omega)) (by first | exact rfl | omega | (dsimp only; omega) | (simp only [Hs, Tl, Sc, isHs, isScr, isTs] at *; omega)) (fun Nq10 hS hq10 oq10 mq10 => ?_)
          have kn11 := (oq10 (t + 1) 2 (by first | omega | (simp only [Hs, Tl, Sc, isHs, isScr, isTs] at *; omega))).trans kn6
          refine w_load (.aload_n 0) 113 (by decide +kernel) rfl rfl ?_
          refine w_pure .dup 114 (by decide +kernel) rfl rfl ?_
          refine w_getI (k := 2) 117 (by decide +kernel) ht.1.1 rfl ?_
          refine w_pushN 1 118 (by decide +kernel) ?_
          refine w_load (.iload_n 2) 119 (by decide +kernel) rfl rfl ?_
          refine w_pure .ishl 120 (by decide +kernel) rfl rfl ?_
          refine w_pure .ior 121 (by decide +kernel) rfl rfl ?_
          refine w_putE (k := 2) 124 (by decide +kernel) ht.1.1 rfl hS (Rg.free (by simp only [Hs, Tl, Sc, isScr, isHs, isTs] at *; omega)) (by first | exact rfl | omega | (dsimp only; omega) | (simp only [Hs, Tl, Sc, isHs, isScr, isTs] at *; omega)) (fun Nq12 hS hq12 oq12 mq12 => ?_)
          refine w_goto 132 (by decide +kernel) ?_
          exact w_retV (by decide +kernel) (hq Nq12 hS (by rw [actS_3 (by omega)]; exact ⟨by rw [mq12, row_ne (by first | omega | (simp only [Hs, Tl, Sc, isHs, isScr, isTs] at *; omega)), mq10, row_ne (by first | omega | (simp only [Hs, Tl, Sc, isHs, isScr, isTs] at *; omega))]; exact hr5, by rw [mq12, row_ne (by omega), mq10, row_eq, hTr5.row (fun k => by (try dsimp only); omega), hNM]; exact hs.2.1.up _ (by rw [hs.2.1 k hk]), by show _ = s.2.2.1; rw [mq12, up2_ne (by first | omega | (simp only [Hs, Tl, Sc, isHs, isScr, isTs] at *; omega)), mq10, up2_ne (by first | omega | (simp only [Hs, Tl, Sc, isHs, isScr, isTs] at *; omega)), hTr5.2 t 3 (by (try dsimp only); first | omega | (simp only [Hs, Tl, Sc, isHs, isScr, isTs] at *; omega)), hNM]; exact hs.2.2.1, by show _ = s.2.2.2 ||| bitI p; rw [mq12, up2_eq, mq10, up2_ne (by omega), hTr5.2 t 2 (by (try dsimp only); omega), hNM, hs.2.2.2]; rfl⟩))
    · rcases (by omega : z3 = 0 ∨ z3 = 1 ∨ z3 = 2) with rfl | rfl | rfl
      · refine ⟨_, 32, rfl, rfl, ?_⟩
        refine w_load (.aload_n 0) 33 (by decide +kernel) rfl rfl ?_
        refine w_getR (k := 0) (r := t + 1) 36 (by decide +kernel) ht.1.1 rfl ?_
        refine w_load (.iload 4) 38 (by decide +kernel) rfl rfl ?_
        refine w_callV1 30 1 3 41 (by decide +kernel) ht.1.2.1.1 (Nat.le_of_ble_eq_true rfl) rfl (by decide) (by omega) ?_
        refine s_bury hS.1 (tl_h ht) (by omega) kz0 hs0.1 (by omega) hw (by omega) (fun Nr13 hTr13 hr13 => ?_)
        have kn14 := (hTr13.2 (t + 1) 2 (by (try dsimp only); first | omega | (simp only [Hs, Tl, Sc, isHs, isScr, isTs] at *; omega))).trans kz0
        have hS := hS.tr hTr13 (by intro i k; first | exact rfl | exact fun h => h.elim | omega | (dsimp only; omega) | (simp only [Hs, Tl, Sc, isHs, isScr, isTs] at *; omega))
        dsimp only [Option.toList, List.nil_append]
        refine w_goto 86 (by decide +kernel) ?_
        refine w_load (.iload 5) 88 (by decide +kernel) rfl rfl ?_
        refine w_ieq 127 91 (by decide +kernel) (fun hz => absurd hz (by decide)) (fun _ => ?_)
        refine w_load (.aload_n 0) 92 (by decide +kernel) rfl rfl ?_
        refine w_getR (k := 0) (r := t + 1) 95 (by decide +kernel) ht.1.1 rfl ?_
        refine w_load (.iload_n 3) 96 (by decide +kernel) rfl rfl ?_
        refine w_callV1 11 1 2 99 (by decide +kernel) ht.1.2.1.1 (Nat.le_of_ble_eq_true rfl) rfl (by decide) (by omega) ?_
        refine s_has hS.1 (tl_h ht) (by omega) kn14 (by omega) (by omega) (fun r16 hr16 => ?_)
        dsimp only [Option.toList, List.cons_append, List.nil_append]
        rcases hr16 with rfl
        · skip
          refine w_ieq 127 102 (by decide +kernel) (fun hz => absurd hz (by decide)) (fun _ => ?_)
          refine w_load (.aload_n 0) 103 (by decide +kernel) rfl rfl ?_
          refine w_getR (k := 1) (r := t + 4) 106 (by decide +kernel) ht.1.1 rfl ?_
          refine w_load (.iload_n 3) 107 (by decide +kernel) rfl rfl ?_
          refine w_pure .dup2 108 (by decide +kernel) rfl rfl ?_
          refine w_ialdN 109 (by decide +kernel) ht.1.2.2 (by omega) (by omega) ?_
          refine w_pushN 1 110 (by decide +kernel) ?_
          refine w_pure .isub 111 (by decide +kernel) rfl rfl ?_
          refine w_iastE 112 (by decide +kernel) ht.1.2.2 (by omega) (by omega) hS (Rg.free (by simp only [Hs, Tl, Sc, isScr, isHs, isTs] at *; omega)) (by first | exact rfl | omega | (dsimp only; omega) | (simp only [Hs, Tl, Sc, isHs, isScr, isTs] at *; omega)) (fun Nq18 hS hq18 oq18 mq18 => ?_)
          have kn19 := (oq18 (t + 1) 2 (by first | omega | (simp only [Hs, Tl, Sc, isHs, isScr, isTs] at *; omega))).trans kn14
          refine w_load (.aload_n 0) 113 (by decide +kernel) rfl rfl ?_
          refine w_pure .dup 114 (by decide +kernel) rfl rfl ?_
          refine w_getI (k := 2) 117 (by decide +kernel) ht.1.1 rfl ?_
          refine w_pushN 1 118 (by decide +kernel) ?_
          refine w_load (.iload_n 2) 119 (by decide +kernel) rfl rfl ?_
          refine w_pure .ishl 120 (by decide +kernel) rfl rfl ?_
          refine w_pure .ior 121 (by decide +kernel) rfl rfl ?_
          refine w_putE (k := 2) 124 (by decide +kernel) ht.1.1 rfl hS (Rg.free (by simp only [Hs, Tl, Sc, isScr, isHs, isTs] at *; omega)) (by first | exact rfl | omega | (dsimp only; omega) | (simp only [Hs, Tl, Sc, isHs, isScr, isTs] at *; omega)) (fun Nq20 hS hq20 oq20 mq20 => ?_)
          refine w_goto 132 (by decide +kernel) ?_
          exact w_retV (by decide +kernel) (hq Nq20 hS (by rw [actS_0 (by omega)]; exact ⟨by rw [mq20, row_ne (by first | omega | (simp only [Hs, Tl, Sc, isHs, isScr, isTs] at *; omega)), mq18, row_ne (by first | omega | (simp only [Hs, Tl, Sc, isHs, isScr, isTs] at *; omega))]; exact hr13, by rw [mq20, row_ne (by omega), mq18, row_eq, hTr13.row (fun k => by (try dsimp only); omega), hNM]; exact hs.2.1.up _ (by rw [hs.2.1 k hk]), by show _ = s.2.2.1; rw [mq20, up2_ne (by first | omega | (simp only [Hs, Tl, Sc, isHs, isScr, isTs] at *; omega)), mq18, up2_ne (by first | omega | (simp only [Hs, Tl, Sc, isHs, isScr, isTs] at *; omega)), hTr13.2 t 3 (by (try dsimp only); first | omega | (simp only [Hs, Tl, Sc, isHs, isScr, isTs] at *; omega)), hNM]; exact hs.2.2.1, by show _ = s.2.2.2 ||| bitI p; rw [mq20, up2_eq, mq18, up2_ne (by omega), hTr13.2 t 2 (by (try dsimp only); omega), hNM, hs.2.2.2]; rfl⟩))
      · refine ⟨_, 44, rfl, rfl, ?_⟩
        refine w_load (.aload_n 0) 45 (by decide +kernel) rfl rfl ?_
        refine w_getR (k := 0) (r := t + 1) 48 (by decide +kernel) ht.1.1 rfl ?_
        refine w_load (.iload_n 3) 49 (by decide +kernel) rfl rfl ?_
        refine w_load (.iload 4) 51 (by decide +kernel) rfl rfl ?_
        refine w_callV2 29 1 3 54 (by decide +kernel) ht.1.2.1.1 (Nat.le_of_ble_eq_true rfl) rfl rfl (by decide) (by omega) ?_
        refine s_join hS.1 (tl_h ht) (by omega) kz0 hs0.1 (by omega) (by omega) (by omega) (fun r21 Nr21 hTr21 hr21 => ?_)
        have kn22 := (hTr21.2 (t + 1) 2 (by (try dsimp only); first | omega | (simp only [Hs, Tl, Sc, isHs, isScr, isTs] at *; omega))).trans kz0
        have hS := hS.tr hTr21 (by intro i k; first | exact rfl | exact fun h => h.elim | omega | (dsimp only; omega) | (simp only [Hs, Tl, Sc, isHs, isScr, isTs] at *; omega))
        dsimp only [Option.toList, List.cons_append, List.nil_append]
        rcases hr21 with ⟨rfl, hyr21, hzr21⟩ | ⟨rfl, hyr21, hzr21⟩
        · skip
          refine w_store (ls' := [.ref t, .int a, .int (nI p), .int (nI k), .int (nI o), .int (1)]) (.istore 5) 56 (by decide +kernel) rfl rfl ?_
          refine w_goto 86 (by decide +kernel) ?_
          refine w_load (.iload 5) 88 (by decide +kernel) rfl rfl ?_
          refine w_ieq 127 91 (by decide +kernel) (fun hz => absurd hz (by decide)) (fun _ => ?_)
          refine w_load (.aload_n 0) 92 (by decide +kernel) rfl rfl ?_
          refine w_getR (k := 0) (r := t + 1) 95 (by decide +kernel) ht.1.1 rfl ?_
          refine w_load (.iload_n 3) 96 (by decide +kernel) rfl rfl ?_
          refine w_callV1 11 1 2 99 (by decide +kernel) ht.1.2.1.1 (Nat.le_of_ble_eq_true rfl) rfl (by decide) (by omega) ?_
          refine s_has hS.1 (tl_h ht) (by omega) kn22 (by omega) (by omega) (fun r24 hr24 => ?_)
          dsimp only [Option.toList, List.cons_append, List.nil_append]
          rcases hr24 with rfl
          · skip
            refine w_ieq 127 102 (by decide +kernel) (fun hz => absurd hz (by decide)) (fun _ => ?_)
            refine w_load (.aload_n 0) 103 (by decide +kernel) rfl rfl ?_
            refine w_getR (k := 1) (r := t + 4) 106 (by decide +kernel) ht.1.1 rfl ?_
            refine w_load (.iload_n 3) 107 (by decide +kernel) rfl rfl ?_
            refine w_pure .dup2 108 (by decide +kernel) rfl rfl ?_
            refine w_ialdN 109 (by decide +kernel) ht.1.2.2 (by omega) (by omega) ?_
            refine w_pushN 1 110 (by decide +kernel) ?_
            refine w_pure .isub 111 (by decide +kernel) rfl rfl ?_
            refine w_iastE 112 (by decide +kernel) ht.1.2.2 (by omega) (by omega) hS (Rg.free (by simp only [Hs, Tl, Sc, isScr, isHs, isTs] at *; omega)) (by first | exact rfl | omega | (dsimp only; omega) | (simp only [Hs, Tl, Sc, isHs, isScr, isTs] at *; omega)) (fun Nq26 hS hq26 oq26 mq26 => ?_)
            have kn27 := (oq26 (t + 1) 2 (by first | omega | (simp only [Hs, Tl, Sc, isHs, isScr, isTs] at *; omega))).trans kn22
            refine w_load (.aload_n 0) 113 (by decide +kernel) rfl rfl ?_
            refine w_pure .dup 114 (by decide +kernel) rfl rfl ?_
            refine w_getI (k := 2) 117 (by decide +kernel) ht.1.1 rfl ?_
            refine w_pushN 1 118 (by decide +kernel) ?_
            refine w_load (.iload_n 2) 119 (by decide +kernel) rfl rfl ?_
            refine w_pure .ishl 120 (by decide +kernel) rfl rfl ?_
            refine w_pure .ior 121 (by decide +kernel) rfl rfl ?_
            refine w_putE (k := 2) 124 (by decide +kernel) ht.1.1 rfl hS (Rg.free (by simp only [Hs, Tl, Sc, isScr, isHs, isTs] at *; omega)) (by first | exact rfl | omega | (dsimp only; omega) | (simp only [Hs, Tl, Sc, isHs, isScr, isTs] at *; omega)) (fun Nq28 hS hq28 oq28 mq28 => ?_)
            refine w_goto 132 (by decide +kernel) ?_
            exact w_retV (by decide +kernel) (hq Nq28 hS (by rw [actS_1 (by omega), if_pos hyr21]; exact ⟨by rw [mq28, row_ne (by first | omega | (simp only [Hs, Tl, Sc, isHs, isScr, isTs] at *; omega)), mq26, row_ne (by first | omega | (simp only [Hs, Tl, Sc, isHs, isScr, isTs] at *; omega))]; exact hzr21, by rw [mq28, row_ne (by omega), mq26, row_eq, hTr21.row (fun k => by (try dsimp only); omega), hNM]; exact hs.2.1.up _ (by rw [hs.2.1 k hk]), by show _ = s.2.2.1; rw [mq28, up2_ne (by first | omega | (simp only [Hs, Tl, Sc, isHs, isScr, isTs] at *; omega)), mq26, up2_ne (by first | omega | (simp only [Hs, Tl, Sc, isHs, isScr, isTs] at *; omega)), hTr21.2 t 3 (by (try dsimp only); first | omega | (simp only [Hs, Tl, Sc, isHs, isScr, isTs] at *; omega)), hNM]; exact hs.2.2.1, by show _ = s.2.2.2 ||| bitI p; rw [mq28, up2_eq, mq26, up2_ne (by omega), hTr21.2 t 2 (by (try dsimp only); omega), hNM, hs.2.2.2]; rfl⟩))
        · skip
          have hsf : shT n t Nr21 s := ⟨hzr21, by rw [hTr21.row (fun k => (by (try dsimp only); omega)), hNM]; exact hs.2.1, (hTr21.2 t 3 (by (try dsimp only); omega)).trans (by rw [hNM]; exact hs.2.2.1), (hTr21.2 t 2 (by (try dsimp only); omega)).trans (by rw [hNM]; exact hs.2.2.2)⟩
          refine w_store (ls' := [.ref t, .int a, .int (nI p), .int (nI k), .int (nI o), .int (0)]) (.istore 5) 56 (by decide +kernel) rfl rfl ?_
          refine w_goto 86 (by decide +kernel) ?_
          refine w_load (.iload 5) 88 (by decide +kernel) rfl rfl ?_
          refine w_ieq 127 91 (by decide +kernel) (fun _ => ?_) (fun hz => absurd hz (by decide))
          refine w_load (.aload_n 0) 128 (by decide +kernel) rfl rfl ?_
          refine w_load (.iload_n 3) 129 (by decide +kernel) rfl rfl ?_
          refine w_callV1 74 6 2 132 (by decide +kernel) ht.1.1 (Nat.le_of_ble_eq_true rfl) rfl (by decide) (by omega) ?_
          refine s_fine hS.1 ht (by omega) kn22 hsf (by omega) (by omega) (fun Nr30 hTr30 hr30 => ?_)
          have kn31 := (hTr30.2 (t + 1) 2 (by (try dsimp only); first | omega | (simp only [Hs, Tl, Sc, isHs, isScr, isTs] at *; omega))).trans kn22
          have hS := hS.tr hTr30 (by intro i k; first | exact rfl | exact fun h => h.elim | omega | (dsimp only; omega) | (simp only [Hs, Tl, Sc, isHs, isScr, isTs] at *; omega))
          dsimp only [Option.toList, List.nil_append]
          exact w_retV (by decide +kernel) (hq Nr30 hS (by rw [actS_1 (by omega), if_neg hyr21]; exact hr30))
      · refine ⟨_, 59, rfl, rfl, ?_⟩
        refine w_load (.aload_n 0) 60 (by decide +kernel) rfl rfl ?_
        refine w_getR (k := 0) (r := t + 1) 63 (by decide +kernel) ht.1.1 rfl ?_
        refine w_load (.iload_n 3) 64 (by decide +kernel) rfl rfl ?_
        refine w_load (.iload 4) 66 (by decide +kernel) rfl rfl ?_
        refine w_callV2 28 1 3 69 (by decide +kernel) ht.1.2.1.1 (Nat.le_of_ble_eq_true rfl) rfl rfl (by decide) (by omega) ?_
        refine s_handCoin hS.1 (tl_h ht) (by omega) kz0 hs0.1 (by omega) (by omega) (by omega) (fun r32 Nr32 hTr32 hr32 => ?_)
        have kn33 := (hTr32.2 (t + 1) 2 (by (try dsimp only); first | omega | (simp only [Hs, Tl, Sc, isHs, isScr, isTs] at *; omega))).trans kz0
        have hS := hS.tr hTr32 (by intro i k; first | exact rfl | exact fun h => h.elim | omega | (dsimp only; omega) | (simp only [Hs, Tl, Sc, isHs, isScr, isTs] at *; omega))
        dsimp only [Option.toList, List.cons_append, List.nil_append]
        rcases hr32 with ⟨rfl, hyr32, hzr32⟩ | ⟨rfl, hyr32, hzr32⟩
        · skip
          refine w_store (ls' := [.ref t, .int a, .int (nI p), .int (nI k), .int (nI o), .int (1)]) (.istore 5) 71 (by decide +kernel) rfl rfl ?_
          refine w_goto 86 (by decide +kernel) ?_
          refine w_load (.iload 5) 88 (by decide +kernel) rfl rfl ?_
          refine w_ieq 127 91 (by decide +kernel) (fun hz => absurd hz (by decide)) (fun _ => ?_)
          refine w_load (.aload_n 0) 92 (by decide +kernel) rfl rfl ?_
          refine w_getR (k := 0) (r := t + 1) 95 (by decide +kernel) ht.1.1 rfl ?_
          refine w_load (.iload_n 3) 96 (by decide +kernel) rfl rfl ?_
          refine w_callV1 11 1 2 99 (by decide +kernel) ht.1.2.1.1 (Nat.le_of_ble_eq_true rfl) rfl (by decide) (by omega) ?_
          refine s_has hS.1 (tl_h ht) (by omega) kn33 (by omega) (by omega) (fun r35 hr35 => ?_)
          dsimp only [Option.toList, List.cons_append, List.nil_append]
          rcases hr35 with rfl
          · skip
            refine w_ieq 127 102 (by decide +kernel) (fun hz => absurd hz (by decide)) (fun _ => ?_)
            refine w_load (.aload_n 0) 103 (by decide +kernel) rfl rfl ?_
            refine w_getR (k := 1) (r := t + 4) 106 (by decide +kernel) ht.1.1 rfl ?_
            refine w_load (.iload_n 3) 107 (by decide +kernel) rfl rfl ?_
            refine w_pure .dup2 108 (by decide +kernel) rfl rfl ?_
            refine w_ialdN 109 (by decide +kernel) ht.1.2.2 (by omega) (by omega) ?_
            refine w_pushN 1 110 (by decide +kernel) ?_
            refine w_pure .isub 111 (by decide +kernel) rfl rfl ?_
            refine w_iastE 112 (by decide +kernel) ht.1.2.2 (by omega) (by omega) hS (Rg.free (by simp only [Hs, Tl, Sc, isScr, isHs, isTs] at *; omega)) (by first | exact rfl | omega | (dsimp only; omega) | (simp only [Hs, Tl, Sc, isHs, isScr, isTs] at *; omega)) (fun Nq37 hS hq37 oq37 mq37 => ?_)
            have kn38 := (oq37 (t + 1) 2 (by first | omega | (simp only [Hs, Tl, Sc, isHs, isScr, isTs] at *; omega))).trans kn33
            refine w_load (.aload_n 0) 113 (by decide +kernel) rfl rfl ?_
            refine w_pure .dup 114 (by decide +kernel) rfl rfl ?_
            refine w_getI (k := 2) 117 (by decide +kernel) ht.1.1 rfl ?_
            refine w_pushN 1 118 (by decide +kernel) ?_
            refine w_load (.iload_n 2) 119 (by decide +kernel) rfl rfl ?_
            refine w_pure .ishl 120 (by decide +kernel) rfl rfl ?_
            refine w_pure .ior 121 (by decide +kernel) rfl rfl ?_
            refine w_putE (k := 2) 124 (by decide +kernel) ht.1.1 rfl hS (Rg.free (by simp only [Hs, Tl, Sc, isScr, isHs, isTs] at *; omega)) (by first | exact rfl | omega | (dsimp only; omega) | (simp only [Hs, Tl, Sc, isHs, isScr, isTs] at *; omega)) (fun Nq39 hS hq39 oq39 mq39 => ?_)
            refine w_goto 132 (by decide +kernel) ?_
            exact w_retV (by decide +kernel) (hq Nq39 hS (by rw [actS_2 (by omega), if_pos hyr32]; exact ⟨by rw [mq39, row_ne (by first | omega | (simp only [Hs, Tl, Sc, isHs, isScr, isTs] at *; omega)), mq37, row_ne (by first | omega | (simp only [Hs, Tl, Sc, isHs, isScr, isTs] at *; omega))]; exact hzr32, by rw [mq39, row_ne (by omega), mq37, row_eq, hTr32.row (fun k => by (try dsimp only); omega), hNM]; exact hs.2.1.up _ (by rw [hs.2.1 k hk]), by show _ = s.2.2.1; rw [mq39, up2_ne (by first | omega | (simp only [Hs, Tl, Sc, isHs, isScr, isTs] at *; omega)), mq37, up2_ne (by first | omega | (simp only [Hs, Tl, Sc, isHs, isScr, isTs] at *; omega)), hTr32.2 t 3 (by (try dsimp only); first | omega | (simp only [Hs, Tl, Sc, isHs, isScr, isTs] at *; omega)), hNM]; exact hs.2.2.1, by show _ = s.2.2.2 ||| bitI p; rw [mq39, up2_eq, mq37, up2_ne (by omega), hTr32.2 t 2 (by (try dsimp only); omega), hNM, hs.2.2.2]; rfl⟩))
        · skip
          have hsf : shT n t Nr32 s := ⟨hzr32, by rw [hTr32.row (fun k => (by (try dsimp only); omega)), hNM]; exact hs.2.1, (hTr32.2 t 3 (by (try dsimp only); omega)).trans (by rw [hNM]; exact hs.2.2.1), (hTr32.2 t 2 (by (try dsimp only); omega)).trans (by rw [hNM]; exact hs.2.2.2)⟩
          refine w_store (ls' := [.ref t, .int a, .int (nI p), .int (nI k), .int (nI o), .int (0)]) (.istore 5) 71 (by decide +kernel) rfl rfl ?_
          refine w_goto 86 (by decide +kernel) ?_
          refine w_load (.iload 5) 88 (by decide +kernel) rfl rfl ?_
          refine w_ieq 127 91 (by decide +kernel) (fun _ => ?_) (fun hz => absurd hz (by decide))
          refine w_load (.aload_n 0) 128 (by decide +kernel) rfl rfl ?_
          refine w_load (.iload_n 3) 129 (by decide +kernel) rfl rfl ?_
          refine w_callV1 74 6 2 132 (by decide +kernel) ht.1.1 (Nat.le_of_ble_eq_true rfl) rfl (by decide) (by omega) ?_
          refine s_fine hS.1 ht (by omega) kn33 hsf (by omega) (by omega) (fun Nr41 hTr41 hr41 => ?_)
          have kn42 := (hTr41.2 (t + 1) 2 (by (try dsimp only); first | omega | (simp only [Hs, Tl, Sc, isHs, isScr, isTs] at *; omega))).trans kn33
          have hS := hS.tr hTr41 (by intro i k; first | exact rfl | exact fun h => h.elim | omega | (dsimp only; omega) | (simp only [Hs, Tl, Sc, isHs, isScr, isTs] at *; omega))
          dsimp only [Option.toList, List.nil_append]
          exact w_retV (by decide +kernel) (hq Nr41 hS (by rw [actS_2 (by omega), if_neg hyr32]; exact hr41))
-- X6_hear#s
set_option maxRecDepth 10000 in
theorem s_hear {d : Nat} {M : Mt} {L : Lt} {Q : Option Value → Mt → Lt → Prop} {t n p : Nat} {s : TSt} {a : Int32} (hI : Inv M) (ht : Tl t) (hn : n ≤ 5) (en : M (t + 1) 2 = nI n) (hs : shT n t M s) (hw : wedOk n s.1) (hd : 4 ≤ d) (hq : ∀ (N : Mt), St (fun i _ => i = t ∨ i = t + 2 ∨ i = t + 4) M N → (shT n t N (hearF n a p s)) → Q none N L) : Wp d 69 0 [.ref t, .int a, .int (nI p), .null, .null, .null] [] M L Q := by
  refine (show ∀ N : Mt, N = M → St (fun i _ => i = t ∨ i = t + 2 ∨ i = t + 4) M N → Wp d 69 0 [.ref t, .int a, .int (nI p), .null, .null, .null] [] N L Q from ?_) M rfl (St.rf hI)
  intro N hNM hS
  have kz0 : N (t + 1) 2 = nI n := by rw [hNM]; exact en
  have hs0 : shT n t N s := by rw [hNM]; exact hs
  refine w_load (.aload_n 0) 1 (by decide +kernel) rfl rfl ?_
  refine w_load (.iload_n 1) 2 (by decide +kernel) rfl rfl ?_
  refine w_callV1 70 6 4 5 (by decide +kernel) ht.1.1 (Nat.le_of_ble_eq_true rfl) rfl (by decide) (by omega) ?_
  refine s_doersOf hS.1 ht (by omega) kz0 hs0 (by omega) (fun r1 hr1 => ?_)
  dsimp only [Option.toList, List.cons_append, List.nil_append]
  rcases hr1 with rfl
  · skip
    refine w_topi (fun v2 ev2 => ?_)
    refine w_store (ls' := [.ref t, .int a, .int (nI p), .int v2, .null, .null]) (.istore_n 3) 6 (by decide +kernel) rfl rfl ?_
    have eD := ev2
    have hv5 : is5 v2 := by rw [eD]; exact is5_dor hn
    refine w_load (.iload_n 3) 7 (by decide +kernel) rfl rfl ?_
    refine w_ine 16 10 (by decide +kernel) (fun h3 => ?_) (fun h3 => ?_)
    · skip
      refine w_load (.iload_n 3) 17 (by decide +kernel) rfl rfl ?_
      refine w_callS1 116 2 20 (by decide +kernel) (Nat.le_of_ble_eq_true rfl) rfl (by decide) (by omega) ?_
      refine s_leastOf hS.1  (by omega) (fun r4 hr4 => ?_)
      dsimp only [Option.toList, List.cons_append, List.nil_append]
      rcases hr4 with ⟨kd, hkd, rfl, hLd⟩ | ⟨rfl, hnor4⟩
      · skip
        have hdn : kd < n := dor_lt hn (by rw [← eD]; exact hLd.1)
        refine w_store (ls' := [.ref t, .int a, .int (nI p), .int v2, .int (nI kd), .null]) (.istore 4) 22 (by decide +kernel) rfl rfl ?_
        refine w_load (.aload_n 0) 23 (by decide +kernel) rfl rfl ?_
        refine w_load (.iload_n 1) 24 (by decide +kernel) rfl rfl ?_
        refine w_load (.iload 4) 26 (by decide +kernel) rfl rfl ?_
        refine w_callV2 71 6 3 29 (by decide +kernel) ht.1.1 (Nat.le_of_ble_eq_true rfl) rfl rfl (by decide) (by omega) ?_
        refine s_othersOf hS.1 ht (by omega) kz0 hs0 (by omega) (fun r5 hr5 => ?_)
        dsimp only [Option.toList, List.cons_append, List.nil_append]
        rcases hr5 with rfl
        · skip
          refine w_topi (fun v6 ev6 => ?_)
          refine w_store (ls' := [.ref t, .int a, .int (nI p), .int v2, .int (nI kd), .int v6]) (.istore 5) 31 (by decide +kernel) rfl rfl ?_
          have eO := ev6
          have hv6 : is5 v6 := by rw [eO]; exact is5_oth hn
          refine w_load (.iload 5) 33 (by decide +kernel) rfl rfl ?_
          refine w_ine 45 36 (by decide +kernel) (fun h7 => ?_) (fun h7 => ?_)
          · skip
            refine w_load (.aload_n 0) 46 (by decide +kernel) rfl rfl ?_
            refine w_load (.iload_n 1) 47 (by decide +kernel) rfl rfl ?_
            refine w_load (.iload_n 2) 48 (by decide +kernel) rfl rfl ?_
            refine w_load (.iload 4) 50 (by decide +kernel) rfl rfl ?_
            refine w_load (.iload 5) 52 (by decide +kernel) rfl rfl ?_
            refine w_callS1 116 2 55 (by decide +kernel) (Nat.le_of_ble_eq_true rfl) rfl (by decide) (by omega) ?_
            refine s_leastOf hS.1  (by omega) (fun r8 hr8 => ?_)
            dsimp only [Option.toList, List.cons_append, List.nil_append]
            rcases hr8 with ⟨ko, hko, rfl, hLo⟩ | ⟨rfl, hnor8⟩
            · skip
              have hon : ko < n := oth_lt hn (by rw [← eO]; exact hLo.1)
              refine w_callV4 73 6 6 58 (by decide +kernel) ht.1.1 (Nat.le_of_ble_eq_true rfl) rfl rfl rfl rfl (by decide) (by omega) ?_
              refine s_attempt hS.1 ht (by omega) kz0 hs0 hdn hon hw (by omega) (fun Nr9 hTr9 hr9 => ?_)
              have kn10 := (hTr9.2 (t + 1) 2 (by (try dsimp only); first | omega | (simp only [Hs, Tl, Sc, isHs, isScr, isTs] at *; omega))).trans kz0
              have hS := hS.tr hTr9 (by intro i k; first | exact rfl | exact fun h => h.elim | omega | (dsimp only; omega) | (simp only [Hs, Tl, Sc, isHs, isScr, isTs] at *; omega))
              dsimp only [Option.toList, List.nil_append]
              exact w_retV (by decide +kernel) (hq Nr9 hS (by unfold hearF; rw [← eD, if_neg (by assumption), lsN_eq hLd hkd, ← eO, if_neg (by assumption), lsN_eq hLo hko]; exact hr9))
            · skip
              exact (no_ls (by assumption) (by assumption) hnor8).elim
          · skip
            refine w_load (.aload_n 0) 37 (by decide +kernel) rfl rfl ?_
            refine w_load (.iload 4) 39 (by decide +kernel) rfl rfl ?_
            refine w_callV1 74 6 2 42 (by decide +kernel) ht.1.1 (Nat.le_of_ble_eq_true rfl) rfl (by decide) (by omega) ?_
            refine s_fine hS.1 ht (by omega) kz0 hs0 hdn (by omega) (fun Nr11 hTr11 hr11 => ?_)
            have kn12 := (hTr11.2 (t + 1) 2 (by (try dsimp only); first | omega | (simp only [Hs, Tl, Sc, isHs, isScr, isTs] at *; omega))).trans kz0
            have hS := hS.tr hTr11 (by intro i k; first | exact rfl | exact fun h => h.elim | omega | (dsimp only; omega) | (simp only [Hs, Tl, Sc, isHs, isScr, isTs] at *; omega))
            dsimp only [Option.toList, List.nil_append]
            refine w_goto 58 (by decide +kernel) ?_
            exact w_retV (by decide +kernel) (hq Nr11 hS (by unfold hearF; rw [← eD, if_neg (by assumption), lsN_eq hLd hkd, ← eO, if_pos (by assumption)]; exact hr11))
      · skip
        exact (no_ls (by assumption) (by assumption) hnor4).elim
    · skip
      refine w_load (.aload_n 0) 11 (by decide +kernel) rfl rfl ?_
      refine w_load (.iload_n 1) 12 (by decide +kernel) rfl rfl ?_
      refine w_callV1 72 6 3 15 (by decide +kernel) ht.1.1 (Nat.le_of_ble_eq_true rfl) rfl (by decide) (by omega) ?_
      refine s_fail hS.1 ht (by omega) kz0 hs0 (by omega) (fun Nr13 hTr13 hr13 => ?_)
      have kn14 := (hTr13.2 (t + 1) 2 (by (try dsimp only); first | omega | (simp only [Hs, Tl, Sc, isHs, isScr, isTs] at *; omega))).trans kz0
      have hS := hS.tr hTr13 (by intro i k; first | exact rfl | exact fun h => h.elim | omega | (dsimp only; omega) | (simp only [Hs, Tl, Sc, isHs, isScr, isTs] at *; omega))
      dsimp only [Option.toList, List.nil_append]
      exact w_retV (by decide +kernel) (hq Nr13 hS (by unfold hearF; rw [← eD, if_pos (by assumption)]; exact hr13))
-- X6_begin#s
set_option maxRecDepth 10000 in
theorem s_begin {d : Nat} {M : Mt} {L : Lt} {Q : Option Value → Mt → Lt → Prop} {t h n : Nat} {c pw : Row} (hI : Inv M) (ht : Tl t) (hh : Hs h) (hn : n ≤ 5) (en : M h 2 = nI n) (hc : HE n (M (h + 1)) c) (hp : LQ n (M (h + 2)) pw) (hd : 2 ≤ d) (hq : ∀ (N : Mt), St (fun i _ => t ≤ i ∧ i ≤ t + 4) M N → (shT n t N (c, pw, nI 0, nI 0) ∧ N (t + 1) 2 = nI n ∧ LQ n (N (t + 3)) pw) → Q none N L) : Wp d 66 0 [.ref t, .ref h, .null] [] M L Q := by
  refine (show ∀ N : Mt, N = M → St (fun i _ => t ≤ i ∧ i ≤ t + 4) M N → Wp d 66 0 [.ref t, .ref h, .null] [] N L Q from ?_) M rfl (St.rf hI)
  intro N hNM hS
  have kz0 : N (h) 2 = nI n := by rw [hNM]; exact en
  refine w_load (.aload_n 0) 1 (by decide +kernel) rfl rfl ?_
  refine w_getR (k := 0) (r := t + 1) 4 (by decide +kernel) ht.1.1 rfl ?_
  refine w_load (.aload_n 1) 5 (by decide +kernel) rfl rfl ?_
  refine w_callV1 8 1 2 8 (by decide +kernel) ht.1.2.1.1 (Nat.le_of_ble_eq_true rfl) rfl (by decide) (by omega) ?_
  refine k_8 hS.1 (tl_h ht) hh (by omega) (fun Nr1 hTr1 hr1 => ?_)
  have hS := hS.tr hTr1 (by intro i k; first | exact rfl | exact fun h => h.elim | omega | (dsimp only; omega) | (simp only [Hs, Tl, Sc, isHs, isScr, isTs] at *; omega))
  have g5 : Nr1 (t + 1) 2 = nI n := by rw [hr1, cpH_g, hNM]; exact en
  have c5 : HE n (Nr1 (t + 2)) c := by rw [hr1, hNM]; exact (HE.of17 hn (fun k hk => cpH_c hk)).tr hc
  have p5 : LQ n (Nr1 (t + 3)) pw := by rw [hr1, hNM]; exact fun g hg => (cpH_p (by omega) (by simp only [Hs, Tl, isHs, isTs] at *; omega)).trans (hp g hg)
  dsimp only [Option.toList, List.nil_append]
  refine w_pushN 0 9 (by decide +kernel) ?_
  refine w_store (ls' := [.ref t, .ref h, .int (nI 0)]) (.istore_n 2) 10 (by decide +kernel) rfl rfl ?_
  have LP_10 : ∀ (kk : Nat) (N_10 : Mt) (g2 : Nat), St (fun i _ => t ≤ i ∧ i ≤ t + 4) M N_10 → g2 ≤ 5 → (∀ i, i < g2 → i < n → N_10 (t + 4) i = pw i) → HE n (N_10 (t + 2)) c → LQ n (N_10 (t + 3)) pw → N_10 (t + 1) 2 = nI n → 5 - g2 < kk → Wp d 66 10 [.ref t, .ref h, .int (nI g2)] [] N_10 L Q := by
    intro kk
    induction kk with
    | zero => intro N_10 g2 hS hi0_10 hi1_10 hi2_10 hi3_10 hi4_10 hm_10; exact absurd hm_10 (Nat.not_lt_zero _)
    | succ kk ih_10 =>
      intro N_10 g2 hS hi0_10 hi1_10 hi2_10 hi3_10 hi4_10 hm_10
      refine w_load (.iload_n 2) 11 (by decide +kernel) rfl rfl ?_
      refine w_load (.aload_n 0) 12 (by decide +kernel) rfl rfl ?_
      refine w_getR (k := 1) (r := t + 4) 15 (by decide +kernel) ht.1.1 rfl ?_
      refine w_alen (nI 5) 16 (by decide +kernel) ht.1.2.2 (by decide) (by first | rfl | simp [nI]) ?_
      refine w_cgeN 39 19 (by decide +kernel) (by omega) (by omega) (fun h2 => ?_) (fun h2 => ?_)
      · skip
        refine w_load (.aload_n 0) 40 (by decide +kernel) rfl rfl ?_
        refine w_pushN 0 41 (by decide +kernel) ?_
        refine w_putE (k := 2) 44 (by decide +kernel) ht.1.1 rfl hS (Rg.free (by simp only [Hs, Tl, Sc, isScr, isHs, isTs] at *; omega)) (by first | exact rfl | omega | (dsimp only; omega) | (simp only [Hs, Tl, Sc, isHs, isScr, isTs] at *; omega)) (fun Nq3 hS hq3 oq3 mq3 => ?_)
        refine w_load (.aload_n 0) 45 (by decide +kernel) rfl rfl ?_
        refine w_pushN 0 46 (by decide +kernel) ?_
        refine w_putE (k := 3) 49 (by decide +kernel) ht.1.1 rfl hS (Rg.free (by simp only [Hs, Tl, Sc, isScr, isHs, isTs] at *; omega)) (by first | exact rfl | omega | (dsimp only; omega) | (simp only [Hs, Tl, Sc, isHs, isScr, isTs] at *; omega)) (fun Nq4 hS hq4 oq4 mq4 => ?_)
        exact w_retV (by decide +kernel) (hq Nq4 hS ⟨⟨by rw [mq4, row_ne (by omega), mq3, row_ne (by omega)]; exact hi2_10, by rw [mq4, row_ne (by omega), mq3, row_ne (by omega)]; exact fun g hg => hi1_10 g (by omega) hg, by show _ = nI 0; rw [mq4, up2_eq], by show _ = nI 0; rw [mq4, up2_ne (by omega), mq3, up2_eq]⟩, by rw [mq4, up2_ne (by omega), mq3, up2_ne (by omega)]; exact hi4_10, by rw [mq4, row_ne (by omega), mq3, row_ne (by omega)]; exact hi3_10⟩)
      · skip
        refine w_load (.aload_n 0) 20 (by decide +kernel) rfl rfl ?_
        refine w_getR (k := 1) (r := t + 4) 23 (by decide +kernel) ht.1.1 rfl ?_
        refine w_load (.iload_n 2) 24 (by decide +kernel) rfl rfl ?_
        refine w_load (.aload_n 0) 25 (by decide +kernel) rfl rfl ?_
        refine w_getR (k := 0) (r := t + 1) 28 (by decide +kernel) ht.1.1 rfl ?_
        refine w_load (.iload_n 2) 29 (by decide +kernel) rfl rfl ?_
        refine w_callV1 15 1 2 32 (by decide +kernel) ht.1.2.1.1 (Nat.le_of_ble_eq_true rfl) rfl (by decide) (by omega) ?_
        refine s_powerOf hS.1 (tl_h ht) (by omega) hi4_10 hi3_10 (by omega) (by omega) (fun r5 hr5 => ?_)
        have hpo := hr5
        dsimp only [Option.toList, List.cons_append, List.nil_append]
        rcases hr5 with -
        · skip
          refine w_iastE 33 (by decide +kernel) ht.1.2.2 (by omega) (by omega) hS (Rg.free (by simp only [Hs, Tl, Sc, isScr, isHs, isTs] at *; omega)) (by first | exact rfl | omega | (dsimp only; omega) | (simp only [Hs, Tl, Sc, isHs, isScr, isTs] at *; omega)) (fun Nq6 hS hq6 oq6 mq6 => ?_)
          have kn7 := (oq6 (t + 1) 2 (by first | omega | (simp only [Hs, Tl, Sc, isHs, isScr, isTs] at *; omega))).trans hi4_10
          have b1 : ∀ i, i < g2 + 1 → i < n → Nq6 (t + 4) i = pw i := by rw [mq6, row_eq]; exact bg_step hi1_10 (fun hg => by rw [hpo, if_pos hg])
          have b2 : HE n (Nq6 (t + 2)) c := by rw [mq6, row_ne (by omega)]; exact hi2_10
          have b3 : LQ n (Nq6 (t + 3)) pw := by rw [mq6, row_ne (by omega)]; exact hi3_10
          refine w_iincN (z := 2) (g2 + 1) 36 (by decide +kernel) rfl (Nat.le_of_ble_eq_true rfl) rfl rfl ?_
          show Wp _ _ _ [.ref t, .ref h, .int (nI (g2 + 1))] _ _ _ _
          refine w_goto 10 (by decide +kernel) ?_
          exact ih_10 Nq6 (g2 + 1) hS (by first | omega | assumption) (by first | omega | assumption) (by first | omega | assumption) (by first | omega | assumption) (by first | omega | assumption) (by omega)
  exact LP_10 _ Nr1 0 hS (by first | omega | assumption | (intro i hi; omega)) (by first | omega | assumption | (intro i hi; omega)) (by first | omega | assumption | (intro i hi; omega)) (by first | omega | assumption | (intro i hi; omega)) (by first | omega | assumption | (intro i hi; omega)) (Nat.lt_succ_self _)
-- X6_hearAll#s
set_option maxRecDepth 10000 in
theorem s_hearAll {d : Nat} {M : Mt} {L : Lt} {Q : Option Value → Mt → Lt → Prop} {t h s n z : Nat} {c pw : Row} (hI : Inv M) (ht : Tl t) (hh : Hs h) (hcs : Sc s) (hn : n ≤ 5) (en : M h 2 = nI n) (hc : HE n (M (h + 1)) c) (hp : LQ n (M (h + 2)) pw) (hw : wedOk n c) (hz : z ≤ 24) (ez : M s 1 = nI z) (hd : 5 ≤ d) (hq : ∀ (N : Mt), St (fun i _ => t ≤ i ∧ i ≤ t + 4) M N → (∃ k, sndT (M (s + 1)) z k ∧ shT n t N (runF n (deedV (M (s + 1))) (nI 0) (k / 3) (c, pw, nI 0, nI 0)) ∧ N (t + 1) 2 = nI n ∧ LQ n (N (t + 3)) pw) → Q none N L) : Wp d 68 0 [.ref t, .ref h, .ref s, .null, .null] [] M L Q := by
  refine (show ∀ N : Mt, N = M → St (fun i _ => t ≤ i ∧ i ≤ t + 4) M N → Wp d 68 0 [.ref t, .ref h, .ref s, .null, .null] [] N L Q from ?_) M rfl (St.rf hI)
  intro N hNM hS
  have kz0 : N (h) 2 = nI n := by rw [hNM]; exact en
  have kz1 : N (s) 1 = nI z := by rw [hNM]; exact ez
  refine w_load (.aload_n 0) 1 (by decide +kernel) rfl rfl ?_
  refine w_load (.aload_n 1) 2 (by decide +kernel) rfl rfl ?_
  refine w_callV1 66 6 3 5 (by decide +kernel) ht.1.1 (Nat.le_of_ble_eq_true rfl) rfl (by decide) (by omega) ?_
  refine s_begin hS.1 ht hh (by omega) kz0 (by rw [hNM]; exact hc) (by rw [hNM]; exact hp) (by omega) (fun Nr1 hTr1 hr1 => ?_)
  have kn2 := (hTr1.2 (s) 1 (by (try dsimp only); first | omega | (simp only [Hs, Tl, Sc, isHs, isScr, isTs] at *; omega))).trans kz1
  have hS := hS.tr hTr1 (by intro i k; first | exact rfl | exact fun h => h.elim | omega | (dsimp only; omega) | (simp only [Hs, Tl, Sc, isHs, isScr, isTs] at *; omega))
  have r2 : Nr1 (s + 1) = M (s + 1) := by rw [hTr1.row (fun k => (by (try dsimp only); first | omega | (simp only [Hs, Tl, Sc, isHs, isScr, isTs] at *; omega))), hNM]
  dsimp only [Option.toList, List.nil_append]
  refine w_load (.aload_n 2) 6 (by decide +kernel) rfl rfl ?_
  refine w_callV0 43 2 1 9 (by decide +kernel) hcs.1.1 (Nat.le_of_ble_eq_true rfl)  (by decide) (by omega) ?_
  refine k_43 hS.1 hcs (by omega) kn2 (by omega) (fun r3 hr3 => ?_)
  dsimp only [Option.toList, List.cons_append, List.nil_append]
  rcases hr3 with ⟨kr3, hsr3, rfl⟩
  · skip
    have hlr3 := hsr3.1
    refine w_store (ls' := [.ref t, .ref h, .ref s, .int (nI ((kr3 / 3))), .null]) (.istore_n 3) 10 (by decide +kernel) rfl rfl ?_
    refine w_pushN 0 11 (by decide +kernel) ?_
    refine w_store (ls' := [.ref t, .ref h, .ref s, .int (nI ((kr3 / 3))), .int (nI 0)]) (.istore 4) 13 (by decide +kernel) rfl rfl ?_
    have LP_13 : ∀ (kk : Nat) (N_13 : Mt) (g4 : Nat), St (fun i _ => t ≤ i ∧ i ≤ t + 4) M N_13 → g4 ≤ 8 → shT n t N_13 (runF n (deedV (M (s + 1))) (nI 0) g4 (c, pw, nI 0, nI 0)) → N_13 (t + 1) 2 = nI n → N_13 (s + 1) = M (s + 1) → N_13 s 1 = nI z → g4 ≤ ((kr3 / 3)) → LQ n (N_13 (t + 3)) pw → 8 - g4 < kk → Wp d 68 13 [.ref t, .ref h, .ref s, .int (nI ((kr3 / 3))), .int (nI g4)] [] N_13 L Q := by
      intro kk
      induction kk with
      | zero => intro N_13 g4 hS hi0_13 hi1_13 hi2_13 hi3_13 hi4_13 hi5_13 hi6_13 hm_13; exact absurd hm_13 (Nat.not_lt_zero _)
      | succ kk ih_13 =>
        intro N_13 g4 hS hi0_13 hi1_13 hi2_13 hi3_13 hi4_13 hi5_13 hi6_13 hm_13
        refine w_load (.iload 4) 15 (by decide +kernel) rfl rfl ?_
        refine w_load (.iload_n 3) 16 (by decide +kernel) rfl rfl ?_
        refine w_cgeN 37 19 (by decide +kernel) (by omega) (by omega) (fun h4 => ?_) (fun h4 => ?_)
        · skip
          exact w_retV (by decide +kernel) (hq N_13 hS ⟨kr3, by rw [r2] at hsr3; exact hsr3, by have hgn : g4 = kr3 / 3 := (by omega); rw [← hgn]; exact hi1_13, hi2_13, hi6_13⟩)
        · skip
          refine w_load (.aload_n 0) 20 (by decide +kernel) rfl rfl ?_
          refine w_load (.aload_n 2) 21 (by decide +kernel) rfl rfl ?_
          refine w_load (.iload 4) 23 (by decide +kernel) rfl rfl ?_
          refine w_callV1 44 2 4 26 (by decide +kernel) hcs.1.1 (Nat.le_of_ble_eq_true rfl) rfl (by decide) (by omega) ?_
          refine s_deedAt hS.1 hcs (by omega) hi4_13 (by omega) (by omega) (fun r5 hr5 => ?_)
          dsimp only [Option.toList, List.cons_append, List.nil_append]
          rcases hr5 with rfl
          · skip
            refine w_load (.iload 4) 28 (by decide +kernel) rfl rfl ?_
            refine w_callV2 69 6 6 31 (by decide +kernel) ht.1.1 (Nat.le_of_ble_eq_true rfl) rfl rfl (by decide) (by omega) ?_
            refine s_hear hS.1 ht (by omega) hi2_13 hi1_13 (wedOk.run hw hn g4) (by omega) (fun Nr6 hTr6 hr6 => ?_)
            have kn7 := (hTr6.2 (t + 1) 2 (by (try dsimp only); first | omega | (simp only [Hs, Tl, Sc, isHs, isScr, isTs] at *; omega))).trans hi2_13
            have kn8 := (hTr6.2 (s) 1 (by (try dsimp only); first | omega | (simp only [Hs, Tl, Sc, isHs, isScr, isTs] at *; omega))).trans hi4_13
            have hS := hS.tr hTr6 (by intro i k; first | exact rfl | exact fun h => h.elim | omega | (dsimp only; omega) | (simp only [Hs, Tl, Sc, isHs, isScr, isTs] at *; omega))
            have s28 : shT n t Nr6 (runF n (deedV (M (s + 1))) (nI 0) (g4 + 1) (c, pw, nI 0, nI 0)) := by rw [hi3_13] at hr6; rw [← run0]; exact hr6
            have p28 : LQ n (Nr6 (t + 3)) pw := by rw [hTr6.row (fun k => (by (try dsimp only); first | omega | (simp only [Hs, Tl, Sc, isHs, isScr, isTs] at *; omega)))]; exact hi6_13
            have r28 : Nr6 (s + 1) = M (s + 1) := by rw [hTr6.row (fun k => (by (try dsimp only); first | omega | (simp only [Hs, Tl, Sc, isHs, isScr, isTs] at *; omega)))]; exact hi3_13
            dsimp only [Option.toList, List.nil_append]
            refine w_iincN (z := 4) (g4 + 1) 34 (by decide +kernel) rfl (Nat.le_of_ble_eq_true rfl) rfl rfl ?_
            show Wp _ _ _ [.ref t, .ref h, .ref s, .int (nI ((kr3 / 3))), .int (nI (g4 + 1))] _ _ _ _
            refine w_goto 13 (by decide +kernel) ?_
            exact ih_13 Nr6 (g4 + 1) hS (by first | omega | assumption) (by first | omega | assumption) (by first | omega | assumption) (by first | omega | assumption) (by first | omega | assumption) (by first | omega | assumption) (by first | omega | assumption) (by omega)
    exact LP_13 _ Nr1 0 hS (by first | omega | assumption | exact hr1.1 | exact hr1.2.1 | exact hr1.2.2) (by first | omega | assumption | exact hr1.1 | exact hr1.2.1 | exact hr1.2.2) (by first | omega | assumption | exact hr1.1 | exact hr1.2.1 | exact hr1.2.2) (by first | omega | assumption | exact hr1.1 | exact hr1.2.1 | exact hr1.2.2) (by first | omega | assumption | exact hr1.1 | exact hr1.2.1 | exact hr1.2.2) (by first | omega | assumption | exact hr1.1 | exact hr1.2.1 | exact hr1.2.2) (by first | omega | assumption | exact hr1.1 | exact hr1.2.1 | exact hr1.2.2) (Nat.lt_succ_self _)
