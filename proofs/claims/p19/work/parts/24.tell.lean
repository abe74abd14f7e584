-- X5_isFull
set_option maxRecDepth 10000 in
theorem k_60 {d : Nat} {M : Mt} {L : Lt} {Q : Option Value → Mt → Lt → Prop} {n : Nat}  (hI : Inv M) (hn : n ≤ 6) (en : M 64 2 = nI n) (hd : 0 ≤ d) (hq : ∀ (r : Int32), ((r = 1 ∧ n = 6) ∨ (r = 0 ∧ n < 6)) → Q (some (.int r)) M L) : Wp d 60 0 [.ref 64] [] M L Q := by
  refine w_load (.aload_n 0) 1 (by decide +kernel) rfl rfl ?_
  refine w_getK (k := 2) 4 (by decide +kernel) sh_64 rfl en ?_
  refine w_pushN 6 6 (by decide +kernel) ?_
  refine w_cltN 13 9 (by decide +kernel) (by omega) (by omega) (fun h1 => ?_) (fun h1 => ?_)
  · skip
    refine w_pushN 0 14 (by decide +kernel) ?_
    exact w_retZ (by decide +kernel) (Or.inl rfl) (hq _ (Or.inr ⟨rfl, by omega⟩))
  · skip
    refine w_pushN 1 10 (by decide +kernel) ?_
    refine w_goto 14 (by decide +kernel) ?_
    exact w_retZ (by decide +kernel) (Or.inr rfl) (hq _ (Or.inl ⟨rfl, by omega⟩))
-- X5_add
set_option maxRecDepth 10000 in
theorem k_61 {d : Nat} {M : Mt} {L : Lt} {Q : Option Value → Mt → Lt → Prop} {n : Nat} {g a : Int32} (hI : Inv M) (hn : n < 6) (en : M 64 2 = nI n) (hd : 1 ≤ d) (hq : ∀ (r : Int32) (N : Mt), St (fun i _ => 64 ≤ i ∧ i ≤ 66) M N → (r = nI (n + 1) ∧ N = up2 (up2 (up2 M 65 n g) 66 n a) 64 2 (nI (n + 1))) → Q (some (.int r)) N L) : Wp d 61 0 [.ref 64, .int g, .int a] [] M L Q := by
  refine (show ∀ N : Mt, N = M → St (fun i _ => 64 ≤ i ∧ i ≤ 66) M N → Wp d 61 0 [.ref 64, .int g, .int a] [] N L Q from ?_) M rfl (St.rf hI)
  intro N hNM hS
  have kz0 : N (64) 2 = nI n := by rw [hNM]; exact en
  refine w_load (.aload_n 0) 1 (by decide +kernel) rfl rfl ?_
  refine w_callV0 60 5 1 4 (by decide +kernel) sh_64 (Nat.le_of_ble_eq_true rfl)  (by decide) (by omega) ?_
  refine k_60 hS.1 (by omega) kz0 (by omega) (fun r1 hr1 => ?_)
  dsimp only [Option.toList, List.cons_append, List.nil_append]
  rcases hr1 with ⟨rfl, hfull⟩ | ⟨rfl, hfull⟩
  · skip
    refine w_ine 37 7 (by decide +kernel) (fun _ => ?_) (fun hz => absurd hz (by decide))
    refine w_load (.aload_n 0) 38 (by decide +kernel) rfl rfl ?_
    refine w_getK (k := 2) 41 (by decide +kernel) sh_64 rfl kz0 ?_
    exact w_ret (by decide +kernel) (hq _ N hS (by first | exact absurd hfull (by omega) | exact ⟨rfl, (by rw [hNM] <;> rfl)⟩))
  · skip
    refine w_ine 37 7 (by decide +kernel) (fun hz => absurd hz (by decide)) (fun _ => ?_)
    refine w_load (.aload_n 0) 8 (by decide +kernel) rfl rfl ?_
    refine w_getR (k := 0) (r := 65) 11 (by decide +kernel) sh_64 rfl ?_
    refine w_load (.aload_n 0) 12 (by decide +kernel) rfl rfl ?_
    refine w_getK (k := 2) 15 (by decide +kernel) sh_64 rfl kz0 ?_
    refine w_load (.iload_n 1) 16 (by decide +kernel) rfl rfl ?_
    refine w_iastE 17 (by decide +kernel) sh_65 (by omega) (by omega) hS (Rg.free (by simp only [Hs, Tl, Sc, isScr, isHs, isTs] at *; omega)) (by first | exact rfl | omega | (dsimp only; omega) | (simp only [Hs, Tl, Sc, isHs, isScr, isTs] at *; omega)) (fun Nq4 hS hq4 oq4 mq4 => ?_)
    have kn5 := (oq4 (64) 2 (by first | omega | (simp only [Hs, Tl, Sc, isHs, isScr, isTs] at *; omega))).trans kz0
    refine w_load (.aload_n 0) 18 (by decide +kernel) rfl rfl ?_
    refine w_getR (k := 1) (r := 66) 21 (by decide +kernel) sh_64 rfl ?_
    refine w_load (.aload_n 0) 22 (by decide +kernel) rfl rfl ?_
    refine w_getK (k := 2) 25 (by decide +kernel) sh_64 rfl kn5 ?_
    refine w_load (.iload_n 2) 26 (by decide +kernel) rfl rfl ?_
    refine w_iastE 27 (by decide +kernel) sh_66 (by omega) (by omega) hS (Rg.free (by simp only [Hs, Tl, Sc, isScr, isHs, isTs] at *; omega)) (by first | exact rfl | omega | (dsimp only; omega) | (simp only [Hs, Tl, Sc, isHs, isScr, isTs] at *; omega)) (fun Nq6 hS hq6 oq6 mq6 => ?_)
    have kn7 := (oq6 (64) 2 (by first | omega | (simp only [Hs, Tl, Sc, isHs, isScr, isTs] at *; omega))).trans kn5
    refine w_load (.aload_n 0) 28 (by decide +kernel) rfl rfl ?_
    refine w_pure .dup 29 (by decide +kernel) rfl rfl ?_
    refine w_getK (k := 2) 32 (by decide +kernel) sh_64 rfl kn7 ?_
    refine w_pushN 1 33 (by decide +kernel) ?_
    refine w_addN (n + 1) 34 (by decide +kernel) (by omega) ?_
    refine w_putE (k := 2) 37 (by decide +kernel) sh_64 rfl hS (rg_sz (by omega)) (by first | exact rfl | omega | (dsimp only; omega) | (simp only [Hs, Tl, Sc, isHs, isScr, isTs] at *; omega)) (fun Nq8 hS hq8 oq8 mq8 => ?_)
    refine w_load (.aload_n 0) 38 (by decide +kernel) rfl rfl ?_
    refine w_getK (k := 2) 41 (by decide +kernel) sh_64 rfl hq8 ?_
    exact w_ret (by decide +kernel) (hq _ Nq8 hS (by first | exact absurd hfull (by omega) | exact ⟨rfl, (by rw [mq8, mq6, mq4, hNM] <;> rfl)⟩))
-- X5_empty
set_option maxRecDepth 10000 in
theorem k_62 {d : Nat} {M : Mt} {L : Lt} {Q : Option Value → Mt → Lt → Prop} {n : Nat}  (hI : Inv M) (hn : n ≤ 6) (en : M 64 2 = nI n) (hd : 0 ≤ d) (hq : ∀ (r : Int32) (N : Mt), St (fun i k => i = 64 ∧ k = 2) M N → (r = nI n ∧ N = up2 M 64 2 (nI 0)) → Q (some (.int r)) N L) : Wp d 62 0 [.ref 64, .null] [] M L Q := by
  refine (show ∀ N : Mt, N = M → St (fun i k => i = 64 ∧ k = 2) M N → Wp d 62 0 [.ref 64, .null] [] N L Q from ?_) M rfl (St.rf hI)
  intro N hNM hS
  have kz0 : N (64) 2 = nI n := by rw [hNM]; exact en
  refine w_load (.aload_n 0) 1 (by decide +kernel) rfl rfl ?_
  refine w_getK (k := 2) 4 (by decide +kernel) sh_64 rfl kz0 ?_
  refine w_store (ls' := [.ref 64, .int (nI n)]) (.istore_n 1) 5 (by decide +kernel) rfl rfl ?_
  refine w_load (.aload_n 0) 6 (by decide +kernel) rfl rfl ?_
  refine w_pushN 0 7 (by decide +kernel) ?_
  refine w_putE (k := 2) 10 (by decide +kernel) sh_64 rfl hS (rg_sz (by omega)) (by first | exact rfl | omega | (dsimp only; omega) | (simp only [Hs, Tl, Sc, isHs, isScr, isTs] at *; omega)) (fun Nq1 hS hq1 oq1 mq1 => ?_)
  refine w_load (.iload_n 1) 11 (by decide +kernel) rfl rfl ?_
  exact w_ret (by decide +kernel) (hq _ Nq1 hS ⟨rfl, (by rw [mq1, hNM] <;> rfl)⟩)
-- X5_isSo
set_option maxRecDepth 10000 in
theorem k_64 {d : Nat} {M : Mt} {L : Lt} {Q : Option Value → Mt → Lt → Prop} {h : Nat} {g a : Int32} (hI : Inv M) (hh : Hs h) (hd : 2 ≤ d) (hq : ∀ (r : Int32), (r = 0 ∨ r = 1) → Q (some (.int r)) M L) : Wp d 64 0 [.ref h, .int g, .int a] [] M L Q := by
  refine w_load (.iload_n 2) 1 (by decide +kernel) rfl rfl ?_
  refine w_pushN 1000 4 (by decide +kernel) ?_
  refine w_cne 21 7 (by decide +kernel) (fun h1 => ?_) (fun h1 => ?_)
  · skip
    refine w_load (.iload_n 2) 22 (by decide +kernel) rfl rfl ?_
    refine w_pushN 1001 25 (by decide +kernel) ?_
    refine w_cne 34 28 (by decide +kernel) (fun h2 => ?_) (fun h2 => ?_)
    · skip
      refine w_load (.aload_n 0) 35 (by decide +kernel) rfl rfl ?_
      refine w_load (.iload_n 1) 36 (by decide +kernel) rfl rfl ?_
      refine w_callV1 13 1 2 39 (by decide +kernel) hh.1.1 (Nat.le_of_ble_eq_true rfl) rfl (by decide) (by omega) ?_
      refine k_13 hI hh (by omega) (fun r3 hr3 => ?_)
      dsimp only [Option.toList, List.cons_append, List.nil_append]
      refine w_load (.iload_n 2) 40 (by decide +kernel) rfl rfl ?_
      refine w_cne 47 43 (by decide +kernel) (fun h4 => ?_) (fun h4 => ?_)
      · skip
        refine w_pushN 0 48 (by decide +kernel) ?_
        exact w_retZ (by decide +kernel) (Or.inl rfl) (hq _ (Or.inl rfl))
      · skip
        refine w_pushN 1 44 (by decide +kernel) ?_
        refine w_goto 48 (by decide +kernel) ?_
        exact w_retZ (by decide +kernel) (Or.inr rfl) (hq _ (Or.inr rfl))
    · skip
      refine w_load (.aload_n 0) 29 (by decide +kernel) rfl rfl ?_
      refine w_load (.iload_n 1) 30 (by decide +kernel) rfl rfl ?_
      refine w_callV1 16 1 2 33 (by decide +kernel) hh.1.1 (Nat.le_of_ble_eq_true rfl) rfl (by decide) (by omega) ?_
      refine k_16 hI hh (by omega) (fun r5 hr5 => ?_)
      dsimp only [Option.toList, List.cons_append, List.nil_append]
      exact w_retZ (by decide +kernel) (by assumption) (hq _ (by assumption))
  · skip
    refine w_load (.aload_n 0) 8 (by decide +kernel) rfl rfl ?_
    refine w_load (.iload_n 1) 9 (by decide +kernel) rfl rfl ?_
    refine w_callV1 16 1 2 12 (by decide +kernel) hh.1.1 (Nat.le_of_ble_eq_true rfl) rfl (by decide) (by omega) ?_
    refine k_16 hI hh (by omega) (fun r6 hr6 => ?_)
    dsimp only [Option.toList, List.cons_append, List.nil_append]
    refine w_ine 19 15 (by decide +kernel) (fun h7 => ?_) (fun h7 => ?_)
    · skip
      refine w_pushN 0 20 (by decide +kernel) ?_
      exact w_retZ (by decide +kernel) (Or.inl rfl) (hq _ (Or.inl rfl))
    · skip
      refine w_pushN 1 16 (by decide +kernel) ?_
      refine w_goto 20 (by decide +kernel) ?_
      exact w_retZ (by decide +kernel) (Or.inr rfl) (hq _ (Or.inr rfl))
-- X5_fit
set_option maxRecDepth 10000 in
theorem k_63 {d : Nat} {M : Mt} {L : Lt} {Q : Option Value → Mt → Lt → Prop} {h : Nat} (hI : Inv M) (hh : Hs h) (hd : 3 ≤ d) (hq : ∀ (r : Int32), (r = 0 ∨ r = 1) → Q (some (.int r)) M L) : Wp d 63 0 [.ref 64, .ref h, .null] [] M L Q := by
  refine w_pushN 0 1 (by decide +kernel) ?_
  refine w_store (ls' := [.ref 64, .ref h, .int (nI 0)]) (.istore_n 2) 2 (by decide +kernel) rfl rfl ?_
  have LP_2 : ∀ (kk : Nat) (g2 : Nat), g2 ≤ 6 → 6 - g2 < kk → Wp d 63 2 [.ref 64, .ref h, .int (nI g2)] [] M L Q := by
    intro kk
    induction kk with
    | zero => intro g2 hi0_2 hm_2; exact absurd hm_2 (Nat.not_lt_zero _)
    | succ kk ih_2 =>
      intro g2 hi0_2 hm_2
      refine w_load (.iload_n 2) 3 (by decide +kernel) rfl rfl ?_
      refine w_load (.aload_n 0) 4 (by decide +kernel) rfl rfl ?_
      refine w_getN (B := 6) (k := 2) 7 (by decide +kernel) sh_64 rfl (inv_sz hI) (fun n1 hn1 en1 => ?_)
      refine w_cgeN 50 10 (by decide +kernel) (by omega) (by omega) (fun h2 => ?_) (fun h2 => ?_)
      · skip
        refine w_pushN 1 51 (by decide +kernel) ?_
        exact w_retZ (by decide +kernel) (Or.inr rfl) (hq _ (Or.inr rfl))
      · skip
        refine w_load (.aload_n 1) 11 (by decide +kernel) rfl rfl ?_
        refine w_load (.aload_n 0) 12 (by decide +kernel) rfl rfl ?_
        refine w_getR (k := 0) (r := 65) 15 (by decide +kernel) sh_64 rfl ?_
        refine w_load (.iload_n 2) 16 (by decide +kernel) rfl rfl ?_
        refine w_ialdN 17 (by decide +kernel) sh_65 (by omega) (by omega) ?_
        refine w_callV1 11 1 2 20 (by decide +kernel) hh.1.1 (Nat.le_of_ble_eq_true rfl) rfl (by decide) (by omega) ?_
        obtain ⟨n3, hn3, en3⟩ := inv_h hI hh
        refine k_11 hI hh (by omega) en3 (by omega) (fun r4 hr4 => ?_)
        dsimp only [Option.toList, List.cons_append, List.nil_append]
        rcases hr4 with ⟨rfl, k5, hk5, ek5⟩ | ⟨rfl, hnok5⟩
        · skip
          refine w_ieq 44 23 (by decide +kernel) (fun hz => absurd hz (by decide)) (fun _ => ?_)
          refine w_load (.aload_n 1) 24 (by decide +kernel) rfl rfl ?_
          refine w_load (.aload_n 0) 25 (by decide +kernel) rfl rfl ?_
          refine w_getR (k := 0) (r := 65) 28 (by decide +kernel) sh_64 rfl ?_
          refine w_load (.iload_n 2) 29 (by decide +kernel) rfl rfl ?_
          refine w_ialdN 30 (by decide +kernel) sh_65 (by omega) (by omega) ?_
          refine w_load (.aload_n 0) 31 (by decide +kernel) rfl rfl ?_
          refine w_getR (k := 1) (r := 66) 34 (by decide +kernel) sh_64 rfl ?_
          refine w_load (.iload_n 2) 35 (by decide +kernel) rfl rfl ?_
          refine w_ialdN 36 (by decide +kernel) sh_66 (by omega) (by omega) ?_
          refine w_callS3 64 3 39 (by decide +kernel) (Nat.le_of_ble_eq_true rfl) rfl rfl rfl (by decide) (by omega) ?_
          refine k_64 hI hh (by omega) (fun r7 hr7 => ?_)
          dsimp only [Option.toList, List.cons_append, List.nil_append]
          refine w_ine 44 42 (by decide +kernel) (fun h8 => ?_) (fun h8 => ?_)
          · skip
            refine w_iincN (z := 2) (g2 + 1) 47 (by decide +kernel) rfl (Nat.le_of_ble_eq_true rfl) rfl rfl ?_
            show Wp _ _ _ [.ref 64, .ref h, .int (nI (g2 + 1))] _ _ _ _
            refine w_goto 2 (by decide +kernel) ?_
            exact ih_2 (g2 + 1) (by omega) (by omega)
          · skip
            refine w_pushN 0 43 (by decide +kernel) ?_
            exact w_retZ (by decide +kernel) (Or.inl rfl) (hq _ (Or.inl rfl))
        · skip
          refine w_ieq 44 23 (by decide +kernel) (fun _ => ?_) (fun hz => absurd hz (by decide))
          refine w_iincN (z := 2) (g2 + 1) 47 (by decide +kernel) rfl (Nat.le_of_ble_eq_true rfl) rfl rfl ?_
          show Wp _ _ _ [.ref 64, .ref h, .int (nI (g2 + 1))] _ _ _ _
          refine w_goto 2 (by decide +kernel) ?_
          exact ih_2 (g2 + 1) (by omega) (by omega)
  exact LP_2 _ 0 (by omega) (Nat.lt_succ_self _)
-- X7_kindOf
set_option maxRecDepth 10000 in
theorem k_117 {d : Nat} {M : Mt} {L : Lt} {Q : Option Value → Mt → Lt → Prop} {a : Int32} (hI : Inv M)  (hd : 0 ≤ d) (hq : ∀ (r : Int32), True → Q (some (.int r)) M L) : Wp d 117 0 [.int a] [] M L Q := by
  refine w_load (.iload_n 0) 1 (by decide +kernel) rfl rfl ?_
  refine w_pushN 16 3 (by decide +kernel) ?_
  refine w_div 4 (by decide +kernel) (by decide) ?_
  exact w_ret (by decide +kernel) (hq _ trivial)
-- X7_firstNameOf
set_option maxRecDepth 10000 in
theorem k_118 {d : Nat} {M : Mt} {L : Lt} {Q : Option Value → Mt → Lt → Prop} {a : Int32} (hI : Inv M)  (hd : 0 ≤ d) (hq : ∀ (r : Int32), True → Q (some (.int r)) M L) : Wp d 118 0 [.int a] [] M L Q := by
  refine w_load (.iload_n 0) 1 (by decide +kernel) rfl rfl ?_
  refine w_pushN 4 2 (by decide +kernel) ?_
  refine w_div 3 (by decide +kernel) (by decide) ?_
  refine w_pushN 4 4 (by decide +kernel) ?_
  refine w_rem 5 (by decide +kernel) (by decide) ?_
  exact w_ret (by decide +kernel) (hq _ trivial)
-- X7_secondNameOf
set_option maxRecDepth 10000 in
theorem k_119 {d : Nat} {M : Mt} {L : Lt} {Q : Option Value → Mt → Lt → Prop} {a : Int32} (hI : Inv M)  (hd : 0 ≤ d) (hq : ∀ (r : Int32), True → Q (some (.int r)) M L) : Wp d 119 0 [.int a] [] M L Q := by
  refine w_load (.iload_n 0) 1 (by decide +kernel) rfl rfl ?_
  refine w_pushN 4 2 (by decide +kernel) ?_
  refine w_rem 3 (by decide +kernel) (by decide) ?_
  exact w_ret (by decide +kernel) (hq _ trivial)
-- X7_leastOf
set_option maxRecDepth 10000 in
theorem k_116 {d : Nat} {M : Mt} {L : Lt} {Q : Option Value → Mt → Lt → Prop} {a : Int32} (hI : Inv M)  (hd : 1 ≤ d) (hq : ∀ (r : Int32), True → Q (some (.int r)) M L) : Wp d 116 0 [.int a, .null] [] M L Q := by
  refine w_pushN 0 1 (by decide +kernel) ?_
  refine w_store (ls' := [.int a, .int (nI 0)]) (.istore_n 1) 2 (by decide +kernel) rfl rfl ?_
  have LP_2 : ∀ (kk : Nat) (g1 : Nat), g1 ≤ 5 → 5 - g1 < kk → Wp d 116 2 [.int a, .int (nI g1)] [] M L Q := by
    intro kk
    induction kk with
    | zero => intro g1 hi0_2 hm_2; exact absurd hm_2 (Nat.not_lt_zero _)
    | succ kk ih_2 =>
      intro g1 hi0_2 hm_2
      refine w_load (.iload_n 1) 3 (by decide +kernel) rfl rfl ?_
      refine w_pushN 5 4 (by decide +kernel) ?_
      refine w_cgeN 23 7 (by decide +kernel) (by omega) (by omega) (fun h1 => ?_) (fun h1 => ?_)
      · skip
        refine w_push (-9) 25 (by decide +kernel) ?_
        exact w_ret (by decide +kernel) (hq _ trivial)
      · skip
        refine w_load (.iload_n 0) 8 (by decide +kernel) rfl rfl ?_
        refine w_load (.iload_n 1) 9 (by decide +kernel) rfl rfl ?_
        refine w_callS2 115 2 12 (by decide +kernel) (Nat.le_of_ble_eq_true rfl) rfl rfl (by decide) (by omega) ?_
        refine k_115 hI  (by omega) (fun r2 hr2 => ?_)
        dsimp only [Option.toList, List.cons_append, List.nil_append]
        refine w_ieq 17 15 (by decide +kernel) (fun h3 => ?_) (fun h3 => ?_)
        · skip
          refine w_iincN (z := 1) (g1 + 1) 20 (by decide +kernel) rfl (Nat.le_of_ble_eq_true rfl) rfl rfl ?_
          show Wp _ _ _ [.int a, .int (nI (g1 + 1))] _ _ _ _
          refine w_goto 2 (by decide +kernel) ?_
          exact ih_2 (g1 + 1) (by omega) (by omega)
        · skip
          refine w_load (.iload_n 1) 16 (by decide +kernel) rfl rfl ?_
          exact w_ret (by decide +kernel) (hq _ trivial)
  exact LP_2 _ 0 (by omega) (Nat.lt_succ_self _)
-- X6_begin
set_option maxRecDepth 10000 in
theorem k_66 {d : Nat} {M : Mt} {L : Lt} {Q : Option Value → Mt → Lt → Prop} {t : Nat} {h : Nat}  (hI : Inv M) (ht : Tl t) (hh : Hs h) (hd : 2 ≤ d) (hq : ∀ (N : Mt), St (fun i _ => t ≤ i ∧ i ≤ t + 4) M N → (N (t + 1) 2 = M h 2) → Q none N L) : Wp d 66 0 [.ref t, .ref h, .null] [] M L Q := by
  refine (show ∀ N : Mt, N = M → St (fun i _ => t ≤ i ∧ i ≤ t + 4) M N → Wp d 66 0 [.ref t, .ref h, .null] [] N L Q from ?_) M rfl (St.rf hI)
  intro N hNM hS
  refine w_load (.aload_n 0) 1 (by decide +kernel) rfl rfl ?_
  refine w_getR (k := 0) (r := t + 1) 4 (by decide +kernel) ht.1.1 rfl ?_
  refine w_load (.aload_n 1) 5 (by decide +kernel) rfl rfl ?_
  refine w_callV1 8 1 2 8 (by decide +kernel) ht.1.2.1.1 (Nat.le_of_ble_eq_true rfl) rfl (by decide) (by omega) ?_
  refine k_8 hS.1 (tl_h ht) hh (by omega) (fun Nr1 hTr1 hr1 => ?_)
  have hS := hS.tr hTr1 (by intro i k; first | exact rfl | omega | (dsimp only; omega) | (simp only [Hs, Tl, Sc, isHs, isScr, isTs] at *; omega))
  have hg5 : Nr1 (t + 1) 2 = M h 2 := by rw [hr1, hNM]; exact cpH_g
  dsimp only [Option.toList, List.nil_append]
  refine w_pushN 0 9 (by decide +kernel) ?_
  refine w_store (ls' := [.ref t, .ref h, .int (nI 0)]) (.istore_n 2) 10 (by decide +kernel) rfl rfl ?_
  have LP_10 : ∀ (kk : Nat) (N_10 : Mt) (g2 : Nat), St (fun i _ => t ≤ i ∧ i ≤ t + 4) M N_10 → g2 ≤ 5 → N_10 (t + 1) 2 = M h 2 → 5 - g2 < kk → Wp d 66 10 [.ref t, .ref h, .int (nI g2)] [] N_10 L Q := by
    intro kk
    induction kk with
    | zero => intro N_10 g2 hS hi0_10 hi1_10 hm_10; exact absurd hm_10 (Nat.not_lt_zero _)
    | succ kk ih_10 =>
      intro N_10 g2 hS hi0_10 hi1_10 hm_10
      refine w_load (.iload_n 2) 11 (by decide +kernel) rfl rfl ?_
      refine w_load (.aload_n 0) 12 (by decide +kernel) rfl rfl ?_
      refine w_getR (k := 1) (r := t + 4) 15 (by decide +kernel) ht.1.1 rfl ?_
      refine w_alen (nI 5) 16 (by decide +kernel) ht.1.2.2 (by decide) (by first | rfl | simp [nI]) ?_
      refine w_cgeN 39 19 (by decide +kernel) (by omega) (by omega) (fun h2 => ?_) (fun h2 => ?_)
      · skip
        refine w_load (.aload_n 0) 40 (by decide +kernel) rfl rfl ?_
        refine w_pushN 0 41 (by decide +kernel) ?_
        refine w_putE (k := 2) 44 (by decide +kernel) ht.1.1 rfl hS (Rg.free (by simp only [Hs, Tl, Sc, isScr, isHs, isTs] at *; omega)) (by first | exact rfl | omega | (dsimp only; omega) | (simp only [Hs, Tl, Sc, isHs, isScr, isTs] at *; omega)) (fun Nq3 hS hq3 oq3 mq3 => ?_)
        have kf4 := (oq3 (t + 1) 2 (by first | omega | (simp only [Hs, Tl, Sc, isHs, isScr, isTs] at *; omega))).trans hi1_10
        refine w_load (.aload_n 0) 45 (by decide +kernel) rfl rfl ?_
        refine w_pushN 0 46 (by decide +kernel) ?_
        refine w_putE (k := 3) 49 (by decide +kernel) ht.1.1 rfl hS (Rg.free (by simp only [Hs, Tl, Sc, isScr, isHs, isTs] at *; omega)) (by first | exact rfl | omega | (dsimp only; omega) | (simp only [Hs, Tl, Sc, isHs, isScr, isTs] at *; omega)) (fun Nq5 hS hq5 oq5 mq5 => ?_)
        have kf6 := (oq5 (t + 1) 2 (by first | omega | (simp only [Hs, Tl, Sc, isHs, isScr, isTs] at *; omega))).trans kf4
        exact w_retV (by decide +kernel) (hq Nq5 hS kf6)
      · skip
        refine w_load (.aload_n 0) 20 (by decide +kernel) rfl rfl ?_
        refine w_getR (k := 1) (r := t + 4) 23 (by decide +kernel) ht.1.1 rfl ?_
        refine w_load (.iload_n 2) 24 (by decide +kernel) rfl rfl ?_
        refine w_load (.aload_n 0) 25 (by decide +kernel) rfl rfl ?_
        refine w_getR (k := 0) (r := t + 1) 28 (by decide +kernel) ht.1.1 rfl ?_
        refine w_load (.iload_n 2) 29 (by decide +kernel) rfl rfl ?_
        refine w_callV1 15 1 2 32 (by decide +kernel) ht.1.2.1.1 (Nat.le_of_ble_eq_true rfl) rfl (by decide) (by omega) ?_
        refine k_15 hS.1 (tl_h ht) (by omega) (fun r7 hr7 => ?_)
        dsimp only [Option.toList, List.cons_append, List.nil_append]
        refine w_iastE 33 (by decide +kernel) ht.1.2.2 (by omega) (by omega) hS (Rg.free (by simp only [Hs, Tl, Sc, isScr, isHs, isTs] at *; omega)) (by first | exact rfl | omega | (dsimp only; omega) | (simp only [Hs, Tl, Sc, isHs, isScr, isTs] at *; omega)) (fun Nq8 hS hq8 oq8 mq8 => ?_)
        have kf9 := (oq8 (t + 1) 2 (by first | omega | (simp only [Hs, Tl, Sc, isHs, isScr, isTs] at *; omega))).trans hi1_10
        refine w_iincN (z := 2) (g2 + 1) 36 (by decide +kernel) rfl (Nat.le_of_ble_eq_true rfl) rfl rfl ?_
        show Wp _ _ _ [.ref t, .ref h, .int (nI (g2 + 1))] _ _ _ _
        refine w_goto 10 (by decide +kernel) ?_
        exact ih_10 Nq8 (g2 + 1) hS (by first | omega | assumption) (by first | omega | assumption) (by omega)
  exact LP_10 _ Nr1 0 hS (by first | omega | assumption) (by first | omega | assumption) (Nat.lt_succ_self _)
-- X6_copyFrom
set_option maxRecDepth 10000 in
theorem k_67 {d : Nat} {M : Mt} {L : Lt} {Q : Option Value → Mt → Lt → Prop} {t : Nat} {u : Nat}  (hI : Inv M) (ht : Tl t) (hu : Tl u) (hd : 1 ≤ d) (hq : ∀ (N : Mt), St (fun i _ => t ≤ i ∧ i ≤ t + 4) M N → True → Q none N L) : Wp d 67 0 [.ref t, .ref u] [] M L Q := by
  refine (show ∀ N : Mt, N = M → St (fun i _ => t ≤ i ∧ i ≤ t + 4) M N → Wp d 67 0 [.ref t, .ref u] [] N L Q from ?_) M rfl (St.rf hI)
  intro N hNM hS
  refine w_load (.aload_n 0) 1 (by decide +kernel) rfl rfl ?_
  refine w_getR (k := 0) (r := t + 1) 4 (by decide +kernel) ht.1.1 rfl ?_
  refine w_load (.aload_n 1) 5 (by decide +kernel) rfl rfl ?_
  refine w_getR (k := 0) (r := u + 1) 8 (by decide +kernel) hu.1.1 rfl ?_
  refine w_callV1 8 1 2 11 (by decide +kernel) ht.1.2.1.1 (Nat.le_of_ble_eq_true rfl) rfl (by decide) (by omega) ?_
  refine k_8 hS.1 (tl_h ht) (tl_h hu) (by omega) (fun Nr1 hTr1 hr1 => ?_)
  have hS := hS.tr hTr1 (by intro i k; first | exact rfl | omega | (dsimp only; omega) | (simp only [Hs, Tl, Sc, isHs, isScr, isTs] at *; omega))
  dsimp only [Option.toList, List.nil_append]
  refine w_load (.aload_n 1) 12 (by decide +kernel) rfl rfl ?_
  refine w_getR (k := 1) (r := u + 4) 15 (by decide +kernel) hu.1.1 rfl ?_
  refine w_pushN 0 16 (by decide +kernel) ?_
  refine w_load (.aload_n 0) 17 (by decide +kernel) rfl rfl ?_
  refine w_getR (k := 1) (r := t + 4) 20 (by decide +kernel) ht.1.1 rfl ?_
  refine w_pushN 0 21 (by decide +kernel) ?_
  refine w_load (.aload_n 0) 22 (by decide +kernel) rfl rfl ?_
  refine w_getR (k := 1) (r := t + 4) 25 (by decide +kernel) ht.1.1 rfl ?_
  refine w_alen (nI 5) 26 (by decide +kernel) ht.1.2.2 (by decide) (by first | rfl | simp [nI]) ?_
  refine w_acpyE 29 (by decide +kernel) hu.1.2.2 ht.1.2.2 (by omega) (by omega) (by omega) (by omega) (Nat.le_of_ble_eq_true rfl) hS (fun z hz1 hz2 => Rg.free (by simp only [Hs, Tl, Sc, isScr, isHs, isTs] at *; omega)) (by intro z hz1 hz2; first | exact rfl | omega | (dsimp only; omega) | (simp only [Hs, Tl, Sc, isHs, isScr, isTs] at *; omega)) (fun Nc1 hS hc1 => ?_)
  refine w_load (.aload_n 0) 30 (by decide +kernel) rfl rfl ?_
  refine w_load (.aload_n 1) 31 (by decide +kernel) rfl rfl ?_
  refine w_getI (k := 2) 34 (by decide +kernel) hu.1.1 rfl ?_
  refine w_putE (k := 2) 37 (by decide +kernel) ht.1.1 rfl hS (Rg.free (by simp only [Hs, Tl, Sc, isScr, isHs, isTs] at *; omega)) (by first | exact rfl | omega | (dsimp only; omega) | (simp only [Hs, Tl, Sc, isHs, isScr, isTs] at *; omega)) (fun Nq3 hS hq3 oq3 mq3 => ?_)
  refine w_load (.aload_n 0) 38 (by decide +kernel) rfl rfl ?_
  refine w_load (.aload_n 1) 39 (by decide +kernel) rfl rfl ?_
  refine w_getI (k := 3) 42 (by decide +kernel) hu.1.1 rfl ?_
  refine w_putE (k := 3) 45 (by decide +kernel) ht.1.1 rfl hS (Rg.free (by simp only [Hs, Tl, Sc, isScr, isHs, isTs] at *; omega)) (by first | exact rfl | omega | (dsimp only; omega) | (simp only [Hs, Tl, Sc, isHs, isScr, isTs] at *; omega)) (fun Nq4 hS hq4 oq4 mq4 => ?_)
  exact w_retV (by decide +kernel) (hq Nq4 hS trivial)
-- X6_fine
set_option maxRecDepth 10000 in
theorem k_74 {d : Nat} {M : Mt} {L : Lt} {Q : Option Value → Mt → Lt → Prop} {t : Nat} {g : Int32} (hI : Inv M) (ht : Tl t) (hd : 2 ≤ d) (hq : ∀ (N : Mt), St (fun i _ => i = t ∨ i = t + 2 ∨ i = t + 4) M N → True → Q none N L) : Wp d 74 0 [.ref t, .int g] [] M L Q := by
  refine (show ∀ N : Mt, N = M → St (fun i _ => i = t ∨ i = t + 2 ∨ i = t + 4) M N → Wp d 74 0 [.ref t, .int g] [] N L Q from ?_) M rfl (St.rf hI)
  intro N hNM hS
  refine w_load (.aload_n 0) 1 (by decide +kernel) rfl rfl ?_
  refine w_getR (k := 0) (r := t + 1) 4 (by decide +kernel) ht.1.1 rfl ?_
  refine w_load (.iload_n 1) 5 (by decide +kernel) rfl rfl ?_
  refine w_callV1 27 1 2 8 (by decide +kernel) ht.1.2.1.1 (Nat.le_of_ble_eq_true rfl) rfl (by decide) (by omega) ?_
  refine k_27 hS.1 (tl_h ht) (by omega) (fun Nr1 hTr1 hr1 => ?_)
  have hS := hS.tr hTr1 (by intro i k; first | exact rfl | omega | (dsimp only; omega) | (simp only [Hs, Tl, Sc, isHs, isScr, isTs] at *; omega))
  dsimp only [Option.toList, List.nil_append]
  refine w_load (.aload_n 0) 9 (by decide +kernel) rfl rfl ?_
  refine w_pure .dup 10 (by decide +kernel) rfl rfl ?_
  refine w_getI (k := 3) 13 (by decide +kernel) ht.1.1 rfl ?_
  refine w_pushN 1 14 (by decide +kernel) ?_
  refine w_pure .iadd 15 (by decide +kernel) rfl rfl ?_
  refine w_putE (k := 3) 18 (by decide +kernel) ht.1.1 rfl hS (Rg.free (by simp only [Hs, Tl, Sc, isScr, isHs, isTs] at *; omega)) (by first | exact rfl | omega | (dsimp only; omega) | (simp only [Hs, Tl, Sc, isHs, isScr, isTs] at *; omega)) (fun Nq2 hS hq2 oq2 mq2 => ?_)
  exact w_retV (by decide +kernel) (hq Nq2 hS trivial)
-- X6_doersOf
set_option maxRecDepth 10000 in
theorem k_70 {d : Nat} {M : Mt} {L : Lt} {Q : Option Value → Mt → Lt → Prop} {t : Nat} {a : Int32} (hI : Inv M) (ht : Tl t) (hd : 1 ≤ d) (hq : ∀ (r : Int32), True → Q (some (.int r)) M L) : Wp d 70 0 [.ref t, .int a, .null, .null] [] M L Q := by
  refine w_load (.aload_n 0) 1 (by decide +kernel) rfl rfl ?_
  refine w_getR (k := 0) (r := t + 1) 4 (by decide +kernel) ht.1.1 rfl ?_
  refine w_load (.iload_n 1) 5 (by decide +kernel) rfl rfl ?_
  refine w_callS1 118 1 8 (by decide +kernel) (Nat.le_of_ble_eq_true rfl) rfl (by decide) (by omega) ?_
  refine k_118 hI  (by omega) (fun r1 hr1 => ?_)
  dsimp only [Option.toList, List.cons_append, List.nil_append]
  refine w_callV1 24 1 4 11 (by decide +kernel) ht.1.2.1.1 (Nat.le_of_ble_eq_true rfl) rfl (by decide) (by omega) ?_
  refine k_24 hI (tl_h ht) (by omega) (fun r2 hr2 => ?_)
  dsimp only [Option.toList, List.cons_append, List.nil_append]
  refine w_store (ls' := [.ref t, .int a, .int r2, .null]) (.istore_n 2) 12 (by decide +kernel) rfl rfl ?_
  refine w_pushN 0 13 (by decide +kernel) ?_
  refine w_store (ls' := [.ref t, .int a, .int r2, .int (nI 0)]) (.istore_n 3) 14 (by decide +kernel) rfl rfl ?_
  have LP_14 : ∀ (kk : Nat) (x2_14 : Int32) (g3 : Nat), g3 ≤ 5 → 5 - g3 < kk → Wp d 70 14 [.ref t, .int a, .int x2_14, .int (nI g3)] [] M L Q := by
    intro kk
    induction kk with
    | zero => intro x2_14 g3 hi0_14 hm_14; exact absurd hm_14 (Nat.not_lt_zero _)
    | succ kk ih_14 =>
      intro x2_14 g3 hi0_14 hm_14
      refine w_load (.iload_n 3) 15 (by decide +kernel) rfl rfl ?_
      refine w_load (.aload_n 0) 16 (by decide +kernel) rfl rfl ?_
      refine w_getR (k := 1) (r := t + 4) 19 (by decide +kernel) ht.1.1 rfl ?_
      refine w_alen (nI 5) 20 (by decide +kernel) ht.1.2.2 (by decide) (by first | rfl | simp [nI]) ?_
      refine w_cgeN 46 23 (by decide +kernel) (by omega) (by omega) (fun h3 => ?_) (fun h3 => ?_)
      · skip
        refine w_load (.iload_n 2) 47 (by decide +kernel) rfl rfl ?_
        exact w_ret (by decide +kernel) (hq _ trivial)
      · skip
        refine w_load (.aload_n 0) 24 (by decide +kernel) rfl rfl ?_
        refine w_getR (k := 1) (r := t + 4) 27 (by decide +kernel) ht.1.1 rfl ?_
        refine w_load (.iload_n 3) 28 (by decide +kernel) rfl rfl ?_
        refine w_ialdN 29 (by decide +kernel) ht.1.2.2 (by omega) (by omega) ?_
        refine w_igt 40 32 (by decide +kernel) (fun h4 => ?_) (fun h4 => ?_)
        · skip
          refine w_iincN (z := 3) (g3 + 1) 43 (by decide +kernel) rfl (Nat.le_of_ble_eq_true rfl) rfl rfl ?_
          show Wp _ _ _ [.ref t, .int a, .int x2_14, .int (nI (g3 + 1))] _ _ _ _
          refine w_goto 14 (by decide +kernel) ?_
          exact ih_14 _ (g3 + 1) (by omega) (by omega)
        · skip
          refine w_load (.iload_n 2) 33 (by decide +kernel) rfl rfl ?_
          refine w_pushN 1 34 (by decide +kernel) ?_
          refine w_load (.iload_n 3) 35 (by decide +kernel) rfl rfl ?_
          refine w_pure .ishl 36 (by decide +kernel) rfl rfl ?_
          refine w_push (-1) 37 (by decide +kernel) ?_
          refine w_pure .ixor 38 (by decide +kernel) rfl rfl ?_
          refine w_pure .iand 39 (by decide +kernel) rfl rfl ?_
          refine w_topi (fun v5 ev5 => ?_)
          refine w_store (ls' := [.ref t, .int a, .int v5, .int (nI g3)]) (.istore_n 2) 40 (by decide +kernel) rfl rfl ?_
          refine w_iincN (z := 3) (g3 + 1) 43 (by decide +kernel) rfl (Nat.le_of_ble_eq_true rfl) rfl rfl ?_
          show Wp _ _ _ [.ref t, .int a, .int v5, .int (nI (g3 + 1))] _ _ _ _
          refine w_goto 14 (by decide +kernel) ?_
          exact ih_14 _ (g3 + 1) (by omega) (by omega)
  exact LP_14 _ _ 0 (by omega) (Nat.lt_succ_self _)
-- X6_othersOf
set_option maxRecDepth 10000 in
theorem k_71 {d : Nat} {M : Mt} {L : Lt} {Q : Option Value → Mt → Lt → Prop} {t : Nat} {a : Int32} {b : Int32} (hI : Inv M) (ht : Tl t) (hd : 1 ≤ d) (hq : ∀ (r : Int32), True → Q (some (.int r)) M L) : Wp d 71 0 [.ref t, .int a, .int b] [] M L Q := by
  refine w_load (.aload_n 0) 1 (by decide +kernel) rfl rfl ?_
  refine w_getR (k := 0) (r := t + 1) 4 (by decide +kernel) ht.1.1 rfl ?_
  refine w_load (.iload_n 1) 5 (by decide +kernel) rfl rfl ?_
  refine w_callS1 119 1 8 (by decide +kernel) (Nat.le_of_ble_eq_true rfl) rfl (by decide) (by omega) ?_
  refine k_119 hI  (by omega) (fun r1 hr1 => ?_)
  dsimp only [Option.toList, List.cons_append, List.nil_append]
  refine w_callV1 24 1 4 11 (by decide +kernel) ht.1.2.1.1 (Nat.le_of_ble_eq_true rfl) rfl (by decide) (by omega) ?_
  refine k_24 hI (tl_h ht) (by omega) (fun r2 hr2 => ?_)
  dsimp only [Option.toList, List.cons_append, List.nil_append]
  refine w_pushN 1 12 (by decide +kernel) ?_
  refine w_load (.iload_n 2) 13 (by decide +kernel) rfl rfl ?_
  refine w_pure .ishl 14 (by decide +kernel) rfl rfl ?_
  refine w_push (-1) 15 (by decide +kernel) ?_
  refine w_pure .ixor 16 (by decide +kernel) rfl rfl ?_
  refine w_pure .iand 17 (by decide +kernel) rfl rfl ?_
  exact w_ret (by decide +kernel) (hq _ trivial)
-- X6_failWithoutDoer
set_option maxRecDepth 10000 in
theorem k_72 {d : Nat} {M : Mt} {L : Lt} {Q : Option Value → Mt → Lt → Prop} {t : Nat} {a : Int32} (hI : Inv M) (ht : Tl t) (hd : 3 ≤ d) (hq : ∀ (N : Mt), St (fun i _ => i = t ∨ i = t + 2 ∨ i = t + 4) M N → True → Q none N L) : Wp d 72 0 [.ref t, .int a, .null] [] M L Q := by
  refine (show ∀ N : Mt, N = M → St (fun i _ => i = t ∨ i = t + 2 ∨ i = t + 4) M N → Wp d 72 0 [.ref t, .int a, .null] [] N L Q from ?_) M rfl (St.rf hI)
  intro N hNM hS
  refine w_load (.aload_n 0) 1 (by decide +kernel) rfl rfl ?_
  refine w_getR (k := 0) (r := t + 1) 4 (by decide +kernel) ht.1.1 rfl ?_
  refine w_load (.iload_n 1) 5 (by decide +kernel) rfl rfl ?_
  refine w_callS1 118 1 8 (by decide +kernel) (Nat.le_of_ble_eq_true rfl) rfl (by decide) (by omega) ?_
  refine k_118 hS.1  (by omega) (fun r1 hr1 => ?_)
  dsimp only [Option.toList, List.cons_append, List.nil_append]
  refine w_callV1 24 1 4 11 (by decide +kernel) ht.1.2.1.1 (Nat.le_of_ble_eq_true rfl) rfl (by decide) (by omega) ?_
  refine k_24 hS.1 (tl_h ht) (by omega) (fun r2 hr2 => ?_)
  dsimp only [Option.toList, List.cons_append, List.nil_append]
  refine w_store (ls' := [.ref t, .int a, .int r2]) (.istore_n 2) 12 (by decide +kernel) rfl rfl ?_
  refine w_load (.iload_n 2) 13 (by decide +kernel) rfl rfl ?_
  refine w_ieq 24 16 (by decide +kernel) (fun h3 => ?_) (fun h3 => ?_)
  · skip
    exact w_retV (by decide +kernel) (hq N hS trivial)
  · skip
    refine w_load (.aload_n 0) 17 (by decide +kernel) rfl rfl ?_
    refine w_load (.iload_n 2) 18 (by decide +kernel) rfl rfl ?_
    refine w_callS1 116 2 21 (by decide +kernel) (Nat.le_of_ble_eq_true rfl) rfl (by decide) (by omega) ?_
    refine k_116 hS.1  (by omega) (fun r4 hr4 => ?_)
    dsimp only [Option.toList, List.cons_append, List.nil_append]
    refine w_callV1 74 6 2 24 (by decide +kernel) ht.1.1 (Nat.le_of_ble_eq_true rfl) rfl (by decide) (by omega) ?_
    refine k_74 hS.1 ht (by omega) (fun Nr5 hTr5 hr5 => ?_)
    have hS := hS.tr hTr5 (by intro i k; first | exact rfl | omega | (dsimp only; omega) | (simp only [Hs, Tl, Sc, isHs, isScr, isTs] at *; omega))
    dsimp only [Option.toList, List.nil_append]
    exact w_retV (by decide +kernel) (hq Nr5 hS trivial)
-- X6_attempt
set_option maxRecDepth 10000 in
theorem k_73 {d : Nat} {M : Mt} {L : Lt} {Q : Option Value → Mt → Lt → Prop} {t : Nat} {a : Int32} {b : Int32} {g : Int32} {o : Int32} (hI : Inv M) (ht : Tl t) (hd : 3 ≤ d) (hq : ∀ (N : Mt), St (fun i _ => i = t ∨ i = t + 2 ∨ i = t + 4) M N → True → Q none N L) : Wp d 73 0 [.ref t, .int a, .int b, .int g, .int o, .null] [] M L Q := by
  refine (show ∀ N : Mt, N = M → St (fun i _ => i = t ∨ i = t + 2 ∨ i = t + 4) M N → Wp d 73 0 [.ref t, .int a, .int b, .int g, .int o, .null] [] N L Q from ?_) M rfl (St.rf hI)
  intro N hNM hS
  refine w_pushN 1 1 (by decide +kernel) ?_
  refine w_store (ls' := [.ref t, .int a, .int b, .int g, .int o, .int (nI 1)]) (.istore 5) 3 (by decide +kernel) rfl rfl ?_
  refine w_load (.iload_n 1) 4 (by decide +kernel) rfl rfl ?_
  refine w_callS1 117 1 7 (by decide +kernel) (Nat.le_of_ble_eq_true rfl) rfl (by decide) (by omega) ?_
  refine k_117 hS.1  (by omega) (fun r1 hr1 => ?_)
  dsimp only [Option.toList, List.cons_append, List.nil_append]
  refine w_tab (show insAt 73 7 = some (.tableswitch 67 0 2 #[25, 37, 52]) by decide +kernel) (fun h2 => ⟨74, rfl, ?_⟩) (fun z3 h2 h2b => ?_)
  · skip
    refine w_load (.aload_n 0) 75 (by decide +kernel) rfl rfl ?_
    refine w_getR (k := 0) (r := t + 1) 78 (by decide +kernel) ht.1.1 rfl ?_
    refine w_load (.iload_n 3) 79 (by decide +kernel) rfl rfl ?_
    refine w_load (.iload_n 1) 80 (by decide +kernel) rfl rfl ?_
    refine w_callS1 119 1 83 (by decide +kernel) (Nat.le_of_ble_eq_true rfl) rfl (by decide) (by omega) ?_
    refine k_119 hS.1  (by omega) (fun r4 hr4 => ?_)
    dsimp only [Option.toList, List.cons_append, List.nil_append]
    refine w_callV2 26 1 3 86 (by decide +kernel) ht.1.2.1.1 (Nat.le_of_ble_eq_true rfl) rfl rfl (by decide) (by omega) ?_
    refine k_26 hS.1 (tl_h ht) (by omega) (fun Nr5 hTr5 hr5 => ?_)
    have hS := hS.tr hTr5 (by intro i k; first | exact rfl | omega | (dsimp only; omega) | (simp only [Hs, Tl, Sc, isHs, isScr, isTs] at *; omega))
    dsimp only [Option.toList, List.nil_append]
    refine w_load (.iload 5) 88 (by decide +kernel) rfl rfl ?_
    refine w_ieq 127 91 (by decide +kernel) (fun hz => absurd hz (by decide)) (fun _ => ?_)
    refine w_load (.aload_n 0) 92 (by decide +kernel) rfl rfl ?_
    refine w_getR (k := 0) (r := t + 1) 95 (by decide +kernel) ht.1.1 rfl ?_
    refine w_load (.iload_n 3) 96 (by decide +kernel) rfl rfl ?_
    refine w_callV1 11 1 2 99 (by decide +kernel) ht.1.2.1.1 (Nat.le_of_ble_eq_true rfl) rfl (by decide) (by omega) ?_
    obtain ⟨n7, hn7, en7⟩ := inv_h hS.1 (tl_h ht)
    refine k_11 hS.1 (tl_h ht) (by omega) en7 (by omega) (fun r8 hr8 => ?_)
    dsimp only [Option.toList, List.cons_append, List.nil_append]
    rcases hr8 with ⟨rfl, k9, hk9, rfl⟩ | ⟨rfl, hnok9⟩
    · skip
      refine w_ieq 127 102 (by decide +kernel) (fun hz => absurd hz (by decide)) (fun _ => ?_)
      refine w_load (.aload_n 0) 103 (by decide +kernel) rfl rfl ?_
      refine w_getR (k := 1) (r := t + 4) 106 (by decide +kernel) ht.1.1 rfl ?_
      refine w_load (.iload_n 3) 107 (by decide +kernel) rfl rfl ?_
      refine w_pure .dup2 108 (by decide +kernel) rfl rfl ?_
      refine w_ialdN 109 (by decide +kernel) ht.1.2.2 (by omega) (by omega) ?_
      refine w_pushN 1 110 (by decide +kernel) ?_
      refine w_pure .isub 111 (by decide +kernel) rfl rfl ?_
      refine w_iastE 112 (by decide +kernel) ht.1.2.2 (by omega) (by omega) hS (Rg.free (by simp only [Hs, Tl, Sc, isScr, isHs, isTs] at *; omega)) (by first | exact rfl | omega | (dsimp only; omega) | (simp only [Hs, Tl, Sc, isHs, isScr, isTs] at *; omega)) (fun Nq11 hS hq11 oq11 mq11 => ?_)
      have kn12 := (oq11 (t + 1) 2 (by first | omega | (simp only [Hs, Tl, Sc, isHs, isScr, isTs] at *; omega))).trans en7
      refine w_load (.aload_n 0) 113 (by decide +kernel) rfl rfl ?_
      refine w_pure .dup 114 (by decide +kernel) rfl rfl ?_
      refine w_getI (k := 2) 117 (by decide +kernel) ht.1.1 rfl ?_
      refine w_pushN 1 118 (by decide +kernel) ?_
      refine w_load (.iload_n 2) 119 (by decide +kernel) rfl rfl ?_
      refine w_pure .ishl 120 (by decide +kernel) rfl rfl ?_
      refine w_pure .ior 121 (by decide +kernel) rfl rfl ?_
      refine w_putE (k := 2) 124 (by decide +kernel) ht.1.1 rfl hS (Rg.free (by simp only [Hs, Tl, Sc, isScr, isHs, isTs] at *; omega)) (by first | exact rfl | omega | (dsimp only; omega) | (simp only [Hs, Tl, Sc, isHs, isScr, isTs] at *; omega)) (fun Nq13 hS hq13 oq13 mq13 => ?_)
      refine w_goto 132 (by decide +kernel) ?_
      exact w_retV (by decide +kernel) (hq Nq13 hS trivial)
    · skip
      refine w_ieq 127 102 (by decide +kernel) (fun _ => ?_) (fun hz => absurd hz (by decide))
      refine w_load (.aload_n 0) 128 (by decide +kernel) rfl rfl ?_
      refine w_load (.iload_n 3) 129 (by decide +kernel) rfl rfl ?_
      refine w_callV1 74 6 2 132 (by decide +kernel) ht.1.1 (Nat.le_of_ble_eq_true rfl) rfl (by decide) (by omega) ?_
      refine k_74 hS.1 ht (by omega) (fun Nr15 hTr15 hr15 => ?_)
      have hS := hS.tr hTr15 (by intro i k; first | exact rfl | omega | (dsimp only; omega) | (simp only [Hs, Tl, Sc, isHs, isScr, isTs] at *; omega))
      dsimp only [Option.toList, List.nil_append]
      exact w_retV (by decide +kernel) (hq Nr15 hS trivial)
  · rcases (by omega : z3 = 0 ∨ z3 = 1 ∨ z3 = 2) with rfl | rfl | rfl
    · refine ⟨_, 32, rfl, rfl, ?_⟩
      refine w_load (.aload_n 0) 33 (by decide +kernel) rfl rfl ?_
      refine w_getR (k := 0) (r := t + 1) 36 (by decide +kernel) ht.1.1 rfl ?_
      refine w_load (.iload 4) 38 (by decide +kernel) rfl rfl ?_
      refine w_callV1 30 1 3 41 (by decide +kernel) ht.1.2.1.1 (Nat.le_of_ble_eq_true rfl) rfl (by decide) (by omega) ?_
      refine k_30 hS.1 (tl_h ht) (by omega) (fun Nr16 hTr16 hr16 => ?_)
      have hS := hS.tr hTr16 (by intro i k; first | exact rfl | omega | (dsimp only; omega) | (simp only [Hs, Tl, Sc, isHs, isScr, isTs] at *; omega))
      dsimp only [Option.toList, List.nil_append]
      refine w_goto 86 (by decide +kernel) ?_
      refine w_load (.iload 5) 88 (by decide +kernel) rfl rfl ?_
      refine w_ieq 127 91 (by decide +kernel) (fun hz => absurd hz (by decide)) (fun _ => ?_)
      refine w_load (.aload_n 0) 92 (by decide +kernel) rfl rfl ?_
      refine w_getR (k := 0) (r := t + 1) 95 (by decide +kernel) ht.1.1 rfl ?_
      refine w_load (.iload_n 3) 96 (by decide +kernel) rfl rfl ?_
      refine w_callV1 11 1 2 99 (by decide +kernel) ht.1.2.1.1 (Nat.le_of_ble_eq_true rfl) rfl (by decide) (by omega) ?_
      obtain ⟨n18, hn18, en18⟩ := inv_h hS.1 (tl_h ht)
      refine k_11 hS.1 (tl_h ht) (by omega) en18 (by omega) (fun r19 hr19 => ?_)
      dsimp only [Option.toList, List.cons_append, List.nil_append]
      rcases hr19 with ⟨rfl, k20, hk20, rfl⟩ | ⟨rfl, hnok20⟩
      · skip
        refine w_ieq 127 102 (by decide +kernel) (fun hz => absurd hz (by decide)) (fun _ => ?_)
        refine w_load (.aload_n 0) 103 (by decide +kernel) rfl rfl ?_
        refine w_getR (k := 1) (r := t + 4) 106 (by decide +kernel) ht.1.1 rfl ?_
        refine w_load (.iload_n 3) 107 (by decide +kernel) rfl rfl ?_
        refine w_pure .dup2 108 (by decide +kernel) rfl rfl ?_
        refine w_ialdN 109 (by decide +kernel) ht.1.2.2 (by omega) (by omega) ?_
        refine w_pushN 1 110 (by decide +kernel) ?_
        refine w_pure .isub 111 (by decide +kernel) rfl rfl ?_
        refine w_iastE 112 (by decide +kernel) ht.1.2.2 (by omega) (by omega) hS (Rg.free (by simp only [Hs, Tl, Sc, isScr, isHs, isTs] at *; omega)) (by first | exact rfl | omega | (dsimp only; omega) | (simp only [Hs, Tl, Sc, isHs, isScr, isTs] at *; omega)) (fun Nq22 hS hq22 oq22 mq22 => ?_)
        have kn23 := (oq22 (t + 1) 2 (by first | omega | (simp only [Hs, Tl, Sc, isHs, isScr, isTs] at *; omega))).trans en18
        refine w_load (.aload_n 0) 113 (by decide +kernel) rfl rfl ?_
        refine w_pure .dup 114 (by decide +kernel) rfl rfl ?_
        refine w_getI (k := 2) 117 (by decide +kernel) ht.1.1 rfl ?_
        refine w_pushN 1 118 (by decide +kernel) ?_
        refine w_load (.iload_n 2) 119 (by decide +kernel) rfl rfl ?_
        refine w_pure .ishl 120 (by decide +kernel) rfl rfl ?_
        refine w_pure .ior 121 (by decide +kernel) rfl rfl ?_
        refine w_putE (k := 2) 124 (by decide +kernel) ht.1.1 rfl hS (Rg.free (by simp only [Hs, Tl, Sc, isScr, isHs, isTs] at *; omega)) (by first | exact rfl | omega | (dsimp only; omega) | (simp only [Hs, Tl, Sc, isHs, isScr, isTs] at *; omega)) (fun Nq24 hS hq24 oq24 mq24 => ?_)
        refine w_goto 132 (by decide +kernel) ?_
        exact w_retV (by decide +kernel) (hq Nq24 hS trivial)
      · skip
        refine w_ieq 127 102 (by decide +kernel) (fun _ => ?_) (fun hz => absurd hz (by decide))
        refine w_load (.aload_n 0) 128 (by decide +kernel) rfl rfl ?_
        refine w_load (.iload_n 3) 129 (by decide +kernel) rfl rfl ?_
        refine w_callV1 74 6 2 132 (by decide +kernel) ht.1.1 (Nat.le_of_ble_eq_true rfl) rfl (by decide) (by omega) ?_
        refine k_74 hS.1 ht (by omega) (fun Nr26 hTr26 hr26 => ?_)
        have hS := hS.tr hTr26 (by intro i k; first | exact rfl | omega | (dsimp only; omega) | (simp only [Hs, Tl, Sc, isHs, isScr, isTs] at *; omega))
        dsimp only [Option.toList, List.nil_append]
        exact w_retV (by decide +kernel) (hq Nr26 hS trivial)
    · refine ⟨_, 44, rfl, rfl, ?_⟩
      refine w_load (.aload_n 0) 45 (by decide +kernel) rfl rfl ?_
      refine w_getR (k := 0) (r := t + 1) 48 (by decide +kernel) ht.1.1 rfl ?_
      refine w_load (.iload_n 3) 49 (by decide +kernel) rfl rfl ?_
      refine w_load (.iload 4) 51 (by decide +kernel) rfl rfl ?_
      refine w_callV2 29 1 3 54 (by decide +kernel) ht.1.2.1.1 (Nat.le_of_ble_eq_true rfl) rfl rfl (by decide) (by omega) ?_
      refine k_29 hS.1 (tl_h ht) (by omega) (fun r27 Nr27 hTr27 hr27 => ?_)
      have hS := hS.tr hTr27 (by intro i k; first | exact rfl | omega | (dsimp only; omega) | (simp only [Hs, Tl, Sc, isHs, isScr, isTs] at *; omega))
      dsimp only [Option.toList, List.cons_append, List.nil_append]
      refine w_store (ls' := [.ref t, .int a, .int b, .int g, .int o, .int r27]) (.istore 5) 56 (by decide +kernel) rfl rfl ?_
      refine w_goto 86 (by decide +kernel) ?_
      refine w_load (.iload 5) 88 (by decide +kernel) rfl rfl ?_
      refine w_ieq 127 91 (by decide +kernel) (fun h28 => ?_) (fun h28 => ?_)
      · skip
        refine w_load (.aload_n 0) 128 (by decide +kernel) rfl rfl ?_
        refine w_load (.iload_n 3) 129 (by decide +kernel) rfl rfl ?_
        refine w_callV1 74 6 2 132 (by decide +kernel) ht.1.1 (Nat.le_of_ble_eq_true rfl) rfl (by decide) (by omega) ?_
        refine k_74 hS.1 ht (by omega) (fun Nr29 hTr29 hr29 => ?_)
        have hS := hS.tr hTr29 (by intro i k; first | exact rfl | omega | (dsimp only; omega) | (simp only [Hs, Tl, Sc, isHs, isScr, isTs] at *; omega))
        dsimp only [Option.toList, List.nil_append]
        exact w_retV (by decide +kernel) (hq Nr29 hS trivial)
      · skip
        refine w_load (.aload_n 0) 92 (by decide +kernel) rfl rfl ?_
        refine w_getR (k := 0) (r := t + 1) 95 (by decide +kernel) ht.1.1 rfl ?_
        refine w_load (.iload_n 3) 96 (by decide +kernel) rfl rfl ?_
        refine w_callV1 11 1 2 99 (by decide +kernel) ht.1.2.1.1 (Nat.le_of_ble_eq_true rfl) rfl (by decide) (by omega) ?_
        obtain ⟨n30, hn30, en30⟩ := inv_h hS.1 (tl_h ht)
        refine k_11 hS.1 (tl_h ht) (by omega) en30 (by omega) (fun r31 hr31 => ?_)
        dsimp only [Option.toList, List.cons_append, List.nil_append]
        rcases hr31 with ⟨rfl, k32, hk32, rfl⟩ | ⟨rfl, hnok32⟩
        · skip
          refine w_ieq 127 102 (by decide +kernel) (fun hz => absurd hz (by decide)) (fun _ => ?_)
          refine w_load (.aload_n 0) 103 (by decide +kernel) rfl rfl ?_
          refine w_getR (k := 1) (r := t + 4) 106 (by decide +kernel) ht.1.1 rfl ?_
          refine w_load (.iload_n 3) 107 (by decide +kernel) rfl rfl ?_
          refine w_pure .dup2 108 (by decide +kernel) rfl rfl ?_
          refine w_ialdN 109 (by decide +kernel) ht.1.2.2 (by omega) (by omega) ?_
          refine w_pushN 1 110 (by decide +kernel) ?_
          refine w_pure .isub 111 (by decide +kernel) rfl rfl ?_
          refine w_iastE 112 (by decide +kernel) ht.1.2.2 (by omega) (by omega) hS (Rg.free (by simp only [Hs, Tl, Sc, isScr, isHs, isTs] at *; omega)) (by first | exact rfl | omega | (dsimp only; omega) | (simp only [Hs, Tl, Sc, isHs, isScr, isTs] at *; omega)) (fun Nq34 hS hq34 oq34 mq34 => ?_)
          have kn35 := (oq34 (t + 1) 2 (by first | omega | (simp only [Hs, Tl, Sc, isHs, isScr, isTs] at *; omega))).trans en30
          refine w_load (.aload_n 0) 113 (by decide +kernel) rfl rfl ?_
          refine w_pure .dup 114 (by decide +kernel) rfl rfl ?_
          refine w_getI (k := 2) 117 (by decide +kernel) ht.1.1 rfl ?_
          refine w_pushN 1 118 (by decide +kernel) ?_
          refine w_load (.iload_n 2) 119 (by decide +kernel) rfl rfl ?_
          refine w_pure .ishl 120 (by decide +kernel) rfl rfl ?_
          refine w_pure .ior 121 (by decide +kernel) rfl rfl ?_
          refine w_putE (k := 2) 124 (by decide +kernel) ht.1.1 rfl hS (Rg.free (by simp only [Hs, Tl, Sc, isScr, isHs, isTs] at *; omega)) (by first | exact rfl | omega | (dsimp only; omega) | (simp only [Hs, Tl, Sc, isHs, isScr, isTs] at *; omega)) (fun Nq36 hS hq36 oq36 mq36 => ?_)
          refine w_goto 132 (by decide +kernel) ?_
          exact w_retV (by decide +kernel) (hq Nq36 hS trivial)
        · skip
          refine w_ieq 127 102 (by decide +kernel) (fun _ => ?_) (fun hz => absurd hz (by decide))
          refine w_load (.aload_n 0) 128 (by decide +kernel) rfl rfl ?_
          refine w_load (.iload_n 3) 129 (by decide +kernel) rfl rfl ?_
          refine w_callV1 74 6 2 132 (by decide +kernel) ht.1.1 (Nat.le_of_ble_eq_true rfl) rfl (by decide) (by omega) ?_
          refine k_74 hS.1 ht (by omega) (fun Nr38 hTr38 hr38 => ?_)
          have hS := hS.tr hTr38 (by intro i k; first | exact rfl | omega | (dsimp only; omega) | (simp only [Hs, Tl, Sc, isHs, isScr, isTs] at *; omega))
          dsimp only [Option.toList, List.nil_append]
          exact w_retV (by decide +kernel) (hq Nr38 hS trivial)
    · refine ⟨_, 59, rfl, rfl, ?_⟩
      refine w_load (.aload_n 0) 60 (by decide +kernel) rfl rfl ?_
      refine w_getR (k := 0) (r := t + 1) 63 (by decide +kernel) ht.1.1 rfl ?_
      refine w_load (.iload_n 3) 64 (by decide +kernel) rfl rfl ?_
      refine w_load (.iload 4) 66 (by decide +kernel) rfl rfl ?_
      refine w_callV2 28 1 3 69 (by decide +kernel) ht.1.2.1.1 (Nat.le_of_ble_eq_true rfl) rfl rfl (by decide) (by omega) ?_
      refine k_28 hS.1 (tl_h ht) (by omega) (fun r39 Nr39 hTr39 hr39 => ?_)
      have hS := hS.tr hTr39 (by intro i k; first | exact rfl | omega | (dsimp only; omega) | (simp only [Hs, Tl, Sc, isHs, isScr, isTs] at *; omega))
      dsimp only [Option.toList, List.cons_append, List.nil_append]
      refine w_store (ls' := [.ref t, .int a, .int b, .int g, .int o, .int r39]) (.istore 5) 71 (by decide +kernel) rfl rfl ?_
      refine w_goto 86 (by decide +kernel) ?_
      refine w_load (.iload 5) 88 (by decide +kernel) rfl rfl ?_
      refine w_ieq 127 91 (by decide +kernel) (fun h40 => ?_) (fun h40 => ?_)
      · skip
        refine w_load (.aload_n 0) 128 (by decide +kernel) rfl rfl ?_
        refine w_load (.iload_n 3) 129 (by decide +kernel) rfl rfl ?_
        refine w_callV1 74 6 2 132 (by decide +kernel) ht.1.1 (Nat.le_of_ble_eq_true rfl) rfl (by decide) (by omega) ?_
        refine k_74 hS.1 ht (by omega) (fun Nr41 hTr41 hr41 => ?_)
        have hS := hS.tr hTr41 (by intro i k; first | exact rfl | omega | (dsimp only; omega) | (simp only [Hs, Tl, Sc, isHs, isScr, isTs] at *; omega))
        dsimp only [Option.toList, List.nil_append]
        exact w_retV (by decide +kernel) (hq Nr41 hS trivial)
      · skip
        refine w_load (.aload_n 0) 92 (by decide +kernel) rfl rfl ?_
        refine w_getR (k := 0) (r := t + 1) 95 (by decide +kernel) ht.1.1 rfl ?_
        refine w_load (.iload_n 3) 96 (by decide +kernel) rfl rfl ?_
        refine w_callV1 11 1 2 99 (by decide +kernel) ht.1.2.1.1 (Nat.le_of_ble_eq_true rfl) rfl (by decide) (by omega) ?_
        obtain ⟨n42, hn42, en42⟩ := inv_h hS.1 (tl_h ht)
        refine k_11 hS.1 (tl_h ht) (by omega) en42 (by omega) (fun r43 hr43 => ?_)
        dsimp only [Option.toList, List.cons_append, List.nil_append]
        rcases hr43 with ⟨rfl, k44, hk44, rfl⟩ | ⟨rfl, hnok44⟩
        · skip
          refine w_ieq 127 102 (by decide +kernel) (fun hz => absurd hz (by decide)) (fun _ => ?_)
          refine w_load (.aload_n 0) 103 (by decide +kernel) rfl rfl ?_
          refine w_getR (k := 1) (r := t + 4) 106 (by decide +kernel) ht.1.1 rfl ?_
          refine w_load (.iload_n 3) 107 (by decide +kernel) rfl rfl ?_
          refine w_pure .dup2 108 (by decide +kernel) rfl rfl ?_
          refine w_ialdN 109 (by decide +kernel) ht.1.2.2 (by omega) (by omega) ?_
          refine w_pushN 1 110 (by decide +kernel) ?_
          refine w_pure .isub 111 (by decide +kernel) rfl rfl ?_
          refine w_iastE 112 (by decide +kernel) ht.1.2.2 (by omega) (by omega) hS (Rg.free (by simp only [Hs, Tl, Sc, isScr, isHs, isTs] at *; omega)) (by first | exact rfl | omega | (dsimp only; omega) | (simp only [Hs, Tl, Sc, isHs, isScr, isTs] at *; omega)) (fun Nq46 hS hq46 oq46 mq46 => ?_)
          have kn47 := (oq46 (t + 1) 2 (by first | omega | (simp only [Hs, Tl, Sc, isHs, isScr, isTs] at *; omega))).trans en42
          refine w_load (.aload_n 0) 113 (by decide +kernel) rfl rfl ?_
          refine w_pure .dup 114 (by decide +kernel) rfl rfl ?_
          refine w_getI (k := 2) 117 (by decide +kernel) ht.1.1 rfl ?_
          refine w_pushN 1 118 (by decide +kernel) ?_
          refine w_load (.iload_n 2) 119 (by decide +kernel) rfl rfl ?_
          refine w_pure .ishl 120 (by decide +kernel) rfl rfl ?_
          refine w_pure .ior 121 (by decide +kernel) rfl rfl ?_
          refine w_putE (k := 2) 124 (by decide +kernel) ht.1.1 rfl hS (Rg.free (by simp only [Hs, Tl, Sc, isScr, isHs, isTs] at *; omega)) (by first | exact rfl | omega | (dsimp only; omega) | (simp only [Hs, Tl, Sc, isHs, isScr, isTs] at *; omega)) (fun Nq48 hS hq48 oq48 mq48 => ?_)
          refine w_goto 132 (by decide +kernel) ?_
          exact w_retV (by decide +kernel) (hq Nq48 hS trivial)
        · skip
          refine w_ieq 127 102 (by decide +kernel) (fun _ => ?_) (fun hz => absurd hz (by decide))
          refine w_load (.aload_n 0) 128 (by decide +kernel) rfl rfl ?_
          refine w_load (.iload_n 3) 129 (by decide +kernel) rfl rfl ?_
          refine w_callV1 74 6 2 132 (by decide +kernel) ht.1.1 (Nat.le_of_ble_eq_true rfl) rfl (by decide) (by omega) ?_
          refine k_74 hS.1 ht (by omega) (fun Nr50 hTr50 hr50 => ?_)
          have hS := hS.tr hTr50 (by intro i k; first | exact rfl | omega | (dsimp only; omega) | (simp only [Hs, Tl, Sc, isHs, isScr, isTs] at *; omega))
          dsimp only [Option.toList, List.nil_append]
          exact w_retV (by decide +kernel) (hq Nr50 hS trivial)
-- X6_hear
set_option maxRecDepth 10000 in
theorem k_69 {d : Nat} {M : Mt} {L : Lt} {Q : Option Value → Mt → Lt → Prop} {t : Nat} {a : Int32} {b : Int32} (hI : Inv M) (ht : Tl t) (hd : 4 ≤ d) (hq : ∀ (N : Mt), St (fun i _ => i = t ∨ i = t + 2 ∨ i = t + 4) M N → True → Q none N L) : Wp d 69 0 [.ref t, .int a, .int b, .null, .null, .null] [] M L Q := by
  refine (show ∀ N : Mt, N = M → St (fun i _ => i = t ∨ i = t + 2 ∨ i = t + 4) M N → Wp d 69 0 [.ref t, .int a, .int b, .null, .null, .null] [] N L Q from ?_) M rfl (St.rf hI)
  intro N hNM hS
  refine w_load (.aload_n 0) 1 (by decide +kernel) rfl rfl ?_
  refine w_load (.iload_n 1) 2 (by decide +kernel) rfl rfl ?_
  refine w_callV1 70 6 4 5 (by decide +kernel) ht.1.1 (Nat.le_of_ble_eq_true rfl) rfl (by decide) (by omega) ?_
  refine k_70 hS.1 ht (by omega) (fun r1 hr1 => ?_)
  dsimp only [Option.toList, List.cons_append, List.nil_append]
  refine w_store (ls' := [.ref t, .int a, .int b, .int r1, .null, .null]) (.istore_n 3) 6 (by decide +kernel) rfl rfl ?_
  refine w_load (.iload_n 3) 7 (by decide +kernel) rfl rfl ?_
  refine w_ine 16 10 (by decide +kernel) (fun h2 => ?_) (fun h2 => ?_)
  · skip
    refine w_load (.iload_n 3) 17 (by decide +kernel) rfl rfl ?_
    refine w_callS1 116 2 20 (by decide +kernel) (Nat.le_of_ble_eq_true rfl) rfl (by decide) (by omega) ?_
    refine k_116 hS.1  (by omega) (fun r3 hr3 => ?_)
    dsimp only [Option.toList, List.cons_append, List.nil_append]
    refine w_store (ls' := [.ref t, .int a, .int b, .int r1, .int r3, .null]) (.istore 4) 22 (by decide +kernel) rfl rfl ?_
    refine w_load (.aload_n 0) 23 (by decide +kernel) rfl rfl ?_
    refine w_load (.iload_n 1) 24 (by decide +kernel) rfl rfl ?_
    refine w_load (.iload 4) 26 (by decide +kernel) rfl rfl ?_
    refine w_callV2 71 6 3 29 (by decide +kernel) ht.1.1 (Nat.le_of_ble_eq_true rfl) rfl rfl (by decide) (by omega) ?_
    refine k_71 hS.1 ht (by omega) (fun r4 hr4 => ?_)
    dsimp only [Option.toList, List.cons_append, List.nil_append]
    refine w_store (ls' := [.ref t, .int a, .int b, .int r1, .int r3, .int r4]) (.istore 5) 31 (by decide +kernel) rfl rfl ?_
    refine w_load (.iload 5) 33 (by decide +kernel) rfl rfl ?_
    refine w_ine 45 36 (by decide +kernel) (fun h5 => ?_) (fun h5 => ?_)
    · skip
      refine w_load (.aload_n 0) 46 (by decide +kernel) rfl rfl ?_
      refine w_load (.iload_n 1) 47 (by decide +kernel) rfl rfl ?_
      refine w_load (.iload_n 2) 48 (by decide +kernel) rfl rfl ?_
      refine w_load (.iload 4) 50 (by decide +kernel) rfl rfl ?_
      refine w_load (.iload 5) 52 (by decide +kernel) rfl rfl ?_
      refine w_callS1 116 2 55 (by decide +kernel) (Nat.le_of_ble_eq_true rfl) rfl (by decide) (by omega) ?_
      refine k_116 hS.1  (by omega) (fun r6 hr6 => ?_)
      dsimp only [Option.toList, List.cons_append, List.nil_append]
      refine w_callV4 73 6 6 58 (by decide +kernel) ht.1.1 (Nat.le_of_ble_eq_true rfl) rfl rfl rfl rfl (by decide) (by omega) ?_
      refine k_73 hS.1 ht (by omega) (fun Nr7 hTr7 hr7 => ?_)
      have hS := hS.tr hTr7 (by intro i k; first | exact rfl | omega | (dsimp only; omega) | (simp only [Hs, Tl, Sc, isHs, isScr, isTs] at *; omega))
      dsimp only [Option.toList, List.nil_append]
      exact w_retV (by decide +kernel) (hq Nr7 hS trivial)
    · skip
      refine w_load (.aload_n 0) 37 (by decide +kernel) rfl rfl ?_
      refine w_load (.iload 4) 39 (by decide +kernel) rfl rfl ?_
      refine w_callV1 74 6 2 42 (by decide +kernel) ht.1.1 (Nat.le_of_ble_eq_true rfl) rfl (by decide) (by omega) ?_
      refine k_74 hS.1 ht (by omega) (fun Nr8 hTr8 hr8 => ?_)
      have hS := hS.tr hTr8 (by intro i k; first | exact rfl | omega | (dsimp only; omega) | (simp only [Hs, Tl, Sc, isHs, isScr, isTs] at *; omega))
      dsimp only [Option.toList, List.nil_append]
      refine w_goto 58 (by decide +kernel) ?_
      exact w_retV (by decide +kernel) (hq Nr8 hS trivial)
  · skip
    refine w_load (.aload_n 0) 11 (by decide +kernel) rfl rfl ?_
    refine w_load (.iload_n 1) 12 (by decide +kernel) rfl rfl ?_
    refine w_callV1 72 6 3 15 (by decide +kernel) ht.1.1 (Nat.le_of_ble_eq_true rfl) rfl (by decide) (by omega) ?_
    refine k_72 hS.1 ht (by omega) (fun Nr9 hTr9 hr9 => ?_)
    have hS := hS.tr hTr9 (by intro i k; first | exact rfl | omega | (dsimp only; omega) | (simp only [Hs, Tl, Sc, isHs, isScr, isTs] at *; omega))
    dsimp only [Option.toList, List.nil_append]
    exact w_retV (by decide +kernel) (hq Nr9 hS trivial)
-- X6_hearAll
set_option maxRecDepth 10000 in
theorem k_68 {d : Nat} {M : Mt} {L : Lt} {Q : Option Value → Mt → Lt → Prop} {t : Nat} {h s : Nat}  (hI : Inv M) (ht : Tl t) (hh : Hs h) (hc : Sc s) (hd : 5 ≤ d) (hq : ∀ (N : Mt), St (fun i _ => t ≤ i ∧ i ≤ t + 4) M N → (N (t + 1) 2 = M h 2) → Q none N L) : Wp d 68 0 [.ref t, .ref h, .ref s, .null, .null] [] M L Q := by
  refine (show ∀ N : Mt, N = M → St (fun i _ => t ≤ i ∧ i ≤ t + 4) M N → Wp d 68 0 [.ref t, .ref h, .ref s, .null, .null] [] N L Q from ?_) M rfl (St.rf hI)
  intro N hNM hS
  refine w_load (.aload_n 0) 1 (by decide +kernel) rfl rfl ?_
  refine w_load (.aload_n 1) 2 (by decide +kernel) rfl rfl ?_
  refine w_callV1 66 6 3 5 (by decide +kernel) ht.1.1 (Nat.le_of_ble_eq_true rfl) rfl (by decide) (by omega) ?_
  refine k_66 hS.1 ht hh (by omega) (fun Nr1 hTr1 hr1 => ?_)
  have hS := hS.tr hTr1 (by intro i k; first | exact rfl | omega | (dsimp only; omega) | (simp only [Hs, Tl, Sc, isHs, isScr, isTs] at *; omega))
  dsimp only [Option.toList, List.nil_append]
  refine w_load (.aload_n 2) 6 (by decide +kernel) rfl rfl ?_
  refine w_callV0 43 2 1 9 (by decide +kernel) hc.1.1 (Nat.le_of_ble_eq_true rfl)  (by decide) (by omega) ?_
  obtain ⟨n2, hn2, en2⟩ := inv_s hS.1 hc
  refine k_43 hS.1 hc (by omega) en2 (by omega) (fun r3 hr3 => ?_)
  dsimp only [Option.toList, List.cons_append, List.nil_append]
  rcases hr3 with ⟨kr3, hsr3, rfl⟩
  · skip
    have hlr3 := hsr3.1
    refine w_store (ls' := [.ref t, .ref h, .ref s, .int (nI ((kr3 / 3))), .null]) (.istore_n 3) 10 (by decide +kernel) rfl rfl ?_
    refine w_pushN 0 11 (by decide +kernel) ?_
    refine w_store (ls' := [.ref t, .ref h, .ref s, .int (nI ((kr3 / 3))), .int (nI 0)]) (.istore 4) 13 (by decide +kernel) rfl rfl ?_
    have LP_13 : ∀ (kk : Nat) (N_13 : Mt) (g4 : Nat), St (fun i _ => t ≤ i ∧ i ≤ t + 4) M N_13 → g4 ≤ 8 → N_13 (t + 1) 2 = M h 2 → 8 - g4 < kk → Wp d 68 13 [.ref t, .ref h, .ref s, .int (nI ((kr3 / 3))), .int (nI g4)] [] N_13 L Q := by
      intro kk
      induction kk with
      | zero => intro N_13 g4 hS hi0_13 hi1_13 hm_13; exact absurd hm_13 (Nat.not_lt_zero _)
      | succ kk ih_13 =>
        intro N_13 g4 hS hi0_13 hi1_13 hm_13
        refine w_load (.iload 4) 15 (by decide +kernel) rfl rfl ?_
        refine w_load (.iload_n 3) 16 (by decide +kernel) rfl rfl ?_
        refine w_cgeN 37 19 (by decide +kernel) (by omega) (by omega) (fun h4 => ?_) (fun h4 => ?_)
        · skip
          exact w_retV (by decide +kernel) (hq N_13 hS hi1_13)
        · skip
          refine w_load (.aload_n 0) 20 (by decide +kernel) rfl rfl ?_
          refine w_load (.aload_n 2) 21 (by decide +kernel) rfl rfl ?_
          refine w_load (.iload 4) 23 (by decide +kernel) rfl rfl ?_
          refine w_callV1 44 2 4 26 (by decide +kernel) hc.1.1 (Nat.le_of_ble_eq_true rfl) rfl (by decide) (by omega) ?_
          refine k_44 hS.1 hc (by omega) (fun r5 hr5 => ?_)
          dsimp only [Option.toList, List.cons_append, List.nil_append]
          refine w_load (.iload 4) 28 (by decide +kernel) rfl rfl ?_
          refine w_callV2 69 6 6 31 (by decide +kernel) ht.1.1 (Nat.le_of_ble_eq_true rfl) rfl rfl (by decide) (by omega) ?_
          refine k_69 hS.1 ht (by omega) (fun Nr6 hTr6 hr6 => ?_)
          have hS := hS.tr hTr6 (by intro i k; first | exact rfl | omega | (dsimp only; omega) | (simp only [Hs, Tl, Sc, isHs, isScr, isTs] at *; omega))
          have hg28 := (hTr6.2 (t + 1) 2 (by (try dsimp only); omega)).trans hi1_13
          dsimp only [Option.toList, List.nil_append]
          refine w_iincN (z := 4) (g4 + 1) 34 (by decide +kernel) rfl (Nat.le_of_ble_eq_true rfl) rfl rfl ?_
          show Wp _ _ _ [.ref t, .ref h, .ref s, .int (nI ((kr3 / 3))), .int (nI (g4 + 1))] _ _ _ _
          refine w_goto 13 (by decide +kernel) ?_
          exact ih_13 Nr6 (g4 + 1) hS (by first | omega | assumption) (by first | omega | assumption) (by omega)
    exact LP_13 _ Nr1 0 hS (by first | omega | (first | assumption | (rw [← hNM]; assumption))) (by first | omega | (first | assumption | (rw [← hNM]; assumption))) (Nat.lt_succ_self _)
