-- X1_settle
set_option maxRecDepth 10000 in
theorem k_7 {d : Nat} {M : Mt} {L : Lt} {Q : Option Value → Mt → Lt → Prop} {h s n : Nat} (hI : Inv M) (hh : Hs h) (hc : Sc s) (hn1 : 1 ≤ n ∧ n ≤ 24) (en0 : M s 1 = nI n) (hd : 1 ≤ d) (hq : ∀ (N : Mt), St (fun i _ => h ≤ i ∧ i ≤ h + 2) M N → (N h 2 = nI (min 5 ((n - 1) / 4))) → Q none N L) : Wp d 7 0 [.ref h, .ref s, .null, .null] [] M L Q := by
  refine (show ∀ N : Mt, N = M → St (fun i _ => h ≤ i ∧ i ≤ h + 2) M N → Wp d 7 0 [.ref h, .ref s, .null, .null] [] N L Q from ?_) M rfl (St.rf hI)
  intro N hNM hS
  have kz0 : N (s) 1 = nI n := by rw [hNM]; exact en0
  refine w_load (.aload_n 0) 1 (by decide +kernel) rfl rfl ?_
  refine w_load (.aload_n 1) 2 (by decide +kernel) rfl rfl ?_
  refine w_callV0 36 2 1 5 (by decide +kernel) hc.1.1 (Nat.le_of_ble_eq_true rfl)  (by decide) (by omega) ?_
  refine k_36 hS.1 hc (by omega) kz0 (by omega) (fun r1 hr1 => ?_)
  dsimp only [Option.toList, List.cons_append, List.nil_append]
  rcases hr1 with rfl
  · skip
    refine w_pushN 1 6 (by decide +kernel) ?_
    refine w_subN (n - 1) 7 (by decide +kernel) (by omega) rfl ?_
    refine w_pushN 4 8 (by decide +kernel) ?_
    refine w_divN (((n - 1)) / 4) 9 (by decide +kernel) (by decide) (by decide) (by omega) rfl ?_
    refine w_pushN 5 10 (by decide +kernel) ?_
    refine w_minN (min 5 ((((n - 1)) / 4))) 13 (by decide +kernel) (Nat.le_of_ble_eq_true rfl) (Nat.le_of_ble_eq_true rfl) (by omega) (by omega) rfl ?_
    refine w_putE (k := 2) 16 (by decide +kernel) hh.1.1 rfl hS (rg_h hh (by omega)) (by first | exact rfl | omega | (dsimp only; omega) | (simp only [Hs, Tl, Sc, isHs, isScr, isTs] at *; omega)) (fun Nq2 hS hq2 oq2 mq2 => ?_)
    have kn3 := (oq2 (s) 1 (by first | omega | (simp only [Hs, Tl, Sc, isHs, isScr, isTs] at *; omega))).trans kz0
    refine w_pushN 0 17 (by decide +kernel) ?_
    refine w_store (ls' := [.ref h, .ref s, .int (nI 0), .null]) (.istore_n 2) 18 (by decide +kernel) rfl rfl ?_
    have LP_18 : ∀ (kk : Nat) (N_18 : Mt) (g2 : Nat), St (fun i _ => h ≤ i ∧ i ≤ h + 2) M N_18 → g2 ≤ 5 → N_18 h 2 = nI (min 5 ((n - 1) / 4)) → N_18 s 1 = nI n → 5 - g2 < kk → Wp d 7 18 [.ref h, .ref s, .int (nI g2), .null] [] N_18 L Q := by
      intro kk
      induction kk with
      | zero => intro N_18 g2 hS hi0_18 hi1_18 hi2_18 hm_18; exact absurd hm_18 (Nat.not_lt_zero _)
      | succ kk ih_18 =>
        intro N_18 g2 hS hi0_18 hi1_18 hi2_18 hm_18
        refine w_load (.iload_n 2) 19 (by decide +kernel) rfl rfl ?_
        refine w_load (.aload_n 0) 20 (by decide +kernel) rfl rfl ?_
        refine w_getK (k := 2) 23 (by decide +kernel) hh.1.1 rfl hi1_18 ?_
        refine w_cgeN 101 26 (by decide +kernel) (by omega) (by omega) (fun h4 => ?_) (fun h4 => ?_)
        · skip
          refine w_load (.aload_n 0) 102 (by decide +kernel) rfl rfl ?_
          refine w_getR (k := 0) (r := h + 1) 105 (by decide +kernel) hh.1.1 rfl ?_
          refine w_pushN 15 107 (by decide +kernel) ?_
          refine w_load (.aload_n 0) 108 (by decide +kernel) rfl rfl ?_
          refine w_callV0 18 1 1 111 (by decide +kernel) hh.1.1 (Nat.le_of_ble_eq_true rfl)  (by decide) (by omega) ?_
          refine k_18 hS.1 hh (by omega) (fun r5 hr5 => ?_)
          dsimp only [Option.toList, List.cons_append, List.nil_append]
          refine w_iastE 112 (by decide +kernel) hh.1.2.1 (by omega) (by omega) hS (Rg.free (by simp only [Hs, Tl, Sc, isScr, isHs, isTs] at *; omega)) (by first | exact rfl | omega | (dsimp only; omega) | (simp only [Hs, Tl, Sc, isHs, isScr, isTs] at *; omega)) (fun Nq6 hS hq6 oq6 mq6 => ?_)
          have kn7 := (oq6 (h) 2 (by first | omega | (simp only [Hs, Tl, Sc, isHs, isScr, isTs] at *; omega))).trans hi1_18
          have kn8 := (oq6 (s) 1 (by first | omega | (simp only [Hs, Tl, Sc, isHs, isScr, isTs] at *; omega))).trans hi2_18
          refine w_load (.aload_n 0) 113 (by decide +kernel) rfl rfl ?_
          refine w_getR (k := 0) (r := h + 1) 116 (by decide +kernel) hh.1.1 rfl ?_
          refine w_pushN 16 118 (by decide +kernel) ?_
          refine w_pushN 0 119 (by decide +kernel) ?_
          refine w_iastE 120 (by decide +kernel) hh.1.2.1 (by omega) (by omega) hS (Rg.free (by simp only [Hs, Tl, Sc, isScr, isHs, isTs] at *; omega)) (by first | exact rfl | omega | (dsimp only; omega) | (simp only [Hs, Tl, Sc, isHs, isScr, isTs] at *; omega)) (fun Nq9 hS hq9 oq9 mq9 => ?_)
          have kn10 := (oq9 (h) 2 (by first | omega | (simp only [Hs, Tl, Sc, isHs, isScr, isTs] at *; omega))).trans kn7
          have kn11 := (oq9 (s) 1 (by first | omega | (simp only [Hs, Tl, Sc, isHs, isScr, isTs] at *; omega))).trans kn8
          exact w_retV (by decide +kernel) (hq Nq9 hS kn10)
        · skip
          refine w_load (.iload_n 2) 27 (by decide +kernel) rfl rfl ?_
          refine w_pushN 4 28 (by decide +kernel) ?_
          refine w_mulN (g2 * 4) 29 (by decide +kernel) rfl ?_
          refine w_pushN 1 30 (by decide +kernel) ?_
          refine w_addN (g2 * 4 + 1) 31 (by decide +kernel) (by omega) ?_
          refine w_store (ls' := [.ref h, .ref s, .int (nI g2), .int (nI (g2 * 4 + 1))]) (.istore_n 3) 32 (by decide +kernel) rfl rfl ?_
          refine w_load (.aload_n 0) 33 (by decide +kernel) rfl rfl ?_
          refine w_getR (k := 0) (r := h + 1) 36 (by decide +kernel) hh.1.1 rfl ?_
          refine w_pushN 0 37 (by decide +kernel) ?_
          refine w_load (.iload_n 2) 38 (by decide +kernel) rfl rfl ?_
          refine w_addN g2 39 (by decide +kernel) (by omega) ?_
          refine w_load (.aload_n 1) 40 (by decide +kernel) rfl rfl ?_
          refine w_load (.iload_n 3) 41 (by decide +kernel) rfl rfl ?_
          refine w_pushN 1 42 (by decide +kernel) ?_
          refine w_addN (g2 * 4 + 1 + 1) 43 (by decide +kernel) (by omega) ?_
          refine w_callV1 40 2 2 46 (by decide +kernel) hc.1.1 (Nat.le_of_ble_eq_true rfl) rfl (by decide) (by omega) ?_
          refine k_40 hS.1 hc (by omega) (fun r12 hr12 => ?_)
          dsimp only [Option.toList, List.cons_append, List.nil_append]
          refine w_pushN 97 48 (by decide +kernel) ?_
          refine w_pure .isub 49 (by decide +kernel) rfl rfl ?_
          refine w_iastE 50 (by decide +kernel) hh.1.2.1 (by omega) (by omega) hS (Rg.free (by simp only [Hs, Tl, Sc, isScr, isHs, isTs] at *; omega)) (by first | exact rfl | omega | (dsimp only; omega) | (simp only [Hs, Tl, Sc, isHs, isScr, isTs] at *; omega)) (fun Nq13 hS hq13 oq13 mq13 => ?_)
          have kn14 := (oq13 (h) 2 (by first | omega | (simp only [Hs, Tl, Sc, isHs, isScr, isTs] at *; omega))).trans hi1_18
          have kn15 := (oq13 (s) 1 (by first | omega | (simp only [Hs, Tl, Sc, isHs, isScr, isTs] at *; omega))).trans hi2_18
          refine w_load (.aload_n 0) 51 (by decide +kernel) rfl rfl ?_
          refine w_getR (k := 0) (r := h + 1) 54 (by decide +kernel) hh.1.1 rfl ?_
          refine w_pushN 5 55 (by decide +kernel) ?_
          refine w_load (.iload_n 2) 56 (by decide +kernel) rfl rfl ?_
          refine w_addN (5 + g2) 57 (by decide +kernel) (by omega) ?_
          refine w_load (.aload_n 1) 58 (by decide +kernel) rfl rfl ?_
          refine w_load (.iload_n 3) 59 (by decide +kernel) rfl rfl ?_
          refine w_pushN 2 60 (by decide +kernel) ?_
          refine w_addN (g2 * 4 + 1 + 2) 61 (by decide +kernel) (by omega) ?_
          refine w_callV1 40 2 2 64 (by decide +kernel) hc.1.1 (Nat.le_of_ble_eq_true rfl) rfl (by decide) (by omega) ?_
          refine k_40 hS.1 hc (by omega) (fun r16 hr16 => ?_)
          dsimp only [Option.toList, List.cons_append, List.nil_append]
          refine w_pushN 48 66 (by decide +kernel) ?_
          refine w_pure .isub 67 (by decide +kernel) rfl rfl ?_
          refine w_iastE 68 (by decide +kernel) hh.1.2.1 (by omega) (by omega) hS (Rg.free (by simp only [Hs, Tl, Sc, isScr, isHs, isTs] at *; omega)) (by first | exact rfl | omega | (dsimp only; omega) | (simp only [Hs, Tl, Sc, isHs, isScr, isTs] at *; omega)) (fun Nq17 hS hq17 oq17 mq17 => ?_)
          have kn18 := (oq17 (h) 2 (by first | omega | (simp only [Hs, Tl, Sc, isHs, isScr, isTs] at *; omega))).trans kn14
          have kn19 := (oq17 (s) 1 (by first | omega | (simp only [Hs, Tl, Sc, isHs, isScr, isTs] at *; omega))).trans kn15
          refine w_load (.aload_n 0) 69 (by decide +kernel) rfl rfl ?_
          refine w_getR (k := 0) (r := h + 1) 72 (by decide +kernel) hh.1.1 rfl ?_
          refine w_pushN 10 74 (by decide +kernel) ?_
          refine w_load (.iload_n 2) 75 (by decide +kernel) rfl rfl ?_
          refine w_addN (10 + g2) 76 (by decide +kernel) (by omega) ?_
          refine w_push (-9) 78 (by decide +kernel) ?_
          refine w_iastE 79 (by decide +kernel) hh.1.2.1 (by omega) (by omega) hS (Rg.free (by simp only [Hs, Tl, Sc, isScr, isHs, isTs] at *; omega)) (by first | exact rfl | omega | (dsimp only; omega) | (simp only [Hs, Tl, Sc, isHs, isScr, isTs] at *; omega)) (fun Nq20 hS hq20 oq20 mq20 => ?_)
          have kn21 := (oq20 (h) 2 (by first | omega | (simp only [Hs, Tl, Sc, isHs, isScr, isTs] at *; omega))).trans kn18
          have kn22 := (oq20 (s) 1 (by first | omega | (simp only [Hs, Tl, Sc, isHs, isScr, isTs] at *; omega))).trans kn19
          refine w_load (.aload_n 0) 80 (by decide +kernel) rfl rfl ?_
          refine w_getR (k := 1) (r := h + 2) 83 (by decide +kernel) hh.1.1 rfl ?_
          refine w_load (.iload_n 2) 84 (by decide +kernel) rfl rfl ?_
          refine w_load (.aload_n 1) 85 (by decide +kernel) rfl rfl ?_
          refine w_load (.iload_n 3) 86 (by decide +kernel) rfl rfl ?_
          refine w_pushN 3 87 (by decide +kernel) ?_
          refine w_addN (g2 * 4 + 1 + 3) 88 (by decide +kernel) (by omega) ?_
          refine w_callV1 40 2 2 91 (by decide +kernel) hc.1.1 (Nat.le_of_ble_eq_true rfl) rfl (by decide) (by omega) ?_
          refine k_40 hS.1 hc (by omega) (fun r23 hr23 => ?_)
          dsimp only [Option.toList, List.cons_append, List.nil_append]
          refine w_pushN 48 93 (by decide +kernel) ?_
          refine w_pure .isub 94 (by decide +kernel) rfl rfl ?_
          refine w_iastE 95 (by decide +kernel) hh.1.2.2 (by omega) (by omega) hS (Rg.free (by simp only [Hs, Tl, Sc, isScr, isHs, isTs] at *; omega)) (by first | exact rfl | omega | (dsimp only; omega) | (simp only [Hs, Tl, Sc, isHs, isScr, isTs] at *; omega)) (fun Nq24 hS hq24 oq24 mq24 => ?_)
          have kn25 := (oq24 (h) 2 (by first | omega | (simp only [Hs, Tl, Sc, isHs, isScr, isTs] at *; omega))).trans kn21
          have kn26 := (oq24 (s) 1 (by first | omega | (simp only [Hs, Tl, Sc, isHs, isScr, isTs] at *; omega))).trans kn22
          refine w_iincN (z := 2) (g2 + 1) 98 (by decide +kernel) rfl (Nat.le_of_ble_eq_true rfl) rfl rfl ?_
          show Wp _ _ _ [.ref h, .ref s, .int (nI (g2 + 1)), .int (nI (g2 * 4 + 1))] _ _ _ _
          refine w_goto 18 (by decide +kernel) ?_
          refine Wp.forget (ls := [.ref h, .ref s, .int (nI (g2 + 1)), .null]) ⟨Or.inl rfl, Or.inl rfl, Or.inl rfl, Or.inr ⟨rfl, rfl⟩, trivial⟩ ?_
          exact ih_18 Nq24 (g2 + 1) hS (by first | omega | assumption) (by first | omega | assumption) (by first | omega | assumption) (by omega)
    exact LP_18 _ Nq2 0 hS (by first | omega | assumption) (by first | omega | assumption) (by first | omega | assumption) (Nat.lt_succ_self _)
-- X4_put
set_option maxRecDepth 10000 in
theorem k_55 {d : Nat} {M : Mt} {L : Lt} {Q : Option Value → Mt → Lt → Prop} {s n : Nat} {h : Nat} {p : Int32} (hI : Inv M) (hf : isShelf s n) (hn : 17 ≤ n ∧ n < 2 ^ 31) (hs3 : s = 58 ∨ s = 60 ∨ s = 62) (hh : Hs h) (hd : 1 ≤ d) (hq : ∀ (N : Mt), St (fun i _ => i = s + 1) M N → True → Q none N L) : Wp d 55 0 [.ref s, .int p, .ref h] [] M L Q := by
  refine (show ∀ N : Mt, N = M → St (fun i _ => i = s + 1) M N → Wp d 55 0 [.ref s, .int p, .ref h] [] N L Q from ?_) M rfl (St.rf hI)
  intro N hNM hS
  refine w_load (.aload_n 2) 1 (by decide +kernel) rfl rfl ?_
  refine w_load (.aload_n 0) 2 (by decide +kernel) rfl rfl ?_
  refine w_getR (k := 0) (r := s + 1) 5 (by decide +kernel) hf.1 rfl ?_
  refine w_load (.iload_n 1) 6 (by decide +kernel) rfl rfl ?_
  refine w_pushN 17 8 (by decide +kernel) ?_
  refine w_pure .imul 9 (by decide +kernel) rfl rfl ?_
  refine w_callV2 33 1 3 12 (by decide +kernel) hh.1.1 (Nat.le_of_ble_eq_true rfl) rfl rfl (by decide) (by omega) ?_
  refine k_33 hS.1 hh hf.2 (by omega) (fun _ _ => Rg.free (by simp only [isScr, isHs, isTs] at *; omega)) (by omega) (fun Nr1 hTr1 hr1 => ?_)
  have hS := hS.tr hTr1 (by intro i k; first | exact rfl | omega | (dsimp only; omega) | (simp only [Hs, Tl, Sc, isHs, isScr, isTs] at *; omega))
  dsimp only [Option.toList, List.nil_append]
  exact w_retV (by decide +kernel) (hq Nr1 hS trivial)
-- X4_fetch
set_option maxRecDepth 10000 in
theorem k_56 {d : Nat} {M : Mt} {L : Lt} {Q : Option Value → Mt → Lt → Prop} {s n : Nat} {h : Nat} {p : Int32} (hI : Inv M) (hf : isShelf s n) (hn : 17 ≤ n ∧ n < 2 ^ 31) (hs3 : s = 58 ∨ s = 60 ∨ s = 62) (hh : Hs h) (hd : 1 ≤ d) (hq : ∀ (N : Mt), St (fun i _ => i = h + 1) M N → True → Q none N L) : Wp d 56 0 [.ref s, .int p, .ref h] [] M L Q := by
  refine (show ∀ N : Mt, N = M → St (fun i _ => i = h + 1) M N → Wp d 56 0 [.ref s, .int p, .ref h] [] N L Q from ?_) M rfl (St.rf hI)
  intro N hNM hS
  refine w_load (.aload_n 2) 1 (by decide +kernel) rfl rfl ?_
  refine w_load (.aload_n 0) 2 (by decide +kernel) rfl rfl ?_
  refine w_getR (k := 0) (r := s + 1) 5 (by decide +kernel) hf.1 rfl ?_
  refine w_load (.iload_n 1) 6 (by decide +kernel) rfl rfl ?_
  refine w_pushN 17 8 (by decide +kernel) ?_
  refine w_pure .imul 9 (by decide +kernel) rfl rfl ?_
  refine w_callV2 34 1 3 12 (by decide +kernel) hh.1.1 (Nat.le_of_ble_eq_true rfl) rfl rfl (by decide) (by omega) ?_
  refine k_34 hS.1 hh hf.2 (by omega) (by omega) (fun Nr1 hTr1 hr1 => ?_)
  have hS := hS.tr hTr1 (by intro i k; first | exact rfl | omega | (dsimp only; omega) | (simp only [Hs, Tl, Sc, isHs, isScr, isTs] at *; omega))
  dsimp only [Option.toList, List.nil_append]
  exact w_retV (by decide +kernel) (hq Nr1 hS trivial)
-- X4_firstLike
set_option maxRecDepth 10000 in
theorem k_57 {d : Nat} {M : Mt} {L : Lt} {Q : Option Value → Mt → Lt → Prop} {s n : Nat} {h m : Nat} (hI : Inv M) (hf : isShelf s n) (hn : 17 ≤ n ∧ n < 2 ^ 31) (hs3 : s = 58 ∨ s = 60 ∨ s = 62) (hh : Hs h) (hm : m ≤ 60) (hd : 1 ≤ d) (hq : ∀ (r : Int32), True → Q (some (.int r)) M L) : Wp d 57 0 [.ref s, .ref h, .int (nI m), .null] [] M L Q := by
  refine w_pushN 0 1 (by decide +kernel) ?_
  refine w_store (ls' := [.ref s, .ref h, .int (nI m), .int (nI 0)]) (.istore_n 3) 2 (by decide +kernel) rfl rfl ?_
  have LP_2 : ∀ (kk : Nat) (g3 : Nat), g3 ≤ 60 → 60 - g3 < kk → Wp d 57 2 [.ref s, .ref h, .int (nI m), .int (nI g3)] [] M L Q := by
    intro kk
    induction kk with
    | zero => intro g3 hi0_2 hm_2; exact absurd hm_2 (Nat.not_lt_zero _)
    | succ kk ih_2 =>
      intro g3 hi0_2 hm_2
      refine w_load (.iload_n 3) 3 (by decide +kernel) rfl rfl ?_
      refine w_load (.iload_n 2) 4 (by decide +kernel) rfl rfl ?_
      refine w_cgeN 30 7 (by decide +kernel) (by omega) (by omega) (fun h1 => ?_) (fun h1 => ?_)
      · skip
        refine w_push (-9) 32 (by decide +kernel) ?_
        exact w_ret (by decide +kernel) (hq _ trivial)
      · skip
        refine w_load (.aload_n 1) 8 (by decide +kernel) rfl rfl ?_
        refine w_load (.aload_n 0) 9 (by decide +kernel) rfl rfl ?_
        refine w_getR (k := 0) (r := s + 1) 12 (by decide +kernel) hf.1 rfl ?_
        refine w_load (.iload_n 3) 13 (by decide +kernel) rfl rfl ?_
        refine w_pushN 17 15 (by decide +kernel) ?_
        refine w_mulN (g3 * 17) 16 (by decide +kernel) rfl ?_
        refine w_callV2 32 1 4 19 (by decide +kernel) hh.1.1 (Nat.le_of_ble_eq_true rfl) rfl rfl (by decide) (by omega) ?_
        refine k_32 hI hh hf.2 (by omega) (by omega) (fun r2 hr2 => ?_)
        dsimp only [Option.toList, List.cons_append, List.nil_append]
        refine w_ieq 24 22 (by decide +kernel) (fun h3 => ?_) (fun h3 => ?_)
        · skip
          refine w_iincN (z := 3) (g3 + 1) 27 (by decide +kernel) rfl (Nat.le_of_ble_eq_true rfl) rfl rfl ?_
          show Wp _ _ _ [.ref s, .ref h, .int (nI m), .int (nI (g3 + 1))] _ _ _ _
          refine w_goto 2 (by decide +kernel) ?_
          exact ih_2 (g3 + 1) (by omega) (by omega)
        · skip
          refine w_load (.iload_n 3) 23 (by decide +kernel) rfl rfl ?_
          exact w_ret (by decide +kernel) (hq _ trivial)
  exact LP_2 _ 0 (by omega) (Nat.lt_succ_self _)
-- X4_dropFirst
set_option maxRecDepth 10000 in
theorem k_58 {d : Nat} {M : Mt} {L : Lt} {Q : Option Value → Mt → Lt → Prop} {s n : Nat}  (hI : Inv M) (hf : isShelf s n) (hn : 17 ≤ n ∧ n < 2 ^ 31) (hs3 : s = 58 ∨ s = 60 ∨ s = 62) (hd : 0 ≤ d) (hq : ∀ (N : Mt), St (fun i _ => i = s + 1) M N → True → Q none N L) : Wp d 58 0 [.ref s] [] M L Q := by
  refine (show ∀ N : Mt, N = M → St (fun i _ => i = s + 1) M N → Wp d 58 0 [.ref s] [] N L Q from ?_) M rfl (St.rf hI)
  intro N hNM hS
  refine w_load (.aload_n 0) 1 (by decide +kernel) rfl rfl ?_
  refine w_getR (k := 0) (r := s + 1) 4 (by decide +kernel) hf.1 rfl ?_
  refine w_pushN 17 6 (by decide +kernel) ?_
  refine w_load (.aload_n 0) 7 (by decide +kernel) rfl rfl ?_
  refine w_getR (k := 0) (r := s + 1) 10 (by decide +kernel) hf.1 rfl ?_
  refine w_pushN 0 11 (by decide +kernel) ?_
  refine w_load (.aload_n 0) 12 (by decide +kernel) rfl rfl ?_
  refine w_getR (k := 0) (r := s + 1) 15 (by decide +kernel) hf.1 rfl ?_
  refine w_alen (nI n) 16 (by decide +kernel) hf.2 (by decide) (by first | rfl | simp [nI]) ?_
  refine w_pushN 17 18 (by decide +kernel) ?_
  refine w_subN (n - 17) 19 (by decide +kernel) (by omega) rfl ?_
  refine w_acpyE 22 (by decide +kernel) hf.2 hf.2 (by omega) (by omega) (by omega) (by omega) (Nat.le_of_ble_eq_true rfl) hS (fun z hz1 hz2 => Rg.free (by simp only [Hs, Tl, Sc, isScr, isHs, isTs] at *; omega)) (by intro z hz1 hz2; first | exact rfl | omega | (dsimp only; omega) | (simp only [Hs, Tl, Sc, isHs, isScr, isTs] at *; omega)) (fun Nc0 hS hc0 => ?_)
  exact w_retV (by decide +kernel) (hq Nc0 hS trivial)
