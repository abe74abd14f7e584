-- X1_copyFrom
set_option maxRecDepth 10000 in
theorem k_8 {d : Nat} {M : Mt} {L : Lt} {Q : Option Value → Mt → Lt → Prop} {h o : Nat} (hI : Inv M) (hh : Hs h) (ho : Hs o) (hd : 0 ≤ d) (hq : ∀ (N : Mt), St (fun i _ => h ≤ i ∧ i ≤ h + 2) M N → N = cpH M o h → Q none N L) : Wp d 8 0 [.ref h, .ref o] [] M L Q := by
  refine (show ∀ N : Mt, N = M → St (fun i _ => h ≤ i ∧ i ≤ h + 2) M N → Wp d 8 0 [.ref h, .ref o] [] N L Q from ?_) M rfl (St.rf hI)
  intro N hNM hS
  refine w_load (.aload_n 1) 1 (by decide +kernel) rfl rfl ?_
  refine w_getR (k := 0) (r := o + 1) 4 (by decide +kernel) ho.1.1 rfl ?_
  refine w_pushN 0 5 (by decide +kernel) ?_
  refine w_load (.aload_n 0) 6 (by decide +kernel) rfl rfl ?_
  refine w_getR (k := 0) (r := h + 1) 9 (by decide +kernel) hh.1.1 rfl ?_
  refine w_pushN 0 10 (by decide +kernel) ?_
  refine w_pushN 17 12 (by decide +kernel) ?_
  refine w_acpyE 15 (by decide +kernel) ho.1.2.1 hh.1.2.1 (by omega) (by omega) (by omega) (by omega) (Nat.le_of_ble_eq_true rfl) hS (fun z hz1 hz2 => Rg.free (by simp only [Hs, Tl, Sc, isScr, isHs, isTs] at *; omega)) (by intro z hz1 hz2; first | exact rfl | omega | (dsimp only; omega) | (simp only [Hs, Tl, Sc, isHs, isScr, isTs] at *; omega)) (fun Nc0 hS hc0 => ?_)
  refine w_load (.aload_n 1) 16 (by decide +kernel) rfl rfl ?_
  refine w_getR (k := 1) (r := o + 2) 19 (by decide +kernel) ho.1.1 rfl ?_
  refine w_pushN 0 20 (by decide +kernel) ?_
  refine w_load (.aload_n 0) 21 (by decide +kernel) rfl rfl ?_
  refine w_getR (k := 1) (r := h + 2) 24 (by decide +kernel) hh.1.1 rfl ?_
  refine w_pushN 0 25 (by decide +kernel) ?_
  refine w_pushN 5 26 (by decide +kernel) ?_
  refine w_acpyE 29 (by decide +kernel) ho.1.2.2 hh.1.2.2 (by omega) (by omega) (by omega) (by omega) (Nat.le_of_ble_eq_true rfl) hS (fun z hz1 hz2 => Rg.free (by simp only [Hs, Tl, Sc, isScr, isHs, isTs] at *; omega)) (by intro z hz1 hz2; first | exact rfl | omega | (dsimp only; omega) | (simp only [Hs, Tl, Sc, isHs, isScr, isTs] at *; omega)) (fun Nc1 hS hc1 => ?_)
  refine w_load (.aload_n 0) 30 (by decide +kernel) rfl rfl ?_
  refine w_load (.aload_n 1) 31 (by decide +kernel) rfl rfl ?_
  refine w_getN (B := 5) (k := 2) 34 (by decide +kernel) ho.1.1 rfl (inv_h hS.1 ho) (fun n3 hn3 en3 => ?_)
  refine w_putE (k := 2) 37 (by decide +kernel) hh.1.1 rfl hS (rg_h hh (by omega)) (by first | exact rfl | omega | (dsimp only; omega) | (simp only [Hs, Tl, Sc, isHs, isScr, isTs] at *; omega)) (fun Nq4 hS hq4 oq4 mq4 => ?_)
  exact w_retV (by decide +kernel) (hq Nq4 hS (cpH_eq hh ho hc0 hc1 en3 mq4 hNM))
-- X1_becomeDawnOf
set_option maxRecDepth 10000 in
theorem k_9 {d : Nat} {M : Mt} {L : Lt} {Q : Option Value → Mt → Lt → Prop} {h o : Nat} (hI : Inv M) (hh : Hs h) (ho : Hs o) (hd : 1 ≤ d) (hq : ∀ (N : Mt), St (fun i _ => h ≤ i ∧ i ≤ h + 2) M N → N = up2 (cpH M o h) (h + 1) 16 (cpH M o h (h + 1) 16 + nI 1) → Q none N L) : Wp d 9 0 [.ref h, .ref o] [] M L Q := by
  refine (show ∀ N : Mt, N = M → St (fun i _ => h ≤ i ∧ i ≤ h + 2) M N → Wp d 9 0 [.ref h, .ref o] [] N L Q from ?_) M rfl (St.rf hI)
  intro N hNM hS
  refine w_load (.aload_n 0) 1 (by decide +kernel) rfl rfl ?_
  refine w_load (.aload_n 1) 2 (by decide +kernel) rfl rfl ?_
  refine w_callV1 8 1 2 5 (by decide +kernel) hh.1.1 (Nat.le_of_ble_eq_true rfl) rfl (by decide) (by omega) ?_
  refine k_8 hS.1 hh ho (by omega) (fun Nr1 hTr1 hr1 => ?_)
  have hS := hS.tr hTr1 (by intro i k; first | exact rfl | omega | (dsimp only; omega) | (simp only [Hs, Tl, Sc, isHs, isScr, isTs] at *; omega))
  dsimp only [Option.toList, List.nil_append]
  refine w_load (.aload_n 0) 6 (by decide +kernel) rfl rfl ?_
  refine w_getR (k := 0) (r := h + 1) 9 (by decide +kernel) hh.1.1 rfl ?_
  refine w_pushN 16 11 (by decide +kernel) ?_
  refine w_pure .dup2 12 (by decide +kernel) rfl rfl ?_
  refine w_ialdN 13 (by decide +kernel) hh.1.2.1 (by omega) (by omega) ?_
  refine w_pushN 1 14 (by decide +kernel) ?_
  refine w_pure .iadd 15 (by decide +kernel) rfl rfl ?_
  refine w_iastE 16 (by decide +kernel) hh.1.2.1 (by omega) (by omega) hS (Rg.free (by simp only [Hs, Tl, Sc, isScr, isHs, isTs] at *; omega)) (by first | exact rfl | omega | (dsimp only; omega) | (simp only [Hs, Tl, Sc, isHs, isScr, isTs] at *; omega)) (fun Nq2 hS hq2 oq2 mq2 => ?_)
  exact w_retV (by decide +kernel) (hq Nq2 hS (by rw [mq2, hr1, hNM]))
-- X1_isLikeRow
set_option maxRecDepth 10000 in
theorem k_32 {d : Nat} {M : Mt} {L : Lt} {Q : Option Value → Mt → Lt → Prop} {h a n : Nat} {f : Int32} (hI : Inv M) (hh : Hs h) (ha : shp[a]? = some (100, List.replicate n 0)) (hn : 17 ≤ n ∧ n < 2 ^ 31) (hd : 0 ≤ d) (hq : ∀ (r : Int32), (r = 0 ∨ r = 1) → Q (some (.int r)) M L) : Wp d 32 0 [.ref h, .ref a, .int f, .null] [] M L Q := by
  refine w_load (.iload_n 2) 1 (by decide +kernel) rfl rfl ?_
  refine w_ilt 13 4 (by decide +kernel) (fun h1 => ?_) (fun h1 => ?_)
  · skip
    refine w_pushN 0 14 (by decide +kernel) ?_
    exact w_retZ (by decide +kernel) (Or.inl rfl) (hq _ (Or.inl rfl))
  · skip
    refine w_load (.iload_n 2) 5 (by decide +kernel) rfl rfl ?_
    refine w_load (.aload_n 1) 6 (by decide +kernel) rfl rfl ?_
    refine w_alen (nI n) 7 (by decide +kernel) ha (by decide) (by first | rfl | simp [nI]) ?_
    refine w_pushN 17 9 (by decide +kernel) ?_
    refine w_subN (n - 17) 10 (by decide +kernel) (by omega) rfl ?_
    refine w_cle 15 13 (by decide +kernel) (fun h2 => ?_) (fun h2 => ?_)
    · skip
      obtain ⟨k3, hk3, rfl⟩ := rng_le (by assumption) (Or.inl h2) (by omega)
      refine w_pushN 0 16 (by decide +kernel) ?_
      refine w_store (ls' := [.ref h, .ref a, .int (nI k3), .int (nI 0)]) (.istore_n 3) 17 (by decide +kernel) rfl rfl ?_
      have LP_17 : ∀ (kk : Nat) (g3 : Nat), g3 ≤ 5 → 5 - g3 < kk → Wp d 32 17 [.ref h, .ref a, .int (nI k3), .int (nI g3)] [] M L Q := by
        intro kk
        induction kk with
        | zero => intro g3 hi0_17 hm_17; exact absurd hm_17 (Nat.not_lt_zero _)
        | succ kk ih_17 =>
          intro g3 hi0_17 hm_17
          refine w_load (.iload_n 3) 18 (by decide +kernel) rfl rfl ?_
          refine w_load (.aload_n 0) 19 (by decide +kernel) rfl rfl ?_
          refine w_getN (B := 5) (k := 2) 22 (by decide +kernel) hh.1.1 rfl (inv_h hI hh) (fun n4 hn4 en4 => ?_)
          refine w_cgeN 89 25 (by decide +kernel) (by omega) (by omega) (fun h5 => ?_) (fun h5 => ?_)
          · skip
            refine w_load (.aload_n 0) 90 (by decide +kernel) rfl rfl ?_
            refine w_getR (k := 0) (r := h + 1) 93 (by decide +kernel) hh.1.1 rfl ?_
            refine w_pushN 15 95 (by decide +kernel) ?_
            refine w_ialdN 96 (by decide +kernel) hh.1.2.1 (by omega) (by omega) ?_
            refine w_load (.aload_n 1) 97 (by decide +kernel) rfl rfl ?_
            refine w_load (.iload_n 2) 98 (by decide +kernel) rfl rfl ?_
            refine w_pushN 15 100 (by decide +kernel) ?_
            refine w_addN (k3 + 15) 101 (by decide +kernel) (by omega) ?_
            refine w_ialdN 102 (by decide +kernel) ha (by omega) (by omega) ?_
            refine w_cne 109 105 (by decide +kernel) (fun h6 => ?_) (fun h6 => ?_)
            · skip
              refine w_pushN 0 110 (by decide +kernel) ?_
              exact w_retZ (by decide +kernel) (Or.inl rfl) (hq _ (Or.inl rfl))
            · skip
              refine w_pushN 1 106 (by decide +kernel) ?_
              refine w_goto 110 (by decide +kernel) ?_
              exact w_retZ (by decide +kernel) (Or.inr rfl) (hq _ (Or.inr rfl))
          · skip
            refine w_load (.aload_n 0) 26 (by decide +kernel) rfl rfl ?_
            refine w_getR (k := 0) (r := h + 1) 29 (by decide +kernel) hh.1.1 rfl ?_
            refine w_pushN 0 30 (by decide +kernel) ?_
            refine w_load (.iload_n 3) 31 (by decide +kernel) rfl rfl ?_
            refine w_addN g3 32 (by decide +kernel) (by omega) ?_
            refine w_ialdN 33 (by decide +kernel) hh.1.2.1 (by omega) (by omega) ?_
            refine w_load (.aload_n 1) 34 (by decide +kernel) rfl rfl ?_
            refine w_load (.iload_n 2) 35 (by decide +kernel) rfl rfl ?_
            refine w_pushN 0 36 (by decide +kernel) ?_
            refine w_addN k3 37 (by decide +kernel) (by omega) ?_
            refine w_load (.iload_n 3) 38 (by decide +kernel) rfl rfl ?_
            refine w_addN (k3 + g3) 39 (by decide +kernel) (by omega) ?_
            refine w_ialdN 40 (by decide +kernel) ha (by omega) (by omega) ?_
            refine w_cne 81 43 (by decide +kernel) (fun h7 => ?_) (fun h7 => ?_)
            · skip
              refine w_pushN 0 82 (by decide +kernel) ?_
              exact w_retZ (by decide +kernel) (Or.inl rfl) (hq _ (Or.inl rfl))
            · skip
              refine w_load (.aload_n 0) 44 (by decide +kernel) rfl rfl ?_
              refine w_getR (k := 0) (r := h + 1) 47 (by decide +kernel) hh.1.1 rfl ?_
              refine w_pushN 5 48 (by decide +kernel) ?_
              refine w_load (.iload_n 3) 49 (by decide +kernel) rfl rfl ?_
              refine w_addN (5 + g3) 50 (by decide +kernel) (by omega) ?_
              refine w_ialdN 51 (by decide +kernel) hh.1.2.1 (by omega) (by omega) ?_
              refine w_load (.aload_n 1) 52 (by decide +kernel) rfl rfl ?_
              refine w_load (.iload_n 2) 53 (by decide +kernel) rfl rfl ?_
              refine w_pushN 5 54 (by decide +kernel) ?_
              refine w_addN (k3 + 5) 55 (by decide +kernel) (by omega) ?_
              refine w_load (.iload_n 3) 56 (by decide +kernel) rfl rfl ?_
              refine w_addN (k3 + 5 + g3) 57 (by decide +kernel) (by omega) ?_
              refine w_ialdN 58 (by decide +kernel) ha (by omega) (by omega) ?_
              refine w_cne 81 61 (by decide +kernel) (fun h8 => ?_) (fun h8 => ?_)
              · skip
                refine w_pushN 0 82 (by decide +kernel) ?_
                exact w_retZ (by decide +kernel) (Or.inl rfl) (hq _ (Or.inl rfl))
              · skip
                refine w_load (.aload_n 0) 62 (by decide +kernel) rfl rfl ?_
                refine w_getR (k := 0) (r := h + 1) 65 (by decide +kernel) hh.1.1 rfl ?_
                refine w_pushN 10 67 (by decide +kernel) ?_
                refine w_load (.iload_n 3) 68 (by decide +kernel) rfl rfl ?_
                refine w_addN (10 + g3) 69 (by decide +kernel) (by omega) ?_
                refine w_ialdN 70 (by decide +kernel) hh.1.2.1 (by omega) (by omega) ?_
                refine w_load (.aload_n 1) 71 (by decide +kernel) rfl rfl ?_
                refine w_load (.iload_n 2) 72 (by decide +kernel) rfl rfl ?_
                refine w_pushN 10 74 (by decide +kernel) ?_
                refine w_addN (k3 + 10) 75 (by decide +kernel) (by omega) ?_
                refine w_load (.iload_n 3) 76 (by decide +kernel) rfl rfl ?_
                refine w_addN (k3 + 10 + g3) 77 (by decide +kernel) (by omega) ?_
                refine w_ialdN 78 (by decide +kernel) ha (by omega) (by omega) ?_
                refine w_ceq 83 81 (by decide +kernel) (fun h9 => ?_) (fun h9 => ?_)
                · skip
                  refine w_iincN (z := 3) (g3 + 1) 86 (by decide +kernel) rfl (Nat.le_of_ble_eq_true rfl) rfl rfl ?_
                  show Wp _ _ _ [.ref h, .ref a, .int (nI k3), .int (nI (g3 + 1))] _ _ _ _
                  refine w_goto 17 (by decide +kernel) ?_
                  exact ih_17 (g3 + 1) (by omega) (by omega)
                · skip
                  refine w_pushN 0 82 (by decide +kernel) ?_
                  exact w_retZ (by decide +kernel) (Or.inl rfl) (hq _ (Or.inl rfl))
      exact LP_17 _ 0 (by omega) (Nat.lt_succ_self _)
    · skip
      refine w_pushN 0 14 (by decide +kernel) ?_
      exact w_retZ (by decide +kernel) (Or.inl rfl) (hq _ (Or.inl rfl))
-- X1_isLike
set_option maxRecDepth 10000 in
theorem k_31 {d : Nat} {M : Mt} {L : Lt} {Q : Option Value → Mt → Lt → Prop} {h o : Nat} (hI : Inv M) (hh : Hs h) (ho : Hs o) (hd : 1 ≤ d) (hq : ∀ (r : Int32), (r = 0 ∨ r = 1) → Q (some (.int r)) M L) : Wp d 31 0 [.ref h, .ref o] [] M L Q := by
  refine w_load (.aload_n 0) 1 (by decide +kernel) rfl rfl ?_
  refine w_getN (B := 5) (k := 2) 4 (by decide +kernel) hh.1.1 rfl (inv_h hI hh) (fun n1 hn1 en1 => ?_)
  refine w_load (.aload_n 1) 5 (by decide +kernel) rfl rfl ?_
  refine w_getN (B := 5) (k := 2) 8 (by decide +kernel) ho.1.1 rfl (inv_h hI ho) (fun n2 hn2 en2 => ?_)
  refine w_cneN 27 11 (by decide +kernel) (by omega) (by omega) (fun h3 => ?_) (fun h3 => ?_)
  · skip
    refine w_pushN 0 28 (by decide +kernel) ?_
    exact w_retZ (by decide +kernel) (Or.inl rfl) (hq _ (Or.inl rfl))
  · skip
    refine w_load (.aload_n 0) 12 (by decide +kernel) rfl rfl ?_
    refine w_load (.aload_n 1) 13 (by decide +kernel) rfl rfl ?_
    refine w_getR (k := 0) (r := o + 1) 16 (by decide +kernel) ho.1.1 rfl ?_
    refine w_pushN 0 17 (by decide +kernel) ?_
    refine w_callV2 32 1 4 20 (by decide +kernel) hh.1.1 (Nat.le_of_ble_eq_true rfl) rfl rfl (by decide) (by omega) ?_
    refine k_32 hI hh ho.1.2.1 (by omega) (by omega) (fun r4 hr4 => ?_)
    dsimp only [Option.toList, List.cons_append, List.nil_append]
    refine w_ieq 27 23 (by decide +kernel) (fun h5 => ?_) (fun h5 => ?_)
    · skip
      refine w_pushN 0 28 (by decide +kernel) ?_
      exact w_retZ (by decide +kernel) (Or.inl rfl) (hq _ (Or.inl rfl))
    · skip
      refine w_pushN 1 24 (by decide +kernel) ?_
      refine w_goto 28 (by decide +kernel) ?_
      exact w_retZ (by decide +kernel) (Or.inr rfl) (hq _ (Or.inr rfl))
-- X1_copyToRow
set_option maxRecDepth 10000 in
theorem k_33 {d : Nat} {M : Mt} {L : Lt} {Q : Option Value → Mt → Lt → Prop} {h a n : Nat} {f : Int32} (hI : Inv M) (hh : Hs h) (ha : shp[a]? = some (100, List.replicate n 0)) (hn : 17 ≤ n ∧ n < 2 ^ 31) (hfr : ∀ z x, Rg a z x) (hd : 0 ≤ d) (hq : ∀ (N : Mt), St (fun i _ => i = a) M N → True → Q none N L) : Wp d 33 0 [.ref h, .ref a, .int f] [] M L Q := by
  refine (show ∀ N : Mt, N = M → St (fun i _ => i = a) M N → Wp d 33 0 [.ref h, .ref a, .int f] [] N L Q from ?_) M rfl (St.rf hI)
  intro N hNM hS
  refine w_load (.iload_n 2) 1 (by decide +kernel) rfl rfl ?_
  refine w_ilt 25 4 (by decide +kernel) (fun h1 => ?_) (fun h1 => ?_)
  · skip
    exact w_retV (by decide +kernel) (hq N hS trivial)
  · skip
    refine w_load (.iload_n 2) 5 (by decide +kernel) rfl rfl ?_
    refine w_load (.aload_n 1) 6 (by decide +kernel) rfl rfl ?_
    refine w_alen (nI n) 7 (by decide +kernel) ha (by decide) (by first | rfl | simp [nI]) ?_
    refine w_pushN 17 9 (by decide +kernel) ?_
    refine w_subN (n - 17) 10 (by decide +kernel) (by omega) rfl ?_
    refine w_cgt 25 13 (by decide +kernel) (fun h2 => ?_) (fun h2 => ?_)
    · skip
      exact w_retV (by decide +kernel) (hq N hS trivial)
    · skip
      obtain ⟨k3, hk3, rfl⟩ := rng_le (by assumption) (Or.inr h2) (by omega)
      refine w_load (.aload_n 0) 14 (by decide +kernel) rfl rfl ?_
      refine w_getR (k := 0) (r := h + 1) 17 (by decide +kernel) hh.1.1 rfl ?_
      refine w_pushN 0 18 (by decide +kernel) ?_
      refine w_load (.aload_n 1) 19 (by decide +kernel) rfl rfl ?_
      refine w_load (.iload_n 2) 20 (by decide +kernel) rfl rfl ?_
      refine w_pushN 17 22 (by decide +kernel) ?_
      refine w_acpyE 25 (by decide +kernel) hh.1.2.1 ha (by omega) (by omega) (by omega) (by omega) (Nat.le_of_ble_eq_true rfl) hS (fun z _ _ => hfr z _) (by intro z hz1 hz2; first | exact rfl | omega | (dsimp only; omega) | (simp only [Hs, Tl, Sc, isHs, isScr, isTs] at *; omega)) (fun Nc3 hS hc3 => ?_)
      exact w_retV (by decide +kernel) (hq Nc3 hS trivial)
