-- X1_living#s
set_option maxRecDepth 10000 in
theorem s_living {d : Nat} {M : Mt} {L : Lt} {Q : Option Value → Mt → Lt → Prop} {h n : Nat} {c : Row} (hI : Inv M) (hh : Hs h) (hn : n ≤ 5) (en : M h 2 = nI n) (hc : HE n (M (h + 1)) c) (hd : 0 ≤ d) (hq : ∀ (r : Int32), (r = c 15) → Q (some (.int r)) M L) : Wp d 19 0 [.ref h] [] M L Q := by
  refine w_load (.aload_n 0) 1 (by decide +kernel) rfl rfl ?_
  refine w_getR (k := 0) (r := h + 1) 4 (by decide +kernel) hh.1.1 rfl ?_
  refine w_pushN 15 6 (by decide +kernel) ?_
  refine w_ialdN 7 (by decide +kernel) hh.1.2.1 (by omega) (by omega) ?_
  exact w_ret (by decide +kernel) (hq _ hc.2.1)
-- X1_everyone#s
set_option maxRecDepth 10000 in
theorem s_everyone {d : Nat} {M : Mt} {L : Lt} {Q : Option Value → Mt → Lt → Prop} {h n : Nat} {c : Row} (hI : Inv M) (hh : Hs h) (hn : n ≤ 5) (en : M h 2 = nI n) (hc : HE n (M (h + 1)) c) (hd : 0 ≤ d) (hq : ∀ (r : Int32), (r = evI n) → Q (some (.int r)) M L) : Wp d 18 0 [.ref h] [] M L Q := by
  refine w_pushN 1 1 (by decide +kernel) ?_
  refine w_load (.aload_n 0) 2 (by decide +kernel) rfl rfl ?_
  refine w_getK (k := 2) 5 (by decide +kernel) hh.1.1 rfl en ?_
  refine w_pure .ishl 6 (by decide +kernel) rfl rfl ?_
  refine w_pushN 1 7 (by decide +kernel) ?_
  refine w_pure .isub 8 (by decide +kernel) rfl rfl ?_
  exact w_ret (by decide +kernel) (hq _ rfl)
-- X1_everyone#e
set_option maxRecDepth 10000 in
theorem s_everyoneE {d : Nat} {M : Mt} {L : Lt} {Q : Option Value → Mt → Lt → Prop} {h n : Nat} (hI : Inv M) (hh : Hs h) (hn : n ≤ 5) (en : M h 2 = nI n) (hd : 0 ≤ d) (hq : ∀ (r : Int32), (r = evI n) → Q (some (.int r)) M L) : Wp d 18 0 [.ref h] [] M L Q := by
  refine w_pushN 1 1 (by decide +kernel) ?_
  refine w_load (.aload_n 0) 2 (by decide +kernel) rfl rfl ?_
  refine w_getK (k := 2) 5 (by decide +kernel) hh.1.1 rfl en ?_
  refine w_pure .ishl 6 (by decide +kernel) rfl rfl ?_
  refine w_pushN 1 7 (by decide +kernel) ?_
  refine w_pure .isub 8 (by decide +kernel) rfl rfl ?_
  exact w_ret (by decide +kernel) (hq _ rfl)
-- X1_dead#s
set_option maxRecDepth 10000 in
theorem s_dead {d : Nat} {M : Mt} {L : Lt} {Q : Option Value → Mt → Lt → Prop} {h n : Nat} {c : Row} (hI : Inv M) (hh : Hs h) (hn : n ≤ 5) (en : M h 2 = nI n) (hc : HE n (M (h + 1)) c) (hd : 1 ≤ d) (hq : ∀ (r : Int32), (r = deadI n c) → Q (some (.int r)) M L) : Wp d 20 0 [.ref h] [] M L Q := by
  refine w_load (.aload_n 0) 1 (by decide +kernel) rfl rfl ?_
  refine w_callV0 18 1 1 4 (by decide +kernel) hh.1.1 (Nat.le_of_ble_eq_true rfl)  (by decide) (by omega) ?_
  refine s_everyone hI hh (by omega) en hc (by omega) (fun r1 hr1 => ?_)
  dsimp only [Option.toList, List.cons_append, List.nil_append]
  rcases hr1 with rfl
  · skip
    refine w_load (.aload_n 0) 5 (by decide +kernel) rfl rfl ?_
    refine w_getR (k := 0) (r := h + 1) 8 (by decide +kernel) hh.1.1 rfl ?_
    refine w_pushN 15 10 (by decide +kernel) ?_
    refine w_ialdN 11 (by decide +kernel) hh.1.2.1 (by omega) (by omega) ?_
    refine w_push (-1) 12 (by decide +kernel) ?_
    refine w_pure .ixor 13 (by decide +kernel) rfl rfl ?_
    refine w_pure .iand 14 (by decide +kernel) rfl rfl ?_
    exact w_ret (by decide +kernel) (hq _ (by unfold deadI; rw [← hc.2.1]))
-- X1_copyToRow#s
set_option maxRecDepth 10000 in
theorem s_copyToRow {d : Nat} {M : Mt} {L : Lt} {Q : Option Value → Mt → Lt → Prop} {h a n i : Nat} (hI : Inv M) (hh : Hs h) (ha : shp[a]? = some (100, List.replicate n 0)) (hn : 17 ≤ n ∧ n < 2 ^ 31) (hfr : ∀ z x, Rg a z x) (hf : i + 17 ≤ n) (hd : 0 ≤ d) (hq : ∀ (N : Mt), St (fun i _ => i = a) M N → (N = cpM M (h + 1) 0 a i 17) → Q none N L) : Wp d 33 0 [.ref h, .ref a, .int (nI i)] [] M L Q := by
  refine (show ∀ N : Mt, N = M → St (fun i _ => i = a) M N → Wp d 33 0 [.ref h, .ref a, .int (nI i)] [] N L Q from ?_) M rfl (St.rf hI)
  intro N hNM hS
  refine w_load (.iload_n 2) 1 (by decide +kernel) rfl rfl ?_
  refine w_iltN 25 4 (by decide +kernel) (by omega) ?_
  refine w_load (.iload_n 2) 5 (by decide +kernel) rfl rfl ?_
  refine w_load (.aload_n 1) 6 (by decide +kernel) rfl rfl ?_
  refine w_alen (nI n) 7 (by decide +kernel) ha (by decide) (by first | rfl | simp [nI]) ?_
  refine w_pushN 17 9 (by decide +kernel) ?_
  refine w_subN (n - 17) 10 (by decide +kernel) (by omega) rfl ?_
  refine w_cgtN 25 13 (by decide +kernel) (by omega) (by omega) (fun h2 => ?_) (fun h2 => ?_)
  · skip
    exact w_retV (by decide +kernel) (hq N hS (by first | omega | (rw [hc, hNM])))
  · skip
    refine w_load (.aload_n 0) 14 (by decide +kernel) rfl rfl ?_
    refine w_getR (k := 0) (r := h + 1) 17 (by decide +kernel) hh.1.1 rfl ?_
    refine w_pushN 0 18 (by decide +kernel) ?_
    refine w_load (.aload_n 1) 19 (by decide +kernel) rfl rfl ?_
    refine w_load (.iload_n 2) 20 (by decide +kernel) rfl rfl ?_
    refine w_pushN 17 22 (by decide +kernel) ?_
    refine w_acpyE 25 (by decide +kernel) hh.1.2.1 ha (by omega) (by omega) (by omega) (by omega) (Nat.le_of_ble_eq_true rfl) hS (fun z _ _ => hfr z _) (by intro z hz1 hz2; first | exact rfl | omega | (dsimp only; omega) | (simp only [Hs, Tl, Sc, isHs, isScr, isTs] at *; omega)) (fun Nc2 hS hc2 => ?_)
    exact w_retV (by decide +kernel) (hq Nc2 hS (by first | omega | (rw [hc2, hNM])))
-- X1_copyFromRow#s
set_option maxRecDepth 10000 in
theorem s_copyFromRow {d : Nat} {M : Mt} {L : Lt} {Q : Option Value → Mt → Lt → Prop} {h a n i : Nat} (hI : Inv M) (hh : Hs h) (ha : shp[a]? = some (100, List.replicate n 0)) (hn : 17 ≤ n ∧ n < 2 ^ 31) (hf : i + 17 ≤ n) (hd : 0 ≤ d) (hq : ∀ (N : Mt), St (fun i _ => i = h + 1) M N → (N = cpM M a i (h + 1) 0 17) → Q none N L) : Wp d 34 0 [.ref h, .ref a, .int (nI i)] [] M L Q := by
  refine (show ∀ N : Mt, N = M → St (fun i _ => i = h + 1) M N → Wp d 34 0 [.ref h, .ref a, .int (nI i)] [] N L Q from ?_) M rfl (St.rf hI)
  intro N hNM hS
  refine w_load (.iload_n 2) 1 (by decide +kernel) rfl rfl ?_
  refine w_iltN 25 4 (by decide +kernel) (by omega) ?_
  refine w_load (.iload_n 2) 5 (by decide +kernel) rfl rfl ?_
  refine w_load (.aload_n 1) 6 (by decide +kernel) rfl rfl ?_
  refine w_alen (nI n) 7 (by decide +kernel) ha (by decide) (by first | rfl | simp [nI]) ?_
  refine w_pushN 17 9 (by decide +kernel) ?_
  refine w_subN (n - 17) 10 (by decide +kernel) (by omega) rfl ?_
  refine w_cgtN 25 13 (by decide +kernel) (by omega) (by omega) (fun h2 => ?_) (fun h2 => ?_)
  · skip
    exact w_retV (by decide +kernel) (hq N hS (by first | omega | (rw [hc, hNM])))
  · skip
    refine w_load (.aload_n 1) 14 (by decide +kernel) rfl rfl ?_
    refine w_load (.iload_n 2) 15 (by decide +kernel) rfl rfl ?_
    refine w_load (.aload_n 0) 16 (by decide +kernel) rfl rfl ?_
    refine w_getR (k := 0) (r := h + 1) 19 (by decide +kernel) hh.1.1 rfl ?_
    refine w_pushN 0 20 (by decide +kernel) ?_
    refine w_pushN 17 22 (by decide +kernel) ?_
    refine w_acpyE 25 (by decide +kernel) ha hh.1.2.1 (by omega) (by omega) (by omega) (by omega) (Nat.le_of_ble_eq_true rfl) hS (fun z hz1 hz2 => Rg.free (by simp only [Hs, Tl, Sc, isScr, isHs, isTs] at *; omega)) (by intro z hz1 hz2; first | exact rfl | omega | (dsimp only; omega) | (simp only [Hs, Tl, Sc, isHs, isScr, isTs] at *; omega)) (fun Nc2 hS hc2 => ?_)
    exact w_retV (by decide +kernel) (hq Nc2 hS (by first | omega | (rw [hc2, hNM])))
-- X4_put#s
set_option maxRecDepth 10000 in
theorem s_put {d : Nat} {M : Mt} {L : Lt} {Q : Option Value → Mt → Lt → Prop} {s n : Nat} {h p : Nat} (hI : Inv M) (hf : isShelf s n) (hn : 17 ≤ n ∧ n < 2 ^ 31) (hs3 : s = 58 ∨ s = 60 ∨ s = 62) (hh : Hs h) (hp : p * 17 + 17 ≤ n) (hd : 1 ≤ d) (hq : ∀ (N : Mt), St (fun i _ => i = s + 1) M N → (N = cpM M (h + 1) 0 (s + 1) (p * 17) 17) → Q none N L) : Wp d 55 0 [.ref s, .int (nI p), .ref h] [] M L Q := by
  refine (show ∀ N : Mt, N = M → St (fun i _ => i = s + 1) M N → Wp d 55 0 [.ref s, .int (nI p), .ref h] [] N L Q from ?_) M rfl (St.rf hI)
  intro N hNM hS
  refine w_load (.aload_n 2) 1 (by decide +kernel) rfl rfl ?_
  refine w_load (.aload_n 0) 2 (by decide +kernel) rfl rfl ?_
  refine w_getR (k := 0) (r := s + 1) 5 (by decide +kernel) hf.1 rfl ?_
  refine w_load (.iload_n 1) 6 (by decide +kernel) rfl rfl ?_
  refine w_pushN 17 8 (by decide +kernel) ?_
  refine w_mulN (p * 17) 9 (by decide +kernel) rfl ?_
  refine w_callV2 33 1 3 12 (by decide +kernel) hh.1.1 (Nat.le_of_ble_eq_true rfl) rfl rfl (by decide) (by omega) ?_
  refine s_copyToRow hS.1 hh hf.2 (by omega) (fun _ _ => Rg.free (by simp only [isScr, isHs, isTs] at *; omega)) (by omega) (by omega) (fun Nr1 hTr1 hr1 => ?_)
  have hS := hS.tr hTr1 (by intro i k; first | exact rfl | exact fun h => h.elim | omega | (dsimp only; omega) | (simp only [Hs, Tl, Sc, isHs, isScr, isTs] at *; omega))
  dsimp only [Option.toList, List.nil_append]
  exact w_retV (by decide +kernel) (hq Nr1 hS (by rw [hr1, hNM]))
-- X4_fetch#s
set_option maxRecDepth 10000 in
theorem s_fetch {d : Nat} {M : Mt} {L : Lt} {Q : Option Value → Mt → Lt → Prop} {s n : Nat} {h p : Nat} (hI : Inv M) (hf : isShelf s n) (hn : 17 ≤ n ∧ n < 2 ^ 31) (hs3 : s = 58 ∨ s = 60 ∨ s = 62) (hh : Hs h) (hp : p * 17 + 17 ≤ n) (hd : 1 ≤ d) (hq : ∀ (N : Mt), St (fun i _ => i = h + 1) M N → (N = cpM M (s + 1) (p * 17) (h + 1) 0 17) → Q none N L) : Wp d 56 0 [.ref s, .int (nI p), .ref h] [] M L Q := by
  refine (show ∀ N : Mt, N = M → St (fun i _ => i = h + 1) M N → Wp d 56 0 [.ref s, .int (nI p), .ref h] [] N L Q from ?_) M rfl (St.rf hI)
  intro N hNM hS
  refine w_load (.aload_n 2) 1 (by decide +kernel) rfl rfl ?_
  refine w_load (.aload_n 0) 2 (by decide +kernel) rfl rfl ?_
  refine w_getR (k := 0) (r := s + 1) 5 (by decide +kernel) hf.1 rfl ?_
  refine w_load (.iload_n 1) 6 (by decide +kernel) rfl rfl ?_
  refine w_pushN 17 8 (by decide +kernel) ?_
  refine w_mulN (p * 17) 9 (by decide +kernel) rfl ?_
  refine w_callV2 34 1 3 12 (by decide +kernel) hh.1.1 (Nat.le_of_ble_eq_true rfl) rfl rfl (by decide) (by omega) ?_
  refine s_copyFromRow hS.1 hh hf.2 (by omega) (by omega) (by omega) (fun Nr1 hTr1 hr1 => ?_)
  have hS := hS.tr hTr1 (by intro i k; first | exact rfl | exact fun h => h.elim | omega | (dsimp only; omega) | (simp only [Hs, Tl, Sc, isHs, isScr, isTs] at *; omega))
  dsimp only [Option.toList, List.nil_append]
  exact w_retV (by decide +kernel) (hq Nr1 hS (by rw [hr1, hNM]))
-- X4_dropFirst#s
set_option maxRecDepth 10000 in
theorem s_dropFirst {d : Nat} {M : Mt} {L : Lt} {Q : Option Value → Mt → Lt → Prop} {s n : Nat}  (hI : Inv M) (hf : isShelf s n) (hn : 17 ≤ n ∧ n < 2 ^ 31) (hs3 : s = 58 ∨ s = 60 ∨ s = 62) (hd : 0 ≤ d) (hq : ∀ (N : Mt), St (fun i _ => i = s + 1) M N → (N = cpM M (s + 1) 17 (s + 1) 0 (n - 17)) → Q none N L) : Wp d 58 0 [.ref s] [] M L Q := by
  refine (show ∀ N : Mt, N = M → St (fun i _ => i = s + 1) M N → Wp d 58 0 [.ref s] [] N L Q from ?_) M rfl (St.rf hI)
  intro N hNM hS
  refine w_load (.aload_n 0) 1 (by decide +kernel) rfl rfl ?_
  refine w_getR (k := 0) (r := s + 1) 4 (by decide +kernel) hf.1 rfl ?_
  refine w_pushN 17 6 (by decide +kernel) ?_
  refine w_load (.aload_n 0) 7 (by decide +kernel) rfl rfl ?_
  refine w_getR (k := 0) (r := s + 1) 10 (by decide +kernel) hf.1 rfl ?_
  refine w_pushN 0 11 (by decide +kernel) ?_
  refine w_load (.aload_n 0) 12 (by decide +kernel) rfl rfl ?_
  refine w_getR (k := 0) (r := s + 1) 15 (by decide +kernel) hf.1 rfl ?_
  refine w_alen (nI n) 16 (by decide +kernel) hf.2 (by decide) (by first | rfl | simp [nI]) ?_
  refine w_pushN 17 18 (by decide +kernel) ?_
  refine w_subN (n - 17) 19 (by decide +kernel) (by omega) rfl ?_
  refine w_acpyE 22 (by decide +kernel) hf.2 hf.2 (by omega) (by omega) (by omega) (by omega) (Nat.le_of_ble_eq_true rfl) hS (fun z hz1 hz2 => Rg.free (by simp only [Hs, Tl, Sc, isScr, isHs, isTs] at *; omega)) (by intro z hz1 hz2; first | exact rfl | omega | (dsimp only; omega) | (simp only [Hs, Tl, Sc, isHs, isScr, isTs] at *; omega)) (fun Nc0 hS hc0 => ?_)
  exact w_retV (by decide +kernel) (hq Nc0 hS (by rw [hc0, hNM]))
-- X7_holdAct#s
set_option maxRecDepth 10000 in
theorem s_holdAct {d : Nat} {M : Mt} {L : Lt} {Q : Option Value → Mt → Lt → Prop} {n na : Nat} {ra : Nat → Row} {c : Row} (hI : Inv M) (hn : n ≤ 5) (hna : na ≤ 12) (hA : acX n na ra M) (hc : HE n (M 5) c) (hd : 2 ≤ d) (hq : ∀ (N : Mt), St (fun i k => i = 59 ∨ (i = 0 ∧ k = 14)) M N → (acX n (pushN na) (pushR na ra c) N) → Q none N L) : Wp d 121 0 [.ref 0] [] M L Q := by
  refine (show ∀ N : Mt, N = M → St (fun i k => i = 59 ∨ (i = 0 ∧ k = 14)) M N → Wp d 121 0 [.ref 0] [] N L Q from ?_) M rfl (St.rf hI)
  intro N hNM hS
  have kz0 : N (0) 14 = nI na := by rw [hNM]; exact hA.1
  refine w_load (.aload_n 0) 1 (by decide +kernel) rfl rfl ?_
  refine w_getK (k := 14) 4 (by decide +kernel) sh_0 rfl kz0 ?_
  refine w_pushN 12 6 (by decide +kernel) ?_
  refine w_cneN 26 9 (by decide +kernel) (by omega) (by omega) (fun h1 => ?_) (fun h1 => ?_)
  · skip
    refine w_load (.aload_n 0) 27 (by decide +kernel) rfl rfl ?_
    refine w_getR (k := 7) (r := 58) 30 (by decide +kernel) sh_0 rfl ?_
    refine w_load (.aload_n 0) 31 (by decide +kernel) rfl rfl ?_
    refine w_getK (k := 14) 34 (by decide +kernel) sh_0 rfl kz0 ?_
    refine w_load (.aload_n 0) 35 (by decide +kernel) rfl rfl ?_
    refine w_getR (k := 2) (r := 4) 38 (by decide +kernel) sh_0 rfl ?_
    refine w_callV2 55 4 3 41 (by decide +kernel) sh_58 (Nat.le_of_ble_eq_true rfl) rfl rfl (by decide) (by omega) ?_
    refine s_put hS.1 shf_58 (by decide) (by omega) hs_4 (by omega) (by omega) (fun Nr2 hTr2 hr2 => ?_)
    have kn3 := (hTr2.2 (0) 14 (by (try dsimp only); first | omega | (simp only [Hs, Tl, Sc, isHs, isScr, isTs] at *; omega))).trans kz0
    have hS := hS.tr hTr2 (by intro i k; first | exact rfl | exact fun h => h.elim | omega | (dsimp only; omega) | (simp only [Hs, Tl, Sc, isHs, isScr, isTs] at *; omega))
    dsimp only [Option.toList, List.nil_append]
    refine w_load (.aload_n 0) 42 (by decide +kernel) rfl rfl ?_
    refine w_pure .dup 43 (by decide +kernel) rfl rfl ?_
    refine w_getK (k := 14) 46 (by decide +kernel) sh_0 rfl kn3 ?_
    refine w_pushN 1 47 (by decide +kernel) ?_
    refine w_addN (na + 1) 48 (by decide +kernel) (by omega) ?_
    refine w_putE (k := 14) 51 (by decide +kernel) sh_0 rfl hS (rg_acts (by omega)) (by first | exact rfl | omega | (dsimp only; omega) | (simp only [Hs, Tl, Sc, isHs, isScr, isTs] at *; omega)) (fun Nq4 hS hq4 oq4 mq4 => ?_)
    exact w_retV (by decide +kernel) (hq Nq4 hS (hold_a hn (by omega) hA.2 hc (by rw [hr2, hNM]) mq4))
  · skip
    refine w_load (.aload_n 0) 10 (by decide +kernel) rfl rfl ?_
    refine w_getR (k := 7) (r := 58) 13 (by decide +kernel) sh_0 rfl ?_
    refine w_callV0 58 4 1 16 (by decide +kernel) sh_58 (Nat.le_of_ble_eq_true rfl)  (by decide) (by omega) ?_
    refine s_dropFirst hS.1 shf_58 (by decide) (by omega) (by omega) (fun Nr5 hTr5 hr5 => ?_)
    have kn6 := (hTr5.2 (0) 14 (by (try dsimp only); first | omega | (simp only [Hs, Tl, Sc, isHs, isScr, isTs] at *; omega))).trans kz0
    have hS := hS.tr hTr5 (by intro i k; first | exact rfl | exact fun h => h.elim | omega | (dsimp only; omega) | (simp only [Hs, Tl, Sc, isHs, isScr, isTs] at *; omega))
    dsimp only [Option.toList, List.nil_append]
    refine w_load (.aload_n 0) 17 (by decide +kernel) rfl rfl ?_
    refine w_pure .dup 18 (by decide +kernel) rfl rfl ?_
    refine w_getK (k := 14) 21 (by decide +kernel) sh_0 rfl kn6 ?_
    refine w_pushN 1 22 (by decide +kernel) ?_
    refine w_subN (na - 1) 23 (by decide +kernel) (by omega) rfl ?_
    refine w_putE (k := 14) 26 (by decide +kernel) sh_0 rfl hS (rg_acts (by omega)) (by first | exact rfl | omega | (dsimp only; omega) | (simp only [Hs, Tl, Sc, isHs, isScr, isTs] at *; omega)) (fun Nq7 hS hq7 oq7 mq7 => ?_)
    refine w_load (.aload_n 0) 27 (by decide +kernel) rfl rfl ?_
    refine w_getR (k := 7) (r := 58) 30 (by decide +kernel) sh_0 rfl ?_
    refine w_load (.aload_n 0) 31 (by decide +kernel) rfl rfl ?_
    refine w_getK (k := 14) 34 (by decide +kernel) sh_0 rfl hq7 ?_
    refine w_load (.aload_n 0) 35 (by decide +kernel) rfl rfl ?_
    refine w_getR (k := 2) (r := 4) 38 (by decide +kernel) sh_0 rfl ?_
    refine w_callV2 55 4 3 41 (by decide +kernel) sh_58 (Nat.le_of_ble_eq_true rfl) rfl rfl (by decide) (by omega) ?_
    refine s_put hS.1 shf_58 (by decide) (by omega) hs_4 (by omega) (by omega) (fun Nr8 hTr8 hr8 => ?_)
    have kn9 := (hTr8.2 (0) 14 (by (try dsimp only); first | omega | (simp only [Hs, Tl, Sc, isHs, isScr, isTs] at *; omega))).trans hq7
    have hS := hS.tr hTr8 (by intro i k; first | exact rfl | exact fun h => h.elim | omega | (dsimp only; omega) | (simp only [Hs, Tl, Sc, isHs, isScr, isTs] at *; omega))
    dsimp only [Option.toList, List.nil_append]
    refine w_load (.aload_n 0) 42 (by decide +kernel) rfl rfl ?_
    refine w_pure .dup 43 (by decide +kernel) rfl rfl ?_
    refine w_getK (k := 14) 46 (by decide +kernel) sh_0 rfl kn9 ?_
    refine w_pushN 1 47 (by decide +kernel) ?_
    refine w_addN ((na - 1) + 1) 48 (by decide +kernel) (by omega) ?_
    refine w_putE (k := 14) 51 (by decide +kernel) sh_0 rfl hS (rg_acts (by omega)) (by first | exact rfl | omega | (dsimp only; omega) | (simp only [Hs, Tl, Sc, isHs, isScr, isTs] at *; omega)) (fun Nq10 hS hq10 oq10 mq10 => ?_)
    exact w_retV (by decide +kernel) (hq Nq10 hS (hold_b hn (by omega) hA.2 hc (by rw [hr5, hNM]) mq7 hr8 mq10))
-- J6_bitCount_0f7a4#s
set_option maxRecDepth 10000 in
theorem s_bitCount {d : Nat} {M : Mt} {L : Lt} {Q : Option Value → Mt → Lt → Prop} {a : Int32} (hI : Inv M)  (hd : 0 ≤ d) (hq : ∀ (r : Int32), (r = bcI a) → Q (some (.int r)) M L) : Wp d 200 0 [.int a] [] M L Q := by
  refine w_load (.iload_n 0) 1 (by decide +kernel) rfl rfl ?_
  refine w_load (.iload_n 0) 2 (by decide +kernel) rfl rfl ?_
  refine w_pushN 1 3 (by decide +kernel) ?_
  refine w_pure .iushr 4 (by decide +kernel) rfl rfl ?_
  refine w_pushN 1431655765 7 (by decide +kernel) ?_
  refine w_pure .iand 8 (by decide +kernel) rfl rfl ?_
  refine w_pure .isub 9 (by decide +kernel) rfl rfl ?_
  refine w_topi (fun v1 ev1 => ?_)
  refine w_store (ls' := [.int v1]) (.istore_n 0) 10 (by decide +kernel) rfl rfl ?_
  have b1 := ev1
  refine w_load (.iload_n 0) 11 (by decide +kernel) rfl rfl ?_
  refine w_pushN 858993459 14 (by decide +kernel) ?_
  refine w_pure .iand 15 (by decide +kernel) rfl rfl ?_
  refine w_load (.iload_n 0) 16 (by decide +kernel) rfl rfl ?_
  refine w_pushN 2 17 (by decide +kernel) ?_
  refine w_pure .iushr 18 (by decide +kernel) rfl rfl ?_
  refine w_pushN 858993459 21 (by decide +kernel) ?_
  refine w_pure .iand 22 (by decide +kernel) rfl rfl ?_
  refine w_pure .iadd 23 (by decide +kernel) rfl rfl ?_
  refine w_topi (fun v2 ev2 => ?_)
  refine w_store (ls' := [.int v2]) (.istore_n 0) 24 (by decide +kernel) rfl rfl ?_
  have b2 := ev2
  refine w_load (.iload_n 0) 25 (by decide +kernel) rfl rfl ?_
  refine w_load (.iload_n 0) 26 (by decide +kernel) rfl rfl ?_
  refine w_pushN 4 27 (by decide +kernel) ?_
  refine w_pure .iushr 28 (by decide +kernel) rfl rfl ?_
  refine w_pure .iadd 29 (by decide +kernel) rfl rfl ?_
  refine w_pushN 252645135 32 (by decide +kernel) ?_
  refine w_pure .iand 33 (by decide +kernel) rfl rfl ?_
  refine w_topi (fun v3 ev3 => ?_)
  refine w_store (ls' := [.int v3]) (.istore_n 0) 34 (by decide +kernel) rfl rfl ?_
  have b3 := ev3
  refine w_load (.iload_n 0) 35 (by decide +kernel) rfl rfl ?_
  refine w_load (.iload_n 0) 36 (by decide +kernel) rfl rfl ?_
  refine w_pushN 8 38 (by decide +kernel) ?_
  refine w_pure .iushr 39 (by decide +kernel) rfl rfl ?_
  refine w_pure .iadd 40 (by decide +kernel) rfl rfl ?_
  refine w_topi (fun v4 ev4 => ?_)
  refine w_store (ls' := [.int v4]) (.istore_n 0) 41 (by decide +kernel) rfl rfl ?_
  have b4 := ev4
  refine w_load (.iload_n 0) 42 (by decide +kernel) rfl rfl ?_
  refine w_load (.iload_n 0) 43 (by decide +kernel) rfl rfl ?_
  refine w_pushN 16 45 (by decide +kernel) ?_
  refine w_pure .iushr 46 (by decide +kernel) rfl rfl ?_
  refine w_pure .iadd 47 (by decide +kernel) rfl rfl ?_
  refine w_topi (fun v5 ev5 => ?_)
  refine w_store (ls' := [.int v5]) (.istore_n 0) 48 (by decide +kernel) rfl rfl ?_
  have b5 := ev5
  refine w_load (.iload_n 0) 49 (by decide +kernel) rfl rfl ?_
  refine w_pushN 63 51 (by decide +kernel) ?_
  refine w_pure .iand 52 (by decide +kernel) rfl rfl ?_
  exact w_ret (by decide +kernel) (hq _ (by rw [b5, b4, b3, b2, b1]; rfl))
-- X1_settle#s
set_option maxRecDepth 10000 in
theorem s_settle {d : Nat} {M : Mt} {L : Lt} {Q : Option Value → Mt → Lt → Prop} {h s z : Nat} (hI : Inv M) (hh : Hs h) (hcs : Sc s) (hz : 1 ≤ z ∧ z ≤ 21 ∧ z % 4 = 1) (ez : M s 1 = nI z) (hd : 1 ≤ d) (hq : ∀ (N : Mt), St (fun i _ => h ≤ i ∧ i ≤ h + 2) M N → (HE ((z - 1) / 4) (N (h + 1)) (innC (M (s + 1)) ((z - 1) / 4)) ∧ LQ ((z - 1) / 4) (N (h + 2)) (innP (M (s + 1))) ∧ N h 2 = nI ((z - 1) / 4)) → Q none N L) : Wp d 7 0 [.ref h, .ref s, .null, .null] [] M L Q := by
  refine (show ∀ N : Mt, N = M → St (fun i _ => h ≤ i ∧ i ≤ h + 2) M N → Wp d 7 0 [.ref h, .ref s, .null, .null] [] N L Q from ?_) M rfl (St.rf hI)
  intro N hNM hS
  have kz0 : N (s) 1 = nI z := by rw [hNM]; exact ez
  refine w_load (.aload_n 0) 1 (by decide +kernel) rfl rfl ?_
  refine w_load (.aload_n 1) 2 (by decide +kernel) rfl rfl ?_
  refine w_callV0 36 2 1 5 (by decide +kernel) hcs.1.1 (Nat.le_of_ble_eq_true rfl)  (by decide) (by omega) ?_
  refine k_36 hS.1 hcs (by omega) kz0 (by omega) (fun r1 hr1 => ?_)
  dsimp only [Option.toList, List.cons_append, List.nil_append]
  rcases hr1 with rfl
  · skip
    refine w_pushN 1 6 (by decide +kernel) ?_
    refine w_subN (z - 1) 7 (by decide +kernel) (by omega) rfl ?_
    refine w_pushN 4 8 (by decide +kernel) ?_
    refine w_divN (((z - 1)) / 4) 9 (by decide +kernel) (by decide) (by decide) (by omega) rfl ?_
    refine w_pushN 5 10 (by decide +kernel) ?_
    refine w_minN (min 5 ((((z - 1)) / 4))) 13 (by decide +kernel) (Nat.le_of_ble_eq_true rfl) (Nat.le_of_ble_eq_true rfl) (by omega) (by omega) rfl ?_
    refine w_putE (k := 2) 16 (by decide +kernel) hh.1.1 rfl hS (rg_h hh (by omega)) (by first | exact rfl | omega | (dsimp only; omega) | (simp only [Hs, Tl, Sc, isHs, isScr, isTs] at *; omega)) (fun Nq2 hS hq2 oq2 mq2 => ?_)
    have kn3 := (oq2 (s) 1 (by first | omega | (simp only [Hs, Tl, Sc, isHs, isScr, isTs] at *; omega))).trans kz0
    have hg13 : Nq2 h 2 = nI ((z - 1) / 4) := by rw [mq2, up2_eq, Nat.min_eq_right (by omega)]
    have hsr13 : Nq2 (s + 1) = M (s + 1) := by rw [mq2, row_ne (by simp only [Hs, Sc, isHs, isScr] at *; omega), hNM]
    refine w_pushN 0 17 (by decide +kernel) ?_
    refine w_store (ls' := [.ref h, .ref s, .int (nI 0), .null]) (.istore_n 2) 18 (by decide +kernel) rfl rfl ?_
    have LP_18 : ∀ (kk : Nat) (N_18 : Mt) (g2 : Nat), St (fun i _ => h ≤ i ∧ i ≤ h + 2) M N_18 → g2 ≤ 5 → N_18 h 2 = nI ((z - 1) / 4) → N_18 s 1 = nI z → N_18 (s + 1) = M (s + 1) → setQ (M (s + 1)) g2 (N_18 (h + 1)) (N_18 (h + 2)) → 5 - g2 < kk → Wp d 7 18 [.ref h, .ref s, .int (nI g2), .null] [] N_18 L Q := by
      intro kk
      induction kk with
      | zero => intro N_18 g2 hS hi0_18 hi1_18 hi2_18 hi3_18 hi4_18 hm_18; exact absurd hm_18 (Nat.not_lt_zero _)
      | succ kk ih_18 =>
        intro N_18 g2 hS hi0_18 hi1_18 hi2_18 hi3_18 hi4_18 hm_18
        refine w_load (.iload_n 2) 19 (by decide +kernel) rfl rfl ?_
        refine w_load (.aload_n 0) 20 (by decide +kernel) rfl rfl ?_
        refine w_getK (k := 2) 23 (by decide +kernel) hh.1.1 rfl hi1_18 ?_
        refine w_cgeN 101 26 (by decide +kernel) (by omega) (by omega) (fun h4 => ?_) (fun h4 => ?_)
        · skip
          refine w_load (.aload_n 0) 102 (by decide +kernel) rfl rfl ?_
          refine w_getR (k := 0) (r := h + 1) 105 (by decide +kernel) hh.1.1 rfl ?_
          refine w_pushN 15 107 (by decide +kernel) ?_
          refine w_load (.aload_n 0) 108 (by decide +kernel) rfl rfl ?_
          refine w_callV0 18 1 1 111 (by decide +kernel) hh.1.1 (Nat.le_of_ble_eq_true rfl)  (by decide) (by omega) ?_
          refine s_everyoneE hS.1 hh (by omega) hi1_18 (by omega) (fun r5 hr5 => ?_)
          dsimp only [Option.toList, List.cons_append, List.nil_append]
          rcases hr5 with rfl
          · skip
            refine w_iastE 112 (by decide +kernel) hh.1.2.1 (by omega) (by omega) hS (Rg.free (by simp only [Hs, Tl, Sc, isScr, isHs, isTs] at *; omega)) (by first | exact rfl | omega | (dsimp only; omega) | (simp only [Hs, Tl, Sc, isHs, isScr, isTs] at *; omega)) (fun Nq6 hS hq6 oq6 mq6 => ?_)
            have kn7 := (oq6 (h) 2 (by first | omega | (simp only [Hs, Tl, Sc, isHs, isScr, isTs] at *; omega))).trans hi1_18
            have kn8 := (oq6 (s) 1 (by first | omega | (simp only [Hs, Tl, Sc, isHs, isScr, isTs] at *; omega))).trans hi2_18
            refine w_load (.aload_n 0) 113 (by decide +kernel) rfl rfl ?_
            refine w_getR (k := 0) (r := h + 1) 116 (by decide +kernel) hh.1.1 rfl ?_
            refine w_pushN 16 118 (by decide +kernel) ?_
            refine w_pushN 0 119 (by decide +kernel) ?_
            refine w_iastE 120 (by decide +kernel) hh.1.2.1 (by omega) (by omega) hS (Rg.free (by simp only [Hs, Tl, Sc, isScr, isHs, isTs] at *; omega)) (by first | exact rfl | omega | (dsimp only; omega) | (simp only [Hs, Tl, Sc, isHs, isScr, isTs] at *; omega)) (fun Nq9 hS hq9 oq9 mq9 => ?_)
            have kn10 := (oq9 (h) 2 (by first | omega | (simp only [Hs, Tl, Sc, isHs, isScr, isTs] at *; omega))).trans kn7
            have kn11 := (oq9 (s) 1 (by first | omega | (simp only [Hs, Tl, Sc, isHs, isScr, isTs] at *; omega))).trans kn8
            exact w_retV (by decide +kernel) (hq Nq9 hS ⟨by rw [mq9, row_eq, mq6, row_eq]; exact set_end (by omega) (set_q hi4_18 (by omega)), by rw [mq9, row_ne (by omega), mq6, row_ne (by omega)]; exact fun g hg => (hi4_18 g (by omega)).2.2.2, by rw [mq9, up2_ne (by omega), mq6, up2_ne (by omega)]; exact hi1_18⟩)
        · skip
          refine w_load (.iload_n 2) 27 (by decide +kernel) rfl rfl ?_
          refine w_pushN 4 28 (by decide +kernel) ?_
          refine w_mulN (g2 * 4) 29 (by decide +kernel) rfl ?_
          refine w_pushN 1 30 (by decide +kernel) ?_
          refine w_addN (g2 * 4 + 1) 31 (by decide +kernel) (by omega) ?_
          refine w_store (ls' := [.ref h, .ref s, .int (nI g2), .int (nI (g2 * 4 + 1))]) (.istore_n 3) 32 (by decide +kernel) rfl rfl ?_
          refine w_load (.aload_n 0) 33 (by decide +kernel) rfl rfl ?_
          refine w_getR (k := 0) (r := h + 1) 36 (by decide +kernel) hh.1.1 rfl ?_
          refine w_pushN 0 37 (by decide +kernel) ?_
          refine w_load (.iload_n 2) 38 (by decide +kernel) rfl rfl ?_
          refine w_addN g2 39 (by decide +kernel) (by omega) ?_
          refine w_load (.aload_n 1) 40 (by decide +kernel) rfl rfl ?_
          refine w_load (.iload_n 3) 41 (by decide +kernel) rfl rfl ?_
          refine w_pushN 1 42 (by decide +kernel) ?_
          refine w_addN (g2 * 4 + 1 + 1) 43 (by decide +kernel) (by omega) ?_
          refine w_callV1 40 2 2 46 (by decide +kernel) hcs.1.1 (Nat.le_of_ble_eq_true rfl) rfl (by decide) (by omega) ?_
          refine s_letterAt hS.1 hcs (by omega) hi2_18 (by omega) (by omega) (fun r12 hr12 => ?_)
          have hl1 : r12 = M (s + 1) (4 * g2 + 2) := by rw [hr12, hi3_18]; congr 1; omega
          dsimp only [Option.toList, List.cons_append, List.nil_append]
          refine w_pushN 97 48 (by decide +kernel) ?_
          refine w_pure .isub 49 (by decide +kernel) rfl rfl ?_
          refine w_iastE 50 (by decide +kernel) hh.1.2.1 (by omega) (by omega) hS (Rg.free (by simp only [Hs, Tl, Sc, isScr, isHs, isTs] at *; omega)) (by first | exact rfl | omega | (dsimp only; omega) | (simp only [Hs, Tl, Sc, isHs, isScr, isTs] at *; omega)) (fun Nq13 hS hq13 oq13 mq13 => ?_)
          have kn14 := (oq13 (h) 2 (by first | omega | (simp only [Hs, Tl, Sc, isHs, isScr, isTs] at *; omega))).trans hi1_18
          have kn15 := (oq13 (s) 1 (by first | omega | (simp only [Hs, Tl, Sc, isHs, isScr, isTs] at *; omega))).trans hi2_18
          refine w_load (.aload_n 0) 51 (by decide +kernel) rfl rfl ?_
          refine w_getR (k := 0) (r := h + 1) 54 (by decide +kernel) hh.1.1 rfl ?_
          refine w_pushN 5 55 (by decide +kernel) ?_
          refine w_load (.iload_n 2) 56 (by decide +kernel) rfl rfl ?_
          refine w_addN (5 + g2) 57 (by decide +kernel) (by omega) ?_
          refine w_load (.aload_n 1) 58 (by decide +kernel) rfl rfl ?_
          refine w_load (.iload_n 3) 59 (by decide +kernel) rfl rfl ?_
          refine w_pushN 2 60 (by decide +kernel) ?_
          refine w_addN (g2 * 4 + 1 + 2) 61 (by decide +kernel) (by omega) ?_
          refine w_callV1 40 2 2 64 (by decide +kernel) hcs.1.1 (Nat.le_of_ble_eq_true rfl) rfl (by decide) (by omega) ?_
          refine s_letterAt hS.1 hcs (by omega) kn15 (by omega) (by omega) (fun r16 hr16 => ?_)
          have hl2 : r16 = M (s + 1) (4 * g2 + 3) := by rw [hr16, mq13, row_ne (by simp only [Hs, Sc, isHs, isScr] at *; omega), hi3_18]; congr 1; omega
          dsimp only [Option.toList, List.cons_append, List.nil_append]
          refine w_pushN 48 66 (by decide +kernel) ?_
          refine w_pure .isub 67 (by decide +kernel) rfl rfl ?_
          refine w_iastE 68 (by decide +kernel) hh.1.2.1 (by omega) (by omega) hS (Rg.free (by simp only [Hs, Tl, Sc, isScr, isHs, isTs] at *; omega)) (by first | exact rfl | omega | (dsimp only; omega) | (simp only [Hs, Tl, Sc, isHs, isScr, isTs] at *; omega)) (fun Nq17 hS hq17 oq17 mq17 => ?_)
          have kn18 := (oq17 (h) 2 (by first | omega | (simp only [Hs, Tl, Sc, isHs, isScr, isTs] at *; omega))).trans kn14
          have kn19 := (oq17 (s) 1 (by first | omega | (simp only [Hs, Tl, Sc, isHs, isScr, isTs] at *; omega))).trans kn15
          refine w_load (.aload_n 0) 69 (by decide +kernel) rfl rfl ?_
          refine w_getR (k := 0) (r := h + 1) 72 (by decide +kernel) hh.1.1 rfl ?_
          refine w_pushN 10 74 (by decide +kernel) ?_
          refine w_load (.iload_n 2) 75 (by decide +kernel) rfl rfl ?_
          refine w_addN (10 + g2) 76 (by decide +kernel) (by omega) ?_
          refine w_push (-9) 78 (by decide +kernel) ?_
          refine w_iastE 79 (by decide +kernel) hh.1.2.1 (by omega) (by omega) hS (Rg.free (by simp only [Hs, Tl, Sc, isScr, isHs, isTs] at *; omega)) (by first | exact rfl | omega | (dsimp only; omega) | (simp only [Hs, Tl, Sc, isHs, isScr, isTs] at *; omega)) (fun Nq20 hS hq20 oq20 mq20 => ?_)
          have kn21 := (oq20 (h) 2 (by first | omega | (simp only [Hs, Tl, Sc, isHs, isScr, isTs] at *; omega))).trans kn18
          have kn22 := (oq20 (s) 1 (by first | omega | (simp only [Hs, Tl, Sc, isHs, isScr, isTs] at *; omega))).trans kn19
          refine w_load (.aload_n 0) 80 (by decide +kernel) rfl rfl ?_
          refine w_getR (k := 1) (r := h + 2) 83 (by decide +kernel) hh.1.1 rfl ?_
          refine w_load (.iload_n 2) 84 (by decide +kernel) rfl rfl ?_
          refine w_load (.aload_n 1) 85 (by decide +kernel) rfl rfl ?_
          refine w_load (.iload_n 3) 86 (by decide +kernel) rfl rfl ?_
          refine w_pushN 3 87 (by decide +kernel) ?_
          refine w_addN (g2 * 4 + 1 + 3) 88 (by decide +kernel) (by omega) ?_
          refine w_callV1 40 2 2 91 (by decide +kernel) hcs.1.1 (Nat.le_of_ble_eq_true rfl) rfl (by decide) (by omega) ?_
          refine s_letterAt hS.1 hcs (by omega) kn22 (by omega) (by omega) (fun r23 hr23 => ?_)
          have hl3 : r23 = M (s + 1) (4 * g2 + 4) := by rw [hr23, mq20, row_ne (by simp only [Hs, Sc, isHs, isScr] at *; omega), mq17, row_ne (by simp only [Hs, Sc, isHs, isScr] at *; omega), mq13, row_ne (by simp only [Hs, Sc, isHs, isScr] at *; omega), hi3_18]; congr 1; omega
          dsimp only [Option.toList, List.cons_append, List.nil_append]
          refine w_pushN 48 93 (by decide +kernel) ?_
          refine w_pure .isub 94 (by decide +kernel) rfl rfl ?_
          refine w_iastE 95 (by decide +kernel) hh.1.2.2 (by omega) (by omega) hS (Rg.free (by simp only [Hs, Tl, Sc, isScr, isHs, isTs] at *; omega)) (by first | exact rfl | omega | (dsimp only; omega) | (simp only [Hs, Tl, Sc, isHs, isScr, isTs] at *; omega)) (fun Nq24 hS hq24 oq24 mq24 => ?_)
          have kn25 := (oq24 (h) 2 (by first | omega | (simp only [Hs, Tl, Sc, isHs, isScr, isTs] at *; omega))).trans kn21
          have kn26 := (oq24 (s) 1 (by first | omega | (simp only [Hs, Tl, Sc, isHs, isScr, isTs] at *; omega))).trans kn22
          have hA1 : Nq24 (h + 1) = up1 (up1 (up1 (N_18 (h + 1)) g2 (M (s + 1) (4 * g2 + 2) - nI 97)) (5 + g2) (M (s + 1) (4 * g2 + 3) - nI 48)) (10 + g2) (-9) := by rw [mq24, row_ne (by omega), mq20, row_eq, mq17, row_eq, mq13, row_eq, hl1, hl2]
          have hA2 : Nq24 (h + 2) = up1 (N_18 (h + 2)) g2 (M (s + 1) (4 * g2 + 4) - nI 48) := by rw [mq24, row_eq, mq20, row_ne (by omega), mq17, row_ne (by omega), mq13, row_ne (by omega), hl3]
          have hA3 : Nq24 (s + 1) = M (s + 1) := by rw [mq24, row_ne (by simp only [Hs, Sc, isHs, isScr] at *; omega), mq20, row_ne (by simp only [Hs, Sc, isHs, isScr] at *; omega), mq17, row_ne (by simp only [Hs, Sc, isHs, isScr] at *; omega), mq13, row_ne (by simp only [Hs, Sc, isHs, isScr] at *; omega)]; exact hi3_18
          have hA4 := set_step hi4_18 hA1 hA2 (by omega)
          refine w_iincN (z := 2) (g2 + 1) 98 (by decide +kernel) rfl (Nat.le_of_ble_eq_true rfl) rfl rfl ?_
          show Wp _ _ _ [.ref h, .ref s, .int (nI (g2 + 1)), .int (nI (g2 * 4 + 1))] _ _ _ _
          refine w_goto 18 (by decide +kernel) ?_
          refine Wp.forget (ls := [.ref h, .ref s, .int (nI (g2 + 1)), .null]) ⟨Or.inl rfl, Or.inl rfl, Or.inl rfl, Or.inr ⟨rfl, rfl⟩, trivial⟩ ?_
          exact ih_18 Nq24 (g2 + 1) hS (by first | omega | assumption) (by first | omega | assumption) (by first | omega | assumption) (by first | omega | assumption) (by first | omega | assumption) (by omega)
    exact LP_18 _ Nq2 0 hS (by first | omega | assumption | (intro i hi; omega) ) (by first | omega | assumption | (intro i hi; omega) ) (by first | omega | assumption | (intro i hi; omega) ) (by first | omega | assumption | (intro i hi; omega) ) (by first | omega | assumption | (intro i hi; omega) ) (Nat.lt_succ_self _)
