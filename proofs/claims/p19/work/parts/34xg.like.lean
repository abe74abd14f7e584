-- X6_copyFrom#s
set_option maxRecDepth 10000 in
theorem s_tcopy {d : Nat} {M : Mt} {L : Lt} {Q : Option Value → Mt → Lt → Prop} {t o n : Nat} {s : TSt} (hI : Inv M) (ht : Tl t) (ho : Tl o) (hne : ¬ t = o) (hn : n ≤ 5) (en : M (o + 1) 2 = nI n) (hs : shT n o M s) (hd : 1 ≤ d) (hq : ∀ (N : Mt), St (fun i _ => t ≤ i ∧ i ≤ t + 4) M N → (shT n t N s ∧ N (t + 1) 2 = nI n) → Q none N L) : Wp d 67 0 [.ref t, .ref o] [] M L Q := by
  refine (show ∀ N : Mt, N = M → St (fun i _ => t ≤ i ∧ i ≤ t + 4) M N → Wp d 67 0 [.ref t, .ref o] [] N L Q from ?_) M rfl (St.rf hI)
  intro N hNM hS
  refine w_load (.aload_n 0) 1 (by decide +kernel) rfl rfl ?_
  refine w_getR (k := 0) (r := t + 1) 4 (by decide +kernel) ht.1.1 rfl ?_
  refine w_load (.aload_n 1) 5 (by decide +kernel) rfl rfl ?_
  refine w_getR (k := 0) (r := o + 1) 8 (by decide +kernel) ho.1.1 rfl ?_
  refine w_callV1 8 1 2 11 (by decide +kernel) ht.1.2.1.1 (Nat.le_of_ble_eq_true rfl) rfl (by decide) (by omega) ?_
  refine k_8 hS.1 (tl_h ht) (tl_h ho) (by omega) (fun Nr1 hTr1 hr1 => ?_)
  have hS := hS.tr hTr1 (by intro i k; first | exact rfl | exact fun h => h.elim | omega | (dsimp only; omega) | (simp only [Hs, Tl, Sc, isHs, isScr, isTs] at *; omega))
  dsimp only [Option.toList, List.nil_append]
  refine w_load (.aload_n 1) 12 (by decide +kernel) rfl rfl ?_
  refine w_getR (k := 1) (r := o + 4) 15 (by decide +kernel) ho.1.1 rfl ?_
  refine w_pushN 0 16 (by decide +kernel) ?_
  refine w_load (.aload_n 0) 17 (by decide +kernel) rfl rfl ?_
  refine w_getR (k := 1) (r := t + 4) 20 (by decide +kernel) ht.1.1 rfl ?_
  refine w_pushN 0 21 (by decide +kernel) ?_
  refine w_load (.aload_n 0) 22 (by decide +kernel) rfl rfl ?_
  refine w_getR (k := 1) (r := t + 4) 25 (by decide +kernel) ht.1.1 rfl ?_
  refine w_alen (nI 5) 26 (by decide +kernel) ht.1.2.2 (by decide) (by first | rfl | simp [nI]) ?_
  refine w_acpyE 29 (by decide +kernel) ho.1.2.2 ht.1.2.2 (by omega) (by omega) (by omega) (by omega) (Nat.le_of_ble_eq_true rfl) hS (fun z hz1 hz2 => Rg.free (by simp only [Hs, Tl, Sc, isScr, isHs, isTs] at *; omega)) (by intro z hz1 hz2; first | exact rfl | omega | (dsimp only; omega) | (simp only [Hs, Tl, Sc, isHs, isScr, isTs] at *; omega)) (fun Nc1 hS hc1 => ?_)
  refine w_load (.aload_n 0) 30 (by decide +kernel) rfl rfl ?_
  refine w_load (.aload_n 1) 31 (by decide +kernel) rfl rfl ?_
  refine w_getI (k := 2) 34 (by decide +kernel) ho.1.1 rfl ?_
  refine w_putE (k := 2) 37 (by decide +kernel) ht.1.1 rfl hS (Rg.free (by simp only [Hs, Tl, Sc, isScr, isHs, isTs] at *; omega)) (by first | exact rfl | omega | (dsimp only; omega) | (simp only [Hs, Tl, Sc, isHs, isScr, isTs] at *; omega)) (fun Nq3 hS hq3 oq3 mq3 => ?_)
  refine w_load (.aload_n 0) 38 (by decide +kernel) rfl rfl ?_
  refine w_load (.aload_n 1) 39 (by decide +kernel) rfl rfl ?_
  refine w_getI (k := 3) 42 (by decide +kernel) ho.1.1 rfl ?_
  refine w_putE (k := 3) 45 (by decide +kernel) ht.1.1 rfl hS (Rg.free (by simp only [Hs, Tl, Sc, isScr, isHs, isTs] at *; omega)) (by first | exact rfl | omega | (dsimp only; omega) | (simp only [Hs, Tl, Sc, isHs, isScr, isTs] at *; omega)) (fun Nq4 hS hq4 oq4 mq4 => ?_)
  exact w_retV (by decide +kernel) (hq Nq4 hS (tcopy ht ho hne hn en hs (by rw [hr1, hNM]) hc1 mq3 mq4))
