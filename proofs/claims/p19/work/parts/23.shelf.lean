-- X4_put
set_option maxRecDepth 10000 in
theorem k_55 {d : Nat} {M : Mt} {L : Lt} {Q : Option Value → Mt → Lt → Prop} {s n : Nat} {h : Nat} {p : Int32} (hI : Inv M) (hf : isShelf s n) (hn : 17 ≤ n ∧ n < 2 ^ 31) (hs3 : s = 58 ∨ s = 60 ∨ s = 62) (hh : Hs h) (hd : 1 ≤ d) (hq : ∀ (N : Mt), St (fun i _ => i = s + 1) M N → True → Q none N L) : Wp d 55 0 [.ref s, .int p, .ref h] [] M L Q := by
  refine (show ∀ N : Mt, N = M → St (fun i _ => i = s + 1) M N → Wp d 55 0 [.ref s, .int p, .ref h] [] N L Q from ?_) M rfl (St.rf hI)
  intro N hNM hS
  refine w_load (.aload_n 2) 1 (by decide +kernel) rfl rfl ?_
  refine w_load (.aload_n 0) 2 (by decide +kernel) rfl rfl ?_
  refine w_getR (k := 0) (r := s + 1) 5 (by decide +kernel) hf.1 rfl ?_
  refine w_load (.iload_n 1) 6 (by decide +kernel) rfl rfl ?_
  refine w_pushN 17 8 (by decide +kernel) ?_
  refine w_pure .imul 9 (by decide +kernel) rfl rfl ?_
  refine w_callV2 33 1 3 12 (by decide +kernel) hh.1.1 (Nat.le_of_ble_eq_true rfl) rfl rfl (by decide) (by omega) ?_
  refine k_33 hS.1 hh hf.2 (by omega) (fun _ _ => Rg.free (by simp only [isScr, isHs, isTs] at *; omega)) (by omega) (fun Nr1 hTr1 hr1 => ?_)
  have hS := hS.tr hTr1 (by intro i k; first | exact rfl | omega | (dsimp only; omega) | (simp only [Hs, Tl, Sc, isHs, isScr, isTs] at *; omega))
  dsimp only [Option.toList, List.nil_append]
  exact w_retV (by decide +kernel) (hq Nr1 hS trivial)
-- X4_firstLike
set_option maxRecDepth 10000 in
theorem k_57 {d : Nat} {M : Mt} {L : Lt} {Q : Option Value → Mt → Lt → Prop} {s n : Nat} {h m : Nat} (hI : Inv M) (hf : isShelf s n) (hn : 17 ≤ n ∧ n < 2 ^ 31) (hs3 : s = 58 ∨ s = 60 ∨ s = 62) (hh : Hs h) (hm : m ≤ 60) (hd : 1 ≤ d) (hq : ∀ (r : Int32), True → Q (some (.int r)) M L) : Wp d 57 0 [.ref s, .ref h, .int (nI m), .null] [] M L Q := by
  refine w_pushN 0 1 (by decide +kernel) ?_
  refine w_store (ls' := [.ref s, .ref h, .int (nI m), .int (nI 0)]) (.istore_n 3) 2 (by decide +kernel) rfl rfl ?_
  have LP_2 : ∀ (kk : Nat) (g3 : Nat), g3 ≤ 60 → 60 - g3 < kk → Wp d 57 2 [.ref s, .ref h, .int (nI m), .int (nI g3)] [] M L Q := by
    intro kk
    induction kk with
    | zero => intro g3 hi0_2 hm_2; exact absurd hm_2 (Nat.not_lt_zero _)
    | succ kk ih_2 =>
      intro g3 hi0_2 hm_2
      refine w_load (.iload_n 3) 3 (by decide +kernel) rfl rfl ?_
      refine w_load (.iload_n 2) 4 (by decide +kernel) rfl rfl ?_
      refine w_cgeN 30 7 (by decide +kernel) (by omega) (by omega) (fun h1 => ?_) (fun h1 => ?_)
      · skip
        refine w_push (-9) 32 (by decide +kernel) ?_
        exact w_ret (by decide +kernel) (hq _ trivial)
      · skip
        refine w_load (.aload_n 1) 8 (by decide +kernel) rfl rfl ?_
        refine w_load (.aload_n 0) 9 (by decide +kernel) rfl rfl ?_
        refine w_getR (k := 0) (r := s + 1) 12 (by decide +kernel) hf.1 rfl ?_
        refine w_load (.iload_n 3) 13 (by decide +kernel) rfl rfl ?_
        refine w_pushN 17 15 (by decide +kernel) ?_
        refine w_mulN (g3 * 17) 16 (by decide +kernel) rfl ?_
        refine w_callV2 32 1 4 19 (by decide +kernel) hh.1.1 (Nat.le_of_ble_eq_true rfl) rfl rfl (by decide) (by omega) ?_
        refine k_32 hI hh hf.2 (by omega) (by omega) (fun r2 hr2 => ?_)
        dsimp only [Option.toList, List.cons_append, List.nil_append]
        refine w_ieq 24 22 (by decide +kernel) (fun h3 => ?_) (fun h3 => ?_)
        · skip
          refine w_iincN (z := 3) (g3 + 1) 27 (by decide +kernel) rfl (Nat.le_of_ble_eq_true rfl) rfl rfl ?_
          show Wp _ _ _ [.ref s, .ref h, .int (nI m), .int (nI (g3 + 1))] _ _ _ _
          refine w_goto 2 (by decide +kernel) ?_
          exact ih_2 (g3 + 1) (by omega) (by omega)
        · skip
          refine w_load (.iload_n 3) 23 (by decide +kernel) rfl rfl ?_
          exact w_ret (by decide +kernel) (hq _ trivial)
  exact LP_2 _ 0 (by omega) (Nat.lt_succ_self _)
