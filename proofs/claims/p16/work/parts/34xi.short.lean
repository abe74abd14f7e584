-- X3_isEnd#s
set_option maxRecDepth 10000 in
theorem s_isEnd {d : Nat} {M : Mt} {L : Lt} {Q : Option Value → Mt → Lt → Prop} {h n k e : Nat} {c : Row} {v : Int32} (hI : Inv M) (hh : Hs h) (hn : n ≤ 5) (en : M h 2 = nI n) (hc : HE n (M (h + 1)) c) (hk : k < n) (he : e ≤ 3) (hd : 2 ≤ d) (hq : ∀ (r : Int32), ((r = 1 ∧ endP c k e v) ∨ (r = 0 ∧ ¬ endP c k e v)) → Q (some (.int r)) M L) : Wp d 53 0 [.ref h, .int (nI k), .int (nI e), .int v] [] M L Q := by
  refine w_load (.iload_n 2) 1 (by decide +kernel) rfl rfl ?_
  refine w_tab (show insAt 53 1 = some (.tableswitch 71 0 2 #[27, 41, 56]) by decide +kernel) (fun h1 => ⟨72, rfl, ?_⟩) (fun z2 h1 h1b => ?_)
  · skip
    rw [nI_toInt (by omega)] at h1
    refine w_load (.aload_n 0) 73 (by decide +kernel) rfl rfl ?_
    refine w_load (.iload_n 1) 74 (by decide +kernel) rfl rfl ?_
    refine w_callV1 12 1 2 77 (by decide +kernel) hh.1.1 (Nat.le_of_ble_eq_true rfl) rfl (by decide) (by omega) ?_
    refine s_nameOf hI hh (by omega) en hc (by omega) (by omega) (fun r3 hr3 => ?_)
    dsimp only [Option.toList, List.cons_append, List.nil_append]
    rcases hr3 with rfl
    · skip
      refine w_load (.iload_n 3) 78 (by decide +kernel) rfl rfl ?_
      refine w_cne 85 81 (by decide +kernel) (fun h4 => ?_) (fun h4 => ?_)
      · skip
        refine w_pushN 0 86 (by decide +kernel) ?_
        exact w_retZ (by decide +kernel) (Or.inl rfl) (hq _ (Or.inr ⟨rfl, fun hz => absurd ((end_3 (by omega)).mp hz) (by assumption)⟩))
      · skip
        refine w_pushN 1 82 (by decide +kernel) ?_
        refine w_goto 86 (by decide +kernel) ?_
        exact w_retZ (by decide +kernel) (Or.inr rfl) (hq _ (Or.inl ⟨rfl, (end_3 (by omega)).mpr (by assumption)⟩))
  · rw [nI_toInt (by omega)] at h1
    rcases (by omega : z2 = 0 ∨ z2 = 1 ∨ z2 = 2) with rfl | rfl | rfl
    · refine ⟨_, 28, rfl, rfl, ?_⟩
      refine w_load (.aload_n 0) 29 (by decide +kernel) rfl rfl ?_
      refine w_load (.iload_n 1) 30 (by decide +kernel) rfl rfl ?_
      refine w_callV1 16 1 2 33 (by decide +kernel) hh.1.1 (Nat.le_of_ble_eq_true rfl) rfl (by decide) (by omega) ?_
      refine s_lives hI hh (by omega) en hc (by omega) (by omega) (fun r5 hr5 => ?_)
      dsimp only [Option.toList, List.cons_append, List.nil_append]
      rcases hr5 with ⟨rfl, htr5⟩ | ⟨rfl, htr5⟩
      · skip
        refine w_ine 40 36 (by decide +kernel) (fun _ => ?_) (fun hz => absurd hz (by decide))
        refine w_pushN 0 41 (by decide +kernel) ?_
        exact w_retZ (by decide +kernel) (Or.inl rfl) (hq _ (Or.inr ⟨rfl, fun hz => tb_no (by assumption) ((end_0 (by omega)).mp hz)⟩))
      · skip
        refine w_ine 40 36 (by decide +kernel) (fun hz => absurd hz (by decide)) (fun _ => ?_)
        refine w_pushN 1 37 (by decide +kernel) ?_
        refine w_goto 41 (by decide +kernel) ?_
        exact w_retZ (by decide +kernel) (Or.inr rfl) (hq _ (Or.inl ⟨rfl, (end_0 (by omega)).mpr (by assumption)⟩))
    · refine ⟨_, 42, rfl, rfl, ?_⟩
      refine w_load (.aload_n 0) 43 (by decide +kernel) rfl rfl ?_
      refine w_load (.iload_n 1) 44 (by decide +kernel) rfl rfl ?_
      refine w_callV1 14 1 2 47 (by decide +kernel) hh.1.1 (Nat.le_of_ble_eq_true rfl) rfl (by decide) (by omega) ?_
      refine s_spouseOf hI hh (by omega) en hc (by omega) (by omega) (fun r8 hr8 => ?_)
      dsimp only [Option.toList, List.cons_append, List.nil_append]
      rcases hr8 with rfl
      · skip
        refine w_load (.iload_n 3) 48 (by decide +kernel) rfl rfl ?_
        refine w_cne 55 51 (by decide +kernel) (fun h9 => ?_) (fun h9 => ?_)
        · skip
          refine w_pushN 0 56 (by decide +kernel) ?_
          exact w_retZ (by decide +kernel) (Or.inl rfl) (hq _ (Or.inr ⟨rfl, fun hz => absurd ((end_1 (by omega)).mp hz) (by assumption)⟩))
        · skip
          refine w_pushN 1 52 (by decide +kernel) ?_
          refine w_goto 56 (by decide +kernel) ?_
          exact w_retZ (by decide +kernel) (Or.inr rfl) (hq _ (Or.inl ⟨rfl, (end_1 (by omega)).mpr (by assumption)⟩))
    · refine ⟨_, 57, rfl, rfl, ?_⟩
      refine w_load (.aload_n 0) 58 (by decide +kernel) rfl rfl ?_
      refine w_load (.iload_n 1) 59 (by decide +kernel) rfl rfl ?_
      refine w_callV1 13 1 2 62 (by decide +kernel) hh.1.1 (Nat.le_of_ble_eq_true rfl) rfl (by decide) (by omega) ?_
      refine s_purseOf hI hh (by omega) en hc (by omega) (by omega) (fun r10 hr10 => ?_)
      dsimp only [Option.toList, List.cons_append, List.nil_append]
      rcases hr10 with rfl
      · skip
        refine w_load (.iload_n 3) 63 (by decide +kernel) rfl rfl ?_
        refine w_clt 70 66 (by decide +kernel) (fun h11 => ?_) (fun h11 => ?_)
        · skip
          refine w_pushN 0 71 (by decide +kernel) ?_
          exact w_retZ (by decide +kernel) (Or.inl rfl) (hq _ (Or.inr ⟨rfl, fun hz => Int32.not_lt.mpr ((end_2 (by omega)).mp hz) (by assumption)⟩))
        · skip
          refine w_pushN 1 67 (by decide +kernel) ?_
          refine w_goto 71 (by decide +kernel) ?_
          exact w_retZ (by decide +kernel) (Or.inr rfl) (hq _ (Or.inl ⟨rfl, (end_2 (by omega)).mpr (Int32.not_lt.mp (by assumption))⟩))
-- X3_lastDeedBehind#s
set_option maxRecDepth 10000 in
theorem s_lastDeed {d : Nat} {M : Mt} {L : Lt} {Q : Option Value → Mt → Lt → Prop} {t n k e : Nat} {s : TSt} {v : Int32} (hI : Inv M) (ht : Tl t) (ht2 : t = 16 ∨ t = 21) (hn : n ≤ 5) (en : M (t + 1) 2 = nI n) (hs : shT n t M s) (hw : wedOk n s.1) (hk : k < n) (he : e ≤ 3) (hd : 5 ≤ d) (hq : ∀ (r : Int32) (N : Mt), St (fun i _ => 26 ≤ i ∧ i ≤ 30) M N → ((∃ x, ofK e x ∧ endP (hearF n (nI x) 1 s).1 k e v ∧ r = nI x) ∨ ((∀ x, ofK e x → ¬ endP (hearF n (nI x) 1 s).1 k e v) ∧ r = -9)) → Q (some (.int r)) N L) : Wp d 52 0 [.ref 15, .ref t, .int (nI k), .int (nI e), .int v, .null, .null] [] M L Q := by
  refine (show ∀ N : Mt, N = M → St (fun i _ => 26 ≤ i ∧ i ≤ 30) M N → Wp d 52 0 [.ref 15, .ref t, .int (nI k), .int (nI e), .int v, .null, .null] [] N L Q from ?_) M rfl (St.rf hI)
  intro N hNM hS
  refine w_load (.iload_n 3) 1 (by decide +kernel) rfl rfl ?_
  refine w_pushN 16 3 (by decide +kernel) ?_
  refine w_mulN (e * 16) 4 (by decide +kernel) rfl ?_
  refine w_store (ls' := [.ref 15, .ref t, .int (nI k), .int (nI e), .int v, .int (nI (e * 16)), .null]) (.istore 5) 6 (by decide +kernel) rfl rfl ?_
  refine w_load (.iload 5) 8 (by decide +kernel) rfl rfl ?_
  refine w_store (ls' := [.ref 15, .ref t, .int (nI k), .int (nI e), .int v, .int (nI (e * 16)), .int (nI (e * 16))]) (.istore 6) 10 (by decide +kernel) rfl rfl ?_
  have LP_10 : ∀ (kk : Nat) (N_10 : Mt) (g6 : Nat), St (fun i _ => 26 ≤ i ∧ i ≤ 30) M N_10 → g6 ≤ 64 → e * 16 ≤ g6 → g6 ≤ e * 16 + 16 → (∀ x, e * 16 ≤ x → x < g6 → ¬ endP (hearF n (nI x) 1 s).1 k e v) → 64 - g6 < kk → Wp d 52 10 [.ref 15, .ref t, .int (nI k), .int (nI e), .int v, .int (nI (e * 16)), .int (nI g6)] [] N_10 L Q := by
    intro kk
    induction kk with
    | zero => intro N_10 g6 hS hi0_10 hi1_10 hi2_10 hi3_10 hm_10; exact absurd hm_10 (Nat.not_lt_zero _)
    | succ kk ih_10 =>
      intro N_10 g6 hS hi0_10 hi1_10 hi2_10 hi3_10 hm_10
      refine w_load (.iload 6) 12 (by decide +kernel) rfl rfl ?_
      refine w_load (.iload 5) 14 (by decide +kernel) rfl rfl ?_
      refine w_pushN 16 16 (by decide +kernel) ?_
      refine w_addN (e * 16 + 16) 17 (by decide +kernel) (by omega) ?_
      refine w_cgeN 64 20 (by decide +kernel) (by omega) (by omega) (fun h1 => ?_) (fun h1 => ?_)
      · skip
        refine w_push (-9) 66 (by decide +kernel) ?_
        exact w_ret (by decide +kernel) (hq _ N_10 hS (Or.inr ⟨fun x hx => hi3_10 x hx.1 (by have := hx.2; omega), rfl⟩))
      · skip
        refine w_load (.aload_n 0) 21 (by decide +kernel) rfl rfl ?_
        refine w_getR (k := 2) (r := 26) 24 (by decide +kernel) sh_15 rfl ?_
        refine w_load (.aload_n 1) 25 (by decide +kernel) rfl rfl ?_
        refine w_callV1 67 6 2 28 (by decide +kernel) sh_26 (Nat.le_of_ble_eq_true rfl) rfl (by decide) (by omega) ?_
        refine s_tcopy hS.1 tl_26 ht (by omega) (by omega) ((hS.2 (t + 1) 2 (by (try dsimp only); first | omega | (simp only [Hs, Tl, Sc, isHs, isScr, isTs] at *; omega))).trans en) (shT.keep hs (hS.row (fun k => (by (try dsimp only); first | omega | (simp only [Hs, Tl, Sc, isHs, isScr, isTs] at *; omega)))) (hS.row (fun k => (by (try dsimp only); first | omega | (simp only [Hs, Tl, Sc, isHs, isScr, isTs] at *; omega)))) (hS.row (fun k => (by (try dsimp only); first | omega | (simp only [Hs, Tl, Sc, isHs, isScr, isTs] at *; omega))))) (by omega) (fun Nr2 hTr2 hr2 => ?_)
        have hS := hS.tr hTr2 (by intro i k; first | exact rfl | exact fun h => h.elim | omega | (dsimp only; omega) | (simp only [Hs, Tl, Sc, isHs, isScr, isTs] at *; omega))
        have s26 := hr2.1
        dsimp only [Option.toList, List.nil_append]
        refine w_load (.aload_n 0) 29 (by decide +kernel) rfl rfl ?_
        refine w_getR (k := 2) (r := 26) 32 (by decide +kernel) sh_15 rfl ?_
        refine w_load (.iload 6) 34 (by decide +kernel) rfl rfl ?_
        refine w_pushN 1 35 (by decide +kernel) ?_
        refine w_callV2 69 6 6 38 (by decide +kernel) sh_26 (Nat.le_of_ble_eq_true rfl) rfl rfl (by decide) (by omega) ?_
        refine s_hear hS.1 tl_26 (by omega) hr2.2 s26 hw (by omega) (fun Nr3 hTr3 hr3 => ?_)
        have hS := hS.tr hTr3 (by intro i k; first | exact rfl | exact fun h => h.elim | omega | (dsimp only; omega) | (simp only [Hs, Tl, Sc, isHs, isScr, isTs] at *; omega))
        have g27 : Nr3 27 2 = nI n := (hTr3.2 27 2 (by (try dsimp only); first | omega | (simp only [Hs, Tl, Sc, isHs, isScr, isTs] at *; omega))).trans hr2.2
        have s27 := hr3
        dsimp only [Option.toList, List.nil_append]
        refine w_load (.aload_n 0) 39 (by decide +kernel) rfl rfl ?_
        refine w_getR (k := 2) (r := 26) 42 (by decide +kernel) sh_15 rfl ?_
        refine w_getR (k := 0) (r := 27) 45 (by decide +kernel) sh_26 rfl ?_
        refine w_load (.iload_n 2) 46 (by decide +kernel) rfl rfl ?_
        refine w_load (.iload_n 3) 47 (by decide +kernel) rfl rfl ?_
        refine w_load (.iload 4) 49 (by decide +kernel) rfl rfl ?_
        refine w_callS4 53 4 52 (by decide +kernel) (Nat.le_of_ble_eq_true rfl) rfl rfl rfl rfl (by decide) (by omega) ?_
        refine s_isEnd hS.1 hs_27 (by omega) g27 s27.1 (by omega) (by omega) (by omega) (fun r4 hr4 => ?_)
        dsimp only [Option.toList, List.cons_append, List.nil_append]
        rcases hr4 with ⟨rfl, henr4⟩ | ⟨rfl, henr4⟩
        · skip
          refine w_ieq 58 55 (by decide +kernel) (fun hz => absurd hz (by decide)) (fun _ => ?_)
          refine w_load (.iload 6) 57 (by decide +kernel) rfl rfl ?_
          exact w_ret (by decide +kernel) (hq _ Nr3 hS (Or.inl ⟨g6, ⟨by omega, by omega⟩, by assumption, rfl⟩))
        · skip
          refine w_ieq 58 55 (by decide +kernel) (fun _ => ?_) (fun hz => absurd hz (by decide))
          refine w_iincN (z := 6) (g6 + 1) 61 (by decide +kernel) rfl (Nat.le_of_ble_eq_true rfl) rfl rfl ?_
          show Wp _ _ _ [.ref 15, .ref t, .int (nI k), .int (nI e), .int v, .int (nI (e * 16)), .int (nI (g6 + 1))] _ _ _ _
          refine w_goto 10 (by decide +kernel) ?_
          exact ih_10 Nr3 (g6 + 1) hS (by first | omega | exact lt_ext2 hi3_10 (by assumption)) (by first | omega | exact lt_ext2 hi3_10 (by assumption)) (by first | omega | exact lt_ext2 hi3_10 (by assumption)) (by first | omega | exact lt_ext2 hi3_10 (by assumption)) (by omega)
  exact LP_10 _ N (e * 16) hS (by first | omega | (intro x h1 h2; omega)) (by first | omega | (intro x h1 h2; omega)) (by first | omega | (intro x h1 h2; omega)) (by first | omega | (intro x h1 h2; omega)) (Nat.lt_succ_self _)
-- X3_seek#s
set_option maxRecDepth 10000 in
theorem s_seek {d : Nat} {M : Mt} {L : Lt} {Q : Option Value → Mt → Lt → Prop} {n k e : Nat} {c pw : Row} {v : Int32} (hI : Inv M) (hn : n ≤ 5) (en : M 4 2 = nI n) (hc : HE n (M 5) c) (hp : LQ n (M 6) pw) (hw : wedOk n c) (hk : k < n) (he : e ≤ 3) (hd : 6 ≤ d) (hq : ∀ (N : Mt), St (fun i _ => 15 ≤ i ∧ i ≤ 30) M N → (lenK n c pw k e v (ofK e) (N 15 3)) → Q none N L) : Wp d 51 0 [.ref 15, .ref 4, .int (nI k), .int (nI e), .int v, .null] [] M L Q := by
  refine (show ∀ N : Mt, N = M → St (fun i _ => 15 ≤ i ∧ i ≤ 30) M N → Wp d 51 0 [.ref 15, .ref 4, .int (nI k), .int (nI e), .int v, .null] [] N L Q from ?_) M rfl (St.rf hI)
  intro N hNM hS
  have kz0 : N (4) 2 = nI n := by rw [hNM]; exact en
  refine w_load (.aload_n 0) 1 (by decide +kernel) rfl rfl ?_
  refine w_getR (k := 0) (r := 16) 4 (by decide +kernel) sh_15 rfl ?_
  refine w_load (.aload_n 1) 5 (by decide +kernel) rfl rfl ?_
  refine w_callV1 66 6 3 8 (by decide +kernel) sh_16 (Nat.le_of_ble_eq_true rfl) rfl (by decide) (by omega) ?_
  refine s_begin hS.1 tl_16 hs_4 (by omega) kz0 (by rw [hNM]; exact hc) (by rw [hNM]; exact hp) (by omega) (fun Nr1 hTr1 hr1 => ?_)
  have kn2 := (hTr1.2 (4) 2 (by (try dsimp only); first | omega | (simp only [Hs, Tl, Sc, isHs, isScr, isTs] at *; omega))).trans kz0
  have hS := hS.tr hTr1 (by intro i k; first | exact rfl | exact fun h => h.elim | omega | (dsimp only; omega) | (simp only [Hs, Tl, Sc, isHs, isScr, isTs] at *; omega))
  have s5 := hr1.1
  have s5g := hr1.2.1
  dsimp only [Option.toList, List.nil_append]
  refine w_load (.aload_n 1) 9 (by decide +kernel) rfl rfl ?_
  refine w_load (.iload_n 2) 10 (by decide +kernel) rfl rfl ?_
  refine w_load (.iload_n 3) 11 (by decide +kernel) rfl rfl ?_
  refine w_load (.iload 4) 13 (by decide +kernel) rfl rfl ?_
  refine w_callS4 53 4 16 (by decide +kernel) (Nat.le_of_ble_eq_true rfl) rfl rfl rfl rfl (by decide) (by omega) ?_
  refine s_isEnd hS.1 hs_4 (by omega) kn2 (by rw [hS.row (x := 5) (fun k => (by (try dsimp only); first | omega | (simp only [Hs, Tl, Sc, isHs, isScr, isTs] at *; omega)))]; exact hc) (by omega) (by omega) (by omega) (fun r3 hr3 => ?_)
  dsimp only [Option.toList, List.cons_append, List.nil_append]
  rcases hr3 with ⟨rfl, henr3⟩ | ⟨rfl, henr3⟩
  · skip
    refine w_ieq 25 19 (by decide +kernel) (fun hz => absurd hz (by decide)) (fun _ => ?_)
    refine w_load (.aload_n 0) 20 (by decide +kernel) rfl rfl ?_
    refine w_pushN 0 21 (by decide +kernel) ?_
    refine w_putE (k := 3) 24 (by decide +kernel) sh_15 rfl hS (Rg.free (by simp only [Hs, Tl, Sc, isScr, isHs, isTs] at *; omega)) (by first | exact rfl | omega | (dsimp only; omega) | (simp only [Hs, Tl, Sc, isHs, isScr, isTs] at *; omega)) (fun Nq5 hS hq5 oq5 mq5 => ?_)
    have kn6 := (oq5 (4) 2 (by first | omega | (simp only [Hs, Tl, Sc, isHs, isScr, isTs] at *; omega))).trans kn2
    have kn7 := (oq5 (17) 2 (by first | omega | (simp only [Hs, Tl, Sc, isHs, isScr, isTs] at *; omega))).trans s5g
    exact w_retV (by decide +kernel) (hq Nq5 hS (Or.inl ⟨henr3, by rw [mq5, up2_eq]⟩))
  · skip
    refine w_ieq 25 19 (by decide +kernel) (fun _ => ?_) (fun hz => absurd hz (by decide))
    refine w_load (.aload_n 0) 26 (by decide +kernel) rfl rfl ?_
    refine w_load (.aload_n 0) 27 (by decide +kernel) rfl rfl ?_
    refine w_load (.aload_n 0) 28 (by decide +kernel) rfl rfl ?_
    refine w_getR (k := 0) (r := 16) 31 (by decide +kernel) sh_15 rfl ?_
    refine w_load (.iload_n 2) 32 (by decide +kernel) rfl rfl ?_
    refine w_load (.iload_n 3) 33 (by decide +kernel) rfl rfl ?_
    refine w_load (.iload 4) 35 (by decide +kernel) rfl rfl ?_
    refine w_callV4 52 3 7 38 (by decide +kernel) sh_15 (Nat.le_of_ble_eq_true rfl) rfl rfl rfl rfl (by decide) (by omega) ?_
    refine s_lastDeed hS.1 tl_16 (by omega) (by omega) s5g s5 hw (by omega) (by omega) (by omega) (fun r9 Nr9 hTr9 hr9 => ?_)
    have kn10 := (hTr9.2 (4) 2 (by (try dsimp only); first | omega | (simp only [Hs, Tl, Sc, isHs, isScr, isTs] at *; omega))).trans kn2
    have hS := hS.tr hTr9 (by intro i k; first | exact rfl | exact fun h => h.elim | omega | (dsimp only; omega) | (simp only [Hs, Tl, Sc, isHs, isScr, isTs] at *; omega))
    have s35 : shT n 16 Nr9 (c, pw, nI 0, nI 0) := (shT.keep s5 (hTr9.row (fun k => (by (try dsimp only); first | omega | (simp only [Hs, Tl, Sc, isHs, isScr, isTs] at *; omega)))) (hTr9.row (fun k => (by (try dsimp only); first | omega | (simp only [Hs, Tl, Sc, isHs, isScr, isTs] at *; omega)))) (hTr9.row (fun k => (by (try dsimp only); first | omega | (simp only [Hs, Tl, Sc, isHs, isScr, isTs] at *; omega)))))
    have s35g : Nr9 17 2 = nI n := ((hTr9.2 17 2 (by (try dsimp only); first | omega | (simp only [Hs, Tl, Sc, isHs, isScr, isTs] at *; omega))).trans s5g)
    dsimp only [Option.toList, List.cons_append, List.nil_append]
    rcases hr9 with ⟨xlr9, hxlr9, hxer9, rfl⟩ | ⟨hxnr9, rfl⟩
    · skip
      have hxkr9 : xlr9 < 64 := by have := hxlr9.2; omega
      refine w_putE (k := 4) 41 (by decide +kernel) sh_15 rfl hS (Rg.free (by simp only [Hs, Tl, Sc, isScr, isHs, isTs] at *; omega)) (by first | exact rfl | omega | (dsimp only; omega) | (simp only [Hs, Tl, Sc, isHs, isScr, isTs] at *; omega)) (fun Nq11 hS hq11 oq11 mq11 => ?_)
      have kn12 := (oq11 (4) 2 (by first | omega | (simp only [Hs, Tl, Sc, isHs, isScr, isTs] at *; omega))).trans kn10
      have kn13 := (oq11 (17) 2 (by first | omega | (simp only [Hs, Tl, Sc, isHs, isScr, isTs] at *; omega))).trans s35g
      have s38 : shT n 16 Nq11 (c, pw, nI 0, nI 0) := (shT.keep s35 (by rw [mq11, row_ne (by decide)]) (by rw [mq11, row_ne (by decide)]) (by rw [mq11, row_ne (by decide)]))
      have s38g : Nq11 17 2 = nI n := (by rw [mq11, row_ne (by decide)]; exact s35g)
      refine w_load (.aload_n 0) 42 (by decide +kernel) rfl rfl ?_
      refine w_getI (k := 4) 45 (by decide +kernel) sh_15 rfl ?_
      refine w_push (-9) 47 (by decide +kernel) ?_
      refine w_ceq 56 50 (by decide +kernel) (fun h14 => ?_) (fun h14 => ?_)
      · skip
        exact absurd (hq11.symm.trans h14) (nI_m9' (by omega))
      · skip
        refine w_load (.aload_n 0) 51 (by decide +kernel) rfl rfl ?_
        refine w_pushN 1 52 (by decide +kernel) ?_
        refine w_putE (k := 3) 55 (by decide +kernel) sh_15 rfl hS (Rg.free (by simp only [Hs, Tl, Sc, isScr, isHs, isTs] at *; omega)) (by first | exact rfl | omega | (dsimp only; omega) | (simp only [Hs, Tl, Sc, isHs, isScr, isTs] at *; omega)) (fun Nq15 hS hq15 oq15 mq15 => ?_)
        have kn16 := (oq15 (4) 2 (by first | omega | (simp only [Hs, Tl, Sc, isHs, isScr, isTs] at *; omega))).trans kn12
        have kn17 := (oq15 (17) 2 (by first | omega | (simp only [Hs, Tl, Sc, isHs, isScr, isTs] at *; omega))).trans s38g
        exact w_retV (by decide +kernel) (hq Nq15 hS (Or.inr (Or.inl ⟨henr3, ⟨xlr9, hxlr9, hxer9⟩, by rw [mq15, up2_eq]⟩)))
    · skip
      refine w_putE (k := 4) 41 (by decide +kernel) sh_15 rfl hS (Rg.free (by simp only [Hs, Tl, Sc, isScr, isHs, isTs] at *; omega)) (by first | exact rfl | omega | (dsimp only; omega) | (simp only [Hs, Tl, Sc, isHs, isScr, isTs] at *; omega)) (fun Nq18 hS hq18 oq18 mq18 => ?_)
      have kn19 := (oq18 (4) 2 (by first | omega | (simp only [Hs, Tl, Sc, isHs, isScr, isTs] at *; omega))).trans kn10
      have kn20 := (oq18 (17) 2 (by first | omega | (simp only [Hs, Tl, Sc, isHs, isScr, isTs] at *; omega))).trans s35g
      have s38 : shT n 16 Nq18 (c, pw, nI 0, nI 0) := (shT.keep s35 (by rw [mq18, row_ne (by decide)]) (by rw [mq18, row_ne (by decide)]) (by rw [mq18, row_ne (by decide)]))
      have s38g : Nq18 17 2 = nI n := (by rw [mq18, row_ne (by decide)]; exact s35g)
      refine w_load (.aload_n 0) 42 (by decide +kernel) rfl rfl ?_
      refine w_getI (k := 4) 45 (by decide +kernel) sh_15 rfl ?_
      refine w_push (-9) 47 (by decide +kernel) ?_
      refine w_ceq 56 50 (by decide +kernel) (fun h21 => ?_) (fun h21 => ?_)
      · skip
        refine w_pushN 0 57 (by decide +kernel) ?_
        refine w_store (ls' := [.ref 15, .ref 4, .int (nI k), .int (nI e), .int v, .int (nI 0)]) (.istore 5) 59 (by decide +kernel) rfl rfl ?_
        have LP_59 : ∀ (kk : Nat) (N_59 : Mt) (g5 : Nat), St (fun i _ => 15 ≤ i ∧ i ≤ 30) M N_59 → g5 ≤ 64 → shT n 16 N_59 (c, pw, nI 0, nI 0) → N_59 17 2 = nI n → (∀ x, x < g5 → ¬ ∃ y, ofK e y ∧ end2 n c pw k e v x y) → 64 - g5 < kk → Wp d 51 59 [.ref 15, .ref 4, .int (nI k), .int (nI e), .int v, .int (nI g5)] [] N_59 L Q := by
          intro kk
          induction kk with
          | zero => intro N_59 g5 hS hi0_59 hi1_59 hi2_59 hi3_59 hm_59; exact absurd hm_59 (Nat.not_lt_zero _)
          | succ kk ih_59 =>
            intro N_59 g5 hS hi0_59 hi1_59 hi2_59 hi3_59 hm_59
            refine w_load (.iload 5) 61 (by decide +kernel) rfl rfl ?_
            refine w_pushN 64 63 (by decide +kernel) ?_
            refine w_cgeN 130 66 (by decide +kernel) (by omega) (by omega) (fun h22 => ?_) (fun h22 => ?_)
            · skip
              refine w_load (.aload_n 0) 131 (by decide +kernel) rfl rfl ?_
              refine w_push (-9) 133 (by decide +kernel) ?_
              refine w_putE (k := 3) 136 (by decide +kernel) sh_15 rfl hS (Rg.free (by simp only [Hs, Tl, Sc, isScr, isHs, isTs] at *; omega)) (by first | exact rfl | omega | (dsimp only; omega) | (simp only [Hs, Tl, Sc, isHs, isScr, isTs] at *; omega)) (fun Nq23 hS hq23 oq23 mq23 => ?_)
              have kn24 := (oq23 (17) 2 (by first | omega | (simp only [Hs, Tl, Sc, isHs, isScr, isTs] at *; omega))).trans hi2_59
              exact w_retV (by decide +kernel) (hq Nq23 hS (Or.inr (Or.inr (Or.inr ⟨henr3, (fun ⟨x, hx, hE⟩ => hxnr9 x hx hE), fun ⟨x, y, hx, hy, hE⟩ => hi3_59 x (by omega) ⟨y, hy, hE⟩, by rw [mq23, up2_eq]⟩))))
            · skip
              refine w_load (.aload_n 0) 67 (by decide +kernel) rfl rfl ?_
              refine w_getR (k := 1) (r := 21) 70 (by decide +kernel) sh_15 rfl ?_
              refine w_load (.aload_n 0) 71 (by decide +kernel) rfl rfl ?_
              refine w_getR (k := 0) (r := 16) 74 (by decide +kernel) sh_15 rfl ?_
              refine w_callV1 67 6 2 77 (by decide +kernel) sh_21 (Nat.le_of_ble_eq_true rfl) rfl (by decide) (by omega) ?_
              refine s_tcopy hS.1 tl_21 tl_16 (by omega) (by omega) hi2_59 hi1_59 (by omega) (fun Nr25 hTr25 hr25 => ?_)
              have hS := hS.tr hTr25 (by intro i k; first | exact rfl | exact fun h => h.elim | omega | (dsimp only; omega) | (simp only [Hs, Tl, Sc, isHs, isScr, isTs] at *; omega))
              have s74 : shT n 16 Nr25 (c, pw, nI 0, nI 0) := (shT.keep hi1_59 (hTr25.row (fun k => (by (try dsimp only); first | omega | (simp only [Hs, Tl, Sc, isHs, isScr, isTs] at *; omega)))) (hTr25.row (fun k => (by (try dsimp only); first | omega | (simp only [Hs, Tl, Sc, isHs, isScr, isTs] at *; omega)))) (hTr25.row (fun k => (by (try dsimp only); first | omega | (simp only [Hs, Tl, Sc, isHs, isScr, isTs] at *; omega)))))
              have s74g : Nr25 17 2 = nI n := ((hTr25.2 17 2 (by (try dsimp only); first | omega | (simp only [Hs, Tl, Sc, isHs, isScr, isTs] at *; omega))).trans hi2_59)
              have s21 := hr25.1
              have g22 := hr25.2
              dsimp only [Option.toList, List.nil_append]
              refine w_load (.aload_n 0) 78 (by decide +kernel) rfl rfl ?_
              refine w_getR (k := 1) (r := 21) 81 (by decide +kernel) sh_15 rfl ?_
              refine w_load (.iload 5) 83 (by decide +kernel) rfl rfl ?_
              refine w_pushN 0 84 (by decide +kernel) ?_
              refine w_callV2 69 6 6 87 (by decide +kernel) sh_21 (Nat.le_of_ble_eq_true rfl) rfl rfl (by decide) (by omega) ?_
              refine s_hear hS.1 tl_21 (by omega) g22 s21 hw (by omega) (fun Nr26 hTr26 hr26 => ?_)
              have hS := hS.tr hTr26 (by intro i k; first | exact rfl | exact fun h => h.elim | omega | (dsimp only; omega) | (simp only [Hs, Tl, Sc, isHs, isScr, isTs] at *; omega))
              have s84 : shT n 16 Nr26 (c, pw, nI 0, nI 0) := (shT.keep s74 (hTr26.row (fun k => (by (try dsimp only); first | omega | (simp only [Hs, Tl, Sc, isHs, isScr, isTs] at *; omega)))) (hTr26.row (fun k => (by (try dsimp only); first | omega | (simp only [Hs, Tl, Sc, isHs, isScr, isTs] at *; omega)))) (hTr26.row (fun k => (by (try dsimp only); first | omega | (simp only [Hs, Tl, Sc, isHs, isScr, isTs] at *; omega)))))
              have s84g : Nr26 17 2 = nI n := ((hTr26.2 17 2 (by (try dsimp only); first | omega | (simp only [Hs, Tl, Sc, isHs, isScr, isTs] at *; omega))).trans s74g)
              have s21b := hr26
              have g22b : Nr26 22 2 = nI n := (hTr26.2 22 2 (by (try dsimp only); first | omega | (simp only [Hs, Tl, Sc, isHs, isScr, isTs] at *; omega))).trans g22
              dsimp only [Option.toList, List.nil_append]
              refine w_load (.aload_n 0) 88 (by decide +kernel) rfl rfl ?_
              refine w_load (.aload_n 0) 89 (by decide +kernel) rfl rfl ?_
              refine w_load (.aload_n 0) 90 (by decide +kernel) rfl rfl ?_
              refine w_getR (k := 1) (r := 21) 93 (by decide +kernel) sh_15 rfl ?_
              refine w_load (.iload_n 2) 94 (by decide +kernel) rfl rfl ?_
              refine w_load (.iload_n 3) 95 (by decide +kernel) rfl rfl ?_
              refine w_load (.iload 4) 97 (by decide +kernel) rfl rfl ?_
              refine w_callV4 52 3 7 100 (by decide +kernel) sh_15 (Nat.le_of_ble_eq_true rfl) rfl rfl rfl rfl (by decide) (by omega) ?_
              refine s_lastDeed hS.1 tl_21 (by omega) (by omega) g22b s21b (wedOk.hear (s := (c, pw, nI 0, nI 0)) hw hn) (by omega) (by omega) (by omega) (fun r27 Nr27 hTr27 hr27 => ?_)
              have hS := hS.tr hTr27 (by intro i k; first | exact rfl | exact fun h => h.elim | omega | (dsimp only; omega) | (simp only [Hs, Tl, Sc, isHs, isScr, isTs] at *; omega))
              have s97 : shT n 16 Nr27 (c, pw, nI 0, nI 0) := (shT.keep s84 (hTr27.row (fun k => (by (try dsimp only); first | omega | (simp only [Hs, Tl, Sc, isHs, isScr, isTs] at *; omega)))) (hTr27.row (fun k => (by (try dsimp only); first | omega | (simp only [Hs, Tl, Sc, isHs, isScr, isTs] at *; omega)))) (hTr27.row (fun k => (by (try dsimp only); first | omega | (simp only [Hs, Tl, Sc, isHs, isScr, isTs] at *; omega)))))
              have s97g : Nr27 17 2 = nI n := ((hTr27.2 17 2 (by (try dsimp only); first | omega | (simp only [Hs, Tl, Sc, isHs, isScr, isTs] at *; omega))).trans s84g)
              dsimp only [Option.toList, List.cons_append, List.nil_append]
              rcases hr27 with ⟨xlr27, hxlr27, hxer27, rfl⟩ | ⟨hxnr27, rfl⟩
              · skip
                have hxkr27 : xlr27 < 64 := by have := hxlr27.2; omega
                refine w_putE (k := 5) 103 (by decide +kernel) sh_15 rfl hS (Rg.free (by simp only [Hs, Tl, Sc, isScr, isHs, isTs] at *; omega)) (by first | exact rfl | omega | (dsimp only; omega) | (simp only [Hs, Tl, Sc, isHs, isScr, isTs] at *; omega)) (fun Nq28 hS hq28 oq28 mq28 => ?_)
                have kn29 := (oq28 (17) 2 (by first | omega | (simp only [Hs, Tl, Sc, isHs, isScr, isTs] at *; omega))).trans s97g
                have s100 : shT n 16 Nq28 (c, pw, nI 0, nI 0) := (shT.keep s97 (by rw [mq28, row_ne (by decide)]) (by rw [mq28, row_ne (by decide)]) (by rw [mq28, row_ne (by decide)]))
                have s100g : Nq28 17 2 = nI n := (by rw [mq28, row_ne (by decide)]; exact s97g)
                refine w_load (.aload_n 0) 104 (by decide +kernel) rfl rfl ?_
                refine w_getI (k := 5) 107 (by decide +kernel) sh_15 rfl ?_
                refine w_push (-9) 109 (by decide +kernel) ?_
                refine w_ceq 124 112 (by decide +kernel) (fun h30 => ?_) (fun h30 => ?_)
                · skip
                  exact absurd (hq28.symm.trans h30) (nI_m9' (by omega))
                · skip
                  refine w_load (.aload_n 0) 113 (by decide +kernel) rfl rfl ?_
                  refine w_load (.iload 5) 115 (by decide +kernel) rfl rfl ?_
                  refine w_putE (k := 4) 118 (by decide +kernel) sh_15 rfl hS (Rg.free (by simp only [Hs, Tl, Sc, isScr, isHs, isTs] at *; omega)) (by first | exact rfl | omega | (dsimp only; omega) | (simp only [Hs, Tl, Sc, isHs, isScr, isTs] at *; omega)) (fun Nq31 hS hq31 oq31 mq31 => ?_)
                  have kn32 := (oq31 (17) 2 (by first | omega | (simp only [Hs, Tl, Sc, isHs, isScr, isTs] at *; omega))).trans s100g
                  refine w_load (.aload_n 0) 119 (by decide +kernel) rfl rfl ?_
                  refine w_pushN 2 120 (by decide +kernel) ?_
                  refine w_putE (k := 3) 123 (by decide +kernel) sh_15 rfl hS (Rg.free (by simp only [Hs, Tl, Sc, isScr, isHs, isTs] at *; omega)) (by first | exact rfl | omega | (dsimp only; omega) | (simp only [Hs, Tl, Sc, isHs, isScr, isTs] at *; omega)) (fun Nq33 hS hq33 oq33 mq33 => ?_)
                  have kn34 := (oq33 (17) 2 (by first | omega | (simp only [Hs, Tl, Sc, isHs, isScr, isTs] at *; omega))).trans kn32
                  exact w_retV (by decide +kernel) (hq Nq33 hS (Or.inr (Or.inr (Or.inl ⟨henr3, (fun ⟨x, hx, hE⟩ => hxnr9 x hx hE), ⟨g5, xlr27, by omega, hxlr27, hxer27⟩, by rw [mq33, up2_eq]⟩))))
              · skip
                refine w_putE (k := 5) 103 (by decide +kernel) sh_15 rfl hS (Rg.free (by simp only [Hs, Tl, Sc, isScr, isHs, isTs] at *; omega)) (by first | exact rfl | omega | (dsimp only; omega) | (simp only [Hs, Tl, Sc, isHs, isScr, isTs] at *; omega)) (fun Nq35 hS hq35 oq35 mq35 => ?_)
                have kn36 := (oq35 (17) 2 (by first | omega | (simp only [Hs, Tl, Sc, isHs, isScr, isTs] at *; omega))).trans s97g
                have s100 : shT n 16 Nq35 (c, pw, nI 0, nI 0) := (shT.keep s97 (by rw [mq35, row_ne (by decide)]) (by rw [mq35, row_ne (by decide)]) (by rw [mq35, row_ne (by decide)]))
                have s100g : Nq35 17 2 = nI n := (by rw [mq35, row_ne (by decide)]; exact s97g)
                refine w_load (.aload_n 0) 104 (by decide +kernel) rfl rfl ?_
                refine w_getI (k := 5) 107 (by decide +kernel) sh_15 rfl ?_
                refine w_push (-9) 109 (by decide +kernel) ?_
                refine w_ceq 124 112 (by decide +kernel) (fun h37 => ?_) (fun h37 => ?_)
                · skip
                  refine w_iincN (z := 5) (g5 + 1) 127 (by decide +kernel) rfl (Nat.le_of_ble_eq_true rfl) rfl rfl ?_
                  show Wp _ _ _ [.ref 15, .ref 4, .int (nI k), .int (nI e), .int v, .int (nI (g5 + 1))] _ _ _ _
                  refine w_goto 59 (by decide +kernel) ?_
                  exact ih_59 Nq35 (g5 + 1) hS (by first | omega | assumption | exact lt_ext hi3_59 (fun ⟨y, hy, hE⟩ => (show ∀ x, ofK e x → ¬ endP (hearF n (nI x) 1 (hearF n (nI g5) 0 (c, pw, nI 0, nI 0))).1 k e v by assumption) y hy hE)) (by first | omega | assumption | exact lt_ext hi3_59 (fun ⟨y, hy, hE⟩ => (show ∀ x, ofK e x → ¬ endP (hearF n (nI x) 1 (hearF n (nI g5) 0 (c, pw, nI 0, nI 0))).1 k e v by assumption) y hy hE)) (by first | omega | assumption | exact lt_ext hi3_59 (fun ⟨y, hy, hE⟩ => (show ∀ x, ofK e x → ¬ endP (hearF n (nI x) 1 (hearF n (nI g5) 0 (c, pw, nI 0, nI 0))).1 k e v by assumption) y hy hE)) (by first | omega | assumption | exact lt_ext hi3_59 (fun ⟨y, hy, hE⟩ => (show ∀ x, ofK e x → ¬ endP (hearF n (nI x) 1 (hearF n (nI g5) 0 (c, pw, nI 0, nI 0))).1 k e v by assumption) y hy hE)) (by omega)
                · skip
                  exact absurd hq35 h37
        exact LP_59 _ Nq18 0 hS (by first | omega | assumption | (intro x hx; omega)) (by first | omega | assumption | (intro x hx; omega)) (by first | omega | assumption | (intro x hx; omega)) (by first | omega | assumption | (intro x hx; omega)) (Nat.lt_succ_self _)
      · skip
        exact absurd hq18 h21
-- X7_isEndTold#s
set_option maxRecDepth 10000 in
theorem s_isEndTold {d : Nat} {M : Mt} {L : Lt} {Q : Option Value → Mt → Lt → Prop} {n : Nat} {e : Int32} {v : Int32} (hI : Inv M) (hn : n ≤ 5) (en : M 4 2 = nI n) (hd : 1 ≤ d) (hq : ∀ (r : Int32), ((r = 1 ∧ endT n e v) ∨ (r = 0 ∧ ¬ endT n e v)) → Q (some (.int r)) M L) : Wp d 123 0 [.ref 0, .int e, .int v] [] M L Q := by
  refine w_load (.iload_n 1) 1 (by decide +kernel) rfl rfl ?_
  refine w_tab (show insAt 123 1 = some (.tableswitch 63 0 3 #[31, 33, 42, 58]) by decide +kernel) (fun h1 => ⟨64, rfl, ?_⟩) (fun z2 h1 h1b => ?_)
  · skip
    refine w_pushN 0 65 (by decide +kernel) ?_
    exact w_retZ (by decide +kernel) (Or.inl rfl) (hq _ (Or.inr ⟨rfl, endT_no (ne_nI (k := 0) (by omega) (by decide)) (ne_nI (k := 1) (by omega) (by decide)) (ne_nI (k := 2) (by omega) (by decide)) (ne_nI (k := 3) (by omega) (by decide))⟩))
  · rcases (by omega : z2 = 0 ∨ z2 = 1 ∨ z2 = 2 ∨ z2 = 3) with rfl | rfl | rfl | rfl
    · refine ⟨_, 32, rfl, rfl, ?_⟩
      refine w_pushN 1 33 (by decide +kernel) ?_
      exact w_retZ (by decide +kernel) (Or.inr rfl) (hq _ (Or.inl ⟨rfl, Or.inl (nI_of_toInt (k := 0) (by omega) (by decide))⟩))
    · refine ⟨_, 34, rfl, rfl, ?_⟩
      refine w_load (.aload_n 0) 35 (by decide +kernel) rfl rfl ?_
      refine w_getR (k := 2) (r := 4) 38 (by decide +kernel) sh_0 rfl ?_
      refine w_load (.iload_n 2) 39 (by decide +kernel) rfl rfl ?_
      refine w_callV1 11 1 2 42 (by decide +kernel) sh_4 (Nat.le_of_ble_eq_true rfl) rfl (by decide) (by omega) ?_
      refine k_11 hI hs_4 (by omega) en (by omega) (fun r3 hr3 => ?_)
      dsimp only [Option.toList, List.cons_append, List.nil_append]
      rcases hr3 with ⟨rfl, k4, hk4, rfl⟩ | ⟨rfl, hnok4⟩
      · skip
        exact w_retZ (by decide +kernel) (Or.inr rfl) (hq _ (Or.inl ⟨rfl, (endT_1 (nI_of_toInt (k := 1) (by omega) (by decide))).mpr ⟨_, by assumption, rfl⟩⟩))
      · skip
        exact w_retZ (by decide +kernel) (Or.inl rfl) (hq _ (Or.inr ⟨rfl, fun hz => absurd ((endT_1 (nI_of_toInt (k := 1) (by omega) (by decide))).mp hz) (by assumption)⟩))
    · refine ⟨_, 43, rfl, rfl, ?_⟩
      refine w_load (.iload_n 2) 44 (by decide +kernel) rfl rfl ?_
      refine w_ilt 57 47 (by decide +kernel) (fun h5 => ?_) (fun h5 => ?_)
      · skip
        refine w_pushN 0 58 (by decide +kernel) ?_
        exact w_retZ (by decide +kernel) (Or.inl rfl) (hq _ (Or.inr ⟨rfl, fun hz => (by first | exact inR_lo (by assumption) (by decide) ((endT_2 (nI_of_toInt (k := 2) (by omega) (by decide))).mp hz) | exact inR_nle (by assumption) (by decide) ((endT_2 (nI_of_toInt (k := 2) (by omega) (by decide))).mp hz) | exact inR_hi (by assumption) (by decide) ((endT_2 (nI_of_toInt (k := 2) (by omega) (by decide))).mp hz))⟩))
      · skip
        refine w_load (.iload_n 2) 48 (by decide +kernel) rfl rfl ?_
        refine w_pushN 20 50 (by decide +kernel) ?_
        refine w_cgt 57 53 (by decide +kernel) (fun h6 => ?_) (fun h6 => ?_)
        · skip
          refine w_pushN 0 58 (by decide +kernel) ?_
          exact w_retZ (by decide +kernel) (Or.inl rfl) (hq _ (Or.inr ⟨rfl, fun hz => (by first | exact inR_lo (by assumption) (by decide) ((endT_2 (nI_of_toInt (k := 2) (by omega) (by decide))).mp hz) | exact inR_nle (by assumption) (by decide) ((endT_2 (nI_of_toInt (k := 2) (by omega) (by decide))).mp hz) | exact inR_hi (by assumption) (by decide) ((endT_2 (nI_of_toInt (k := 2) (by omega) (by decide))).mp hz))⟩))
        · skip
          refine w_pushN 1 54 (by decide +kernel) ?_
          refine w_goto 58 (by decide +kernel) ?_
          exact w_retZ (by decide +kernel) (Or.inr rfl) (hq _ (Or.inl ⟨rfl, (endT_2 (nI_of_toInt (k := 2) (by omega) (by decide))).mpr (inR_of (x := 0) (y := nI 20) (by assumption) (by assumption) (by decide) (by decide))⟩))
    · refine ⟨_, 59, rfl, rfl, ?_⟩
      refine w_load (.iload_n 2) 60 (by decide +kernel) rfl rfl ?_
      refine w_callS1 113 1 63 (by decide +kernel) (Nat.le_of_ble_eq_true rfl) rfl (by decide) (by omega) ?_
      refine k_113 hI  (by omega) (fun r7 hr7 => ?_)
      dsimp only [Option.toList, List.cons_append, List.nil_append]
      rcases hr7 with ⟨rfl, k8, hk8, rfl⟩ | ⟨rfl, hnok8⟩
      · skip
        exact w_retZ (by decide +kernel) (Or.inr rfl) (hq _ (Or.inl ⟨rfl, (endT_3 (nI_of_toInt (k := 3) (by omega) (by decide))).mpr ⟨_, by assumption, rfl⟩⟩))
      · skip
        exact w_retZ (by decide +kernel) (Or.inl rfl) (hq _ (Or.inr ⟨rfl, fun hz => absurd ((endT_3 (nI_of_toInt (k := 3) (by omega) (by decide))).mp hz) (by assumption)⟩))
-- X7_refusalOfEnd#s
set_option maxRecDepth 10000 in
theorem s_refusal {d : Nat} {M : Mt} {L : Lt} {Q : Option Value → Mt → Lt → Prop} {n : Nat} {g : Int32} {e : Int32} {v : Int32} (hI : Inv M) (hn : n ≤ 5) (en : M 4 2 = nI n) (hd : 2 ≤ d) (hq : ∀ (r : Int32), ((r = -2 ∧ ¬ endT n e v) ∨ (endT n e v ∧ r = -1 ∧ ¬ (∃ k, k < n ∧ g = nI k)) ∨ (endT n e v ∧ r = 0 ∧ (∃ k, k < n ∧ g = nI k) ∧ ∃ q, q ≤ 3 ∧ e = nI q)) → Q (some (.int r)) M L) : Wp d 122 0 [.ref 0, .int g, .int e, .int v] [] M L Q := by
  refine w_load (.aload_n 0) 1 (by decide +kernel) rfl rfl ?_
  refine w_load (.iload_n 2) 2 (by decide +kernel) rfl rfl ?_
  refine w_load (.iload_n 3) 3 (by decide +kernel) rfl rfl ?_
  refine w_callV2 123 7 3 6 (by decide +kernel) sh_0 (Nat.le_of_ble_eq_true rfl) rfl rfl (by decide) (by omega) ?_
  refine s_isEndTold hI (by omega) en (by omega) (fun r1 hr1 => ?_)
  dsimp only [Option.toList, List.cons_append, List.nil_append]
  rcases hr1 with ⟨rfl, hto⟩ | ⟨rfl, hto⟩
  · skip
    refine w_ine 12 9 (by decide +kernel) (fun _ => ?_) (fun hz => absurd hz (by decide))
    refine w_load (.aload_n 0) 13 (by decide +kernel) rfl rfl ?_
    refine w_getR (k := 2) (r := 4) 16 (by decide +kernel) sh_0 rfl ?_
    refine w_load (.iload_n 1) 17 (by decide +kernel) rfl rfl ?_
    refine w_callV1 11 1 2 20 (by decide +kernel) sh_4 (Nat.le_of_ble_eq_true rfl) rfl (by decide) (by omega) ?_
    refine k_11 hI hs_4 (by omega) en (by omega) (fun r3 hr3 => ?_)
    dsimp only [Option.toList, List.cons_append, List.nil_append]
    rcases hr3 with ⟨rfl, k4, hk4, rfl⟩ | ⟨rfl, hnok4⟩
    · skip
      refine w_ieq 27 23 (by decide +kernel) (fun hz => absurd hz (by decide)) (fun _ => ?_)
      refine w_pushN 0 24 (by decide +kernel) ?_
      refine w_goto 28 (by decide +kernel) ?_
      exact w_ret (by decide +kernel) (hq _ (Or.inr (Or.inr ⟨by assumption, rfl, ⟨_, by assumption, rfl⟩, hto.q⟩)))
    · skip
      refine w_ieq 27 23 (by decide +kernel) (fun _ => ?_) (fun hz => absurd hz (by decide))
      refine w_push (-1) 28 (by decide +kernel) ?_
      exact w_ret (by decide +kernel) (hq _ (Or.inr (Or.inl ⟨by assumption, rfl, by assumption⟩)))
  · skip
    refine w_ine 12 9 (by decide +kernel) (fun hz => absurd hz (by decide)) (fun _ => ?_)
    refine w_push (-2) 11 (by decide +kernel) ?_
    exact w_ret (by decide +kernel) (hq _ (Or.inl ⟨rfl, by assumption⟩))
-- X7_shortest#s
set_option maxRecDepth 10000 in
theorem s_shortest7 {d : Nat} {M : Mt} {L : Lt} {Q : Option Value → Mt → Lt → Prop} {n : Nat} {c pw : Row} {g : Int32} {e : Int32} {v : Int32} (hI : Inv M) (hn : n ≤ 5) (en : M 4 2 = nI n) (hc : HE n (M 5) c) (hp : LQ n (M 6) pw) (hw : wedOk n c) (hd : 7 ≤ d) (hq : ∀ (r : Int32) (N : Mt), St (fun i _ => (7 ≤ i ∧ i ≤ 57) ∨ i = 63 ∨ i = 68 ∨ i = 69) M N → ((r = -2 ∧ ¬ endT n e v) ∨ (endT n e v ∧ r = -1 ∧ ¬ (∃ k, k < n ∧ g = nI k)) ∨ (endT n e v ∧ ∃ k q, k < n ∧ g = nI k ∧ q ≤ 3 ∧ e = nI q ∧ lenK n c pw k q v (ofK q) r)) → Q (some (.int r)) N L) : Wp d 90 0 [.ref 0, .int g, .int e, .int v, .null] [] M L Q := by
  refine (show ∀ N : Mt, N = M → St (fun i _ => (7 ≤ i ∧ i ≤ 57) ∨ i = 63 ∨ i = 68 ∨ i = 69) M N → Wp d 90 0 [.ref 0, .int g, .int e, .int v, .null] [] N L Q from ?_) M rfl (St.rf hI)
  intro N hNM hS
  have kz0 : N (4) 2 = nI n := by rw [hNM]; exact en
  refine w_load (.aload_n 0) 1 (by decide +kernel) rfl rfl ?_
  refine w_load (.iload_n 1) 2 (by decide +kernel) rfl rfl ?_
  refine w_load (.iload_n 2) 3 (by decide +kernel) rfl rfl ?_
  refine w_load (.iload_n 3) 4 (by decide +kernel) rfl rfl ?_
  refine w_callV3 122 7 4 7 (by decide +kernel) sh_0 (Nat.le_of_ble_eq_true rfl) rfl rfl rfl (by decide) (by omega) ?_
  refine s_refusal hS.1 (by omega) kz0 (by omega) (fun r1 hr1 => ?_)
  dsimp only [Option.toList, List.cons_append, List.nil_append]
  rcases hr1 with ⟨rfl, hnto⟩ | ⟨hto, rfl, hng⟩ | ⟨hto, rfl, ⟨kg, hkg, rfl⟩, ke, hke, rfl⟩
  · skip
    refine w_store (ls' := [.ref 0, .int g, .int e, .int v, .int (-2)]) (.istore 4) 9 (by decide +kernel) rfl rfl ?_
    refine w_load (.iload 4) 11 (by decide +kernel) rfl rfl ?_
    refine w_ieq 17 14 (by decide +kernel) (fun hz => absurd hz (by decide)) (fun _ => ?_)
    refine w_load (.iload 4) 16 (by decide +kernel) rfl rfl ?_
    exact w_ret (by decide +kernel) (hq _ N hS (Or.inl ⟨rfl, by assumption⟩))
  · skip
    refine w_store (ls' := [.ref 0, .int g, .int e, .int v, .int (-1)]) (.istore 4) 9 (by decide +kernel) rfl rfl ?_
    refine w_load (.iload 4) 11 (by decide +kernel) rfl rfl ?_
    refine w_ieq 17 14 (by decide +kernel) (fun hz => absurd hz (by decide)) (fun _ => ?_)
    refine w_load (.iload 4) 16 (by decide +kernel) rfl rfl ?_
    exact w_ret (by decide +kernel) (hq _ N hS (Or.inr (Or.inl ⟨by assumption, rfl, by assumption⟩)))
  · skip
    refine w_store (ls' := [.ref 0, .int (nI kg), .int (nI ke), .int v, .int (0)]) (.istore 4) 9 (by decide +kernel) rfl rfl ?_
    refine w_load (.iload 4) 11 (by decide +kernel) rfl rfl ?_
    refine w_ieq 17 14 (by decide +kernel) (fun _ => ?_) (fun hz => absurd hz (by decide))
    refine w_load (.aload_n 0) 18 (by decide +kernel) rfl rfl ?_
    refine w_getR (k := 5) (r := 15) 21 (by decide +kernel) sh_0 rfl ?_
    refine w_load (.aload_n 0) 22 (by decide +kernel) rfl rfl ?_
    refine w_getR (k := 2) (r := 4) 25 (by decide +kernel) sh_0 rfl ?_
    refine w_load (.iload_n 1) 26 (by decide +kernel) rfl rfl ?_
    refine w_load (.iload_n 2) 27 (by decide +kernel) rfl rfl ?_
    refine w_load (.iload_n 3) 28 (by decide +kernel) rfl rfl ?_
    refine w_callV4 51 3 6 31 (by decide +kernel) sh_15 (Nat.le_of_ble_eq_true rfl) rfl rfl rfl rfl (by decide) (by omega) ?_
    refine s_seek hS.1 (by omega) kz0 (by rw [hNM]; exact hc) (by rw [hNM]; exact hp) hw (by omega) (by omega) (by omega) (fun Nr5 hTr5 hr5 => ?_)
    have kn6 := (hTr5.2 (4) 2 (by (try dsimp only); first | omega | (simp only [Hs, Tl, Sc, isHs, isScr, isTs] at *; omega))).trans kz0
    have hS := hS.tr hTr5 (by intro i k; first | exact rfl | exact fun h => h.elim | omega | (dsimp only; omega) | (simp only [Hs, Tl, Sc, isHs, isScr, isTs] at *; omega))
    dsimp only [Option.toList, List.nil_append]
    refine w_load (.aload_n 0) 32 (by decide +kernel) rfl rfl ?_
    refine w_getR (k := 5) (r := 15) 35 (by decide +kernel) sh_0 rfl ?_
    refine w_getI (k := 3) 38 (by decide +kernel) sh_15 rfl ?_
    exact w_ret (by decide +kernel) (hq _ Nr5 hS (Or.inr (Or.inr ⟨by assumption, _, _, by assumption, rfl, by assumption, rfl, by assumption⟩)))
