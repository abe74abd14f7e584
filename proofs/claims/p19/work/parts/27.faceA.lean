-- J6_bitCount_0f7a4
set_option maxRecDepth 10000 in
theorem k_200 {d : Nat} {M : Mt} {L : Lt} {Q : Option Value → Mt → Lt → Prop} {a : Int32} (hI : Inv M)  (hd : 0 ≤ d) (hq : ∀ (r : Int32), True → Q (some (.int r)) M L) : Wp d 200 0 [.int a] [] M L Q := by
  refine w_load (.iload_n 0) 1 (by decide +kernel) rfl rfl ?_
  refine w_load (.iload_n 0) 2 (by decide +kernel) rfl rfl ?_
  refine w_pushN 1 3 (by decide +kernel) ?_
  refine w_pure .iushr 4 (by decide +kernel) rfl rfl ?_
  refine w_pushN 1431655765 7 (by decide +kernel) ?_
  refine w_pure .iand 8 (by decide +kernel) rfl rfl ?_
  refine w_pure .isub 9 (by decide +kernel) rfl rfl ?_
  refine w_topi (fun v1 ev1 => ?_)
  refine w_store (ls' := [.int v1]) (.istore_n 0) 10 (by decide +kernel) rfl rfl ?_
  refine w_load (.iload_n 0) 11 (by decide +kernel) rfl rfl ?_
  refine w_pushN 858993459 14 (by decide +kernel) ?_
  refine w_pure .iand 15 (by decide +kernel) rfl rfl ?_
  refine w_load (.iload_n 0) 16 (by decide +kernel) rfl rfl ?_
  refine w_pushN 2 17 (by decide +kernel) ?_
  refine w_pure .iushr 18 (by decide +kernel) rfl rfl ?_
  refine w_pushN 858993459 21 (by decide +kernel) ?_
  refine w_pure .iand 22 (by decide +kernel) rfl rfl ?_
  refine w_pure .iadd 23 (by decide +kernel) rfl rfl ?_
  refine w_topi (fun v2 ev2 => ?_)
  refine w_store (ls' := [.int v2]) (.istore_n 0) 24 (by decide +kernel) rfl rfl ?_
  refine w_load (.iload_n 0) 25 (by decide +kernel) rfl rfl ?_
  refine w_load (.iload_n 0) 26 (by decide +kernel) rfl rfl ?_
  refine w_pushN 4 27 (by decide +kernel) ?_
  refine w_pure .iushr 28 (by decide +kernel) rfl rfl ?_
  refine w_pure .iadd 29 (by decide +kernel) rfl rfl ?_
  refine w_pushN 252645135 32 (by decide +kernel) ?_
  refine w_pure .iand 33 (by decide +kernel) rfl rfl ?_
  refine w_topi (fun v3 ev3 => ?_)
  refine w_store (ls' := [.int v3]) (.istore_n 0) 34 (by decide +kernel) rfl rfl ?_
  refine w_load (.iload_n 0) 35 (by decide +kernel) rfl rfl ?_
  refine w_load (.iload_n 0) 36 (by decide +kernel) rfl rfl ?_
  refine w_pushN 8 38 (by decide +kernel) ?_
  refine w_pure .iushr 39 (by decide +kernel) rfl rfl ?_
  refine w_pure .iadd 40 (by decide +kernel) rfl rfl ?_
  refine w_topi (fun v4 ev4 => ?_)
  refine w_store (ls' := [.int v4]) (.istore_n 0) 41 (by decide +kernel) rfl rfl ?_
  refine w_load (.iload_n 0) 42 (by decide +kernel) rfl rfl ?_
  refine w_load (.iload_n 0) 43 (by decide +kernel) rfl rfl ?_
  refine w_pushN 16 45 (by decide +kernel) ?_
  refine w_pure .iushr 46 (by decide +kernel) rfl rfl ?_
  refine w_pure .iadd 47 (by decide +kernel) rfl rfl ?_
  refine w_topi (fun v5 ev5 => ?_)
  refine w_store (ls' := [.int v5]) (.istore_n 0) 48 (by decide +kernel) rfl rfl ?_
  refine w_load (.iload_n 0) 49 (by decide +kernel) rfl rfl ?_
  refine w_pushN 63 51 (by decide +kernel) ?_
  refine w_pure .iand 52 (by decide +kernel) rfl rfl ?_
  exact w_ret (by decide +kernel) (hq _ trivial)
-- X7_inLeastTerms
set_option maxRecDepth 10000 in
theorem k_120 {d : Nat} {M : Mt} {L : Lt} {Q : Option Value → Mt → Lt → Prop} {a : Int32} {b : Int32} {c : Int32} (hI : Inv M)  (hd : 0 ≤ d) (hq : ∀ (r : Int32), True → Q (some (.int r)) M L) : Wp d 120 0 [.int a, .int b, .int c, .null] [] M L Q := by
  refine w_load (.iload_n 2) 1 (by decide +kernel) rfl rfl ?_
  refine w_store (ls' := [.int a, .int b, .int c, .int c]) (.istore_n 3) 2 (by decide +kernel) rfl rfl ?_
  have LP_2 : ∀ (kk : Nat) (x3_2 : Int32), x3_2.toInt.toNat < kk → Wp d 120 2 [.int a, .int b, .int c, .int x3_2] [] M L Q := by
    intro kk
    induction kk with
    | zero => intro x3_2 hm_2; exact absurd hm_2 (Nat.not_lt_zero _)
    | succ kk ih_2 =>
      intro x3_2 hm_2
      refine w_load (.iload_n 3) 3 (by decide +kernel) rfl rfl ?_
      refine w_pushN 1 4 (by decide +kernel) ?_
      refine w_cle 29 7 (by decide +kernel) (fun h1 => ?_) (fun h1 => ?_)
      · skip
        refine w_load (.iload_n 0) 30 (by decide +kernel) rfl rfl ?_
        exact w_ret (by decide +kernel) (hq _ trivial)
      · skip
        refine w_load (.iload_n 1) 8 (by decide +kernel) rfl rfl ?_
        refine w_load (.iload_n 3) 9 (by decide +kernel) rfl rfl ?_
        refine w_rem 10 (by decide +kernel) (ne_gt1 (by assumption)) ?_
        refine w_ine 23 13 (by decide +kernel) (fun h2 => ?_) (fun h2 => ?_)
        · skip
          obtain ⟨v3, ev3⟩ : ∃ y : Int32, y = x3_2 + Int32.ofInt (-1) := ⟨_, rfl⟩
          refine w_store (ls' := [.int a, .int b, .int c, .int v3]) (.iinc 3 (-1)) 26 (by decide +kernel) rfl (by rw [ev3]; rfl) ?_
          refine w_goto 2 (by decide +kernel) ?_
          exact ih_2 _  (by have hdm := dec_mu (by assumption); subst_vars; omega)
        · skip
          refine w_load (.iload_n 2) 14 (by decide +kernel) rfl rfl ?_
          refine w_load (.iload_n 3) 15 (by decide +kernel) rfl rfl ?_
          refine w_rem 16 (by decide +kernel) (ne_gt1 (by assumption)) ?_
          refine w_ine 23 19 (by decide +kernel) (fun h4 => ?_) (fun h4 => ?_)
          · skip
            obtain ⟨v5, ev5⟩ : ∃ y : Int32, y = x3_2 + Int32.ofInt (-1) := ⟨_, rfl⟩
            refine w_store (ls' := [.int a, .int b, .int c, .int v5]) (.iinc 3 (-1)) 26 (by decide +kernel) rfl (by rw [ev5]; rfl) ?_
            refine w_goto 2 (by decide +kernel) ?_
            exact ih_2 _  (by have hdm := dec_mu (by assumption); subst_vars; omega)
          · skip
            refine w_load (.iload_n 0) 20 (by decide +kernel) rfl rfl ?_
            refine w_load (.iload_n 3) 21 (by decide +kernel) rfl rfl ?_
            refine w_div 22 (by decide +kernel) (ne_gt1 (by assumption)) ?_
            exact w_ret (by decide +kernel) (hq _ trivial)
  exact LP_2 _ _  (Nat.lt_succ_self _)
-- X7_write
set_option maxRecDepth 10000 in
theorem k_76 {d : Nat} {M : Mt} {L : Lt} {Q : Option Value → Mt → Lt → Prop} {n : Nat} {a : Int32} (hI : Inv M) (hn : n ≤ 24) (en : M 1 1 = nI n) (hd : 2 ≤ d) (hq : ∀ (r : Int32) (N : Mt), St (fun i _ => 1 ≤ i ∧ i ≤ 2) M N → ((r = -2 ∧ ¬ (∃ k, k < 256 ∧ a = nI k) ∧ N = M) ∨ ((∃ k, k < 256 ∧ a = nI k) ∧ ((r = -4 ∧ n = 24 ∧ N = M) ∨ (r = nI (n + 1) ∧ n < 24 ∧ N = up2 (up2 M 2 n a) 1 1 (nI (n + 1)))))) → Q (some (.int r)) N L) : Wp d 76 0 [.ref 0, .int a] [] M L Q := by
  refine (show ∀ N : Mt, N = M → St (fun i _ => 1 ≤ i ∧ i ≤ 2) M N → Wp d 76 0 [.ref 0, .int a] [] N L Q from ?_) M rfl (St.rf hI)
  intro N hNM hS
  have kz0 : N (1) 1 = nI n := by rw [hNM]; exact en
  refine w_load (.iload_n 1) 1 (by decide +kernel) rfl rfl ?_
  refine w_callS1 110 1 4 (by decide +kernel) (Nat.le_of_ble_eq_true rfl) rfl (by decide) (by omega) ?_
  refine k_110 hS.1  (by omega) (fun r1 hr1 => ?_)
  dsimp only [Option.toList, List.cons_append, List.nil_append]
  rcases hr1 with ⟨rfl, k2, hk2, rfl⟩ | ⟨rfl, hnok2⟩
  · skip
    refine w_ine 10 7 (by decide +kernel) (fun _ => ?_) (fun hz => absurd hz (by decide))
    refine w_load (.aload_n 0) 11 (by decide +kernel) rfl rfl ?_
    refine w_getR (k := 0) (r := 1) 14 (by decide +kernel) sh_0 rfl ?_
    refine w_callV0 37 2 1 17 (by decide +kernel) sh_1 (Nat.le_of_ble_eq_true rfl)  (by decide) (by omega) ?_
    refine k_37 hS.1 sc_1 (by omega) kz0 (by omega) (fun r4 hr4 => ?_)
    dsimp only [Option.toList, List.cons_append, List.nil_append]
    rcases hr4 with ⟨rfl, hfull⟩ | ⟨rfl, hfull⟩
    · skip
      refine w_ieq 25 20 (by decide +kernel) (fun hz => absurd hz (by decide)) (fun _ => ?_)
      refine w_push (-4) 22 (by decide +kernel) ?_
      refine w_goto 33 (by decide +kernel) ?_
      exact w_ret (by decide +kernel) (hq _ N hS (Or.inr ⟨⟨_, by omega, rfl⟩, Or.inl ⟨rfl, by omega, hNM⟩⟩))
    · skip
      refine w_ieq 25 20 (by decide +kernel) (fun _ => ?_) (fun hz => absurd hz (by decide))
      refine w_load (.aload_n 0) 26 (by decide +kernel) rfl rfl ?_
      refine w_getR (k := 0) (r := 1) 29 (by decide +kernel) sh_0 rfl ?_
      refine w_load (.iload_n 1) 30 (by decide +kernel) rfl rfl ?_
      refine w_callV1 38 2 2 33 (by decide +kernel) sh_1 (Nat.le_of_ble_eq_true rfl) rfl (by decide) (by omega) ?_
      refine k_38 hS.1 sc_1 (by omega) kz0 (by omega) (fun r7 Nr7 hTr7 hr7 => ?_)
      have hS := hS.tr hTr7 (by intro i k; first | exact rfl | omega | (dsimp only; omega) | (simp only [Hs, Tl, Sc, isHs, isScr, isTs] at *; omega))
      dsimp only [Option.toList, List.cons_append, List.nil_append]
      rcases hr7 with ⟨rfl, eadd⟩
      · skip
        exact w_ret (by decide +kernel) (hq _ Nr7 hS (Or.inr ⟨⟨_, by omega, rfl⟩, Or.inr ⟨rfl, by omega, (by rw [eadd, hNM] <;> rfl)⟩⟩))
  · skip
    refine w_ine 10 7 (by decide +kernel) (fun hz => absurd hz (by decide)) (fun _ => ?_)
    refine w_push (-2) 9 (by decide +kernel) ?_
    exact w_ret (by decide +kernel) (hq _ N hS (Or.inl ⟨rfl, by first | assumption | exact in_no (by assumption) (by decide), hNM⟩))
-- X7_wipe
set_option maxRecDepth 10000 in
theorem k_77 {d : Nat} {M : Mt} {L : Lt} {Q : Option Value → Mt → Lt → Prop} {n : Nat}  (hI : Inv M) (hn : n ≤ 24) (en : M 1 1 = nI n) (hd : 1 ≤ d) (hq : ∀ (r : Int32) (N : Mt), St (fun i _ => 1 ≤ i ∧ i ≤ 2) M N → (r = nI n ∧ N = up2 M 1 1 (nI 0)) → Q (some (.int r)) N L) : Wp d 77 0 [.ref 0] [] M L Q := by
  refine (show ∀ N : Mt, N = M → St (fun i _ => 1 ≤ i ∧ i ≤ 2) M N → Wp d 77 0 [.ref 0] [] N L Q from ?_) M rfl (St.rf hI)
  intro N hNM hS
  have kz0 : N (1) 1 = nI n := by rw [hNM]; exact en
  refine w_load (.aload_n 0) 1 (by decide +kernel) rfl rfl ?_
  refine w_getR (k := 0) (r := 1) 4 (by decide +kernel) sh_0 rfl ?_
  refine w_callV0 39 2 2 7 (by decide +kernel) sh_1 (Nat.le_of_ble_eq_true rfl)  (by decide) (by omega) ?_
  refine k_39 hS.1 sc_1 (by omega) kz0 (by omega) (fun r1 Nr1 hTr1 hr1 => ?_)
  have hS := hS.tr hTr1 (by intro i k; first | exact rfl | omega | (dsimp only; omega) | (simp only [Hs, Tl, Sc, isHs, isScr, isTs] at *; omega))
  dsimp only [Option.toList, List.cons_append, List.nil_append]
  rcases hr1 with ⟨rfl, eemp⟩
  · skip
    exact w_ret (by decide +kernel) (hq _ Nr1 hS ⟨rfl, (by rw [eemp, hNM] <;> rfl)⟩)
-- X7_fault
set_option maxRecDepth 10000 in
theorem k_78 {d : Nat} {M : Mt} {L : Lt} {Q : Option Value → Mt → Lt → Prop} {n : Nat}  (hI : Inv M) (hn : n ≤ 24) (en : M 1 1 = nI n) (hd : 3 ≤ d) (hq : ∀ (r : Int32), FT fitI (M 2) n r (if n % 4 = 1 then -9 else nI n) → Q (some (.int r)) M L) : Wp d 78 0 [.ref 0] [] M L Q := by
  refine w_load (.aload_n 0) 1 (by decide +kernel) rfl rfl ?_
  refine w_getR (k := 0) (r := 1) 4 (by decide +kernel) sh_0 rfl ?_
  refine w_callV0 41 2 2 7 (by decide +kernel) sh_1 (Nat.le_of_ble_eq_true rfl)  (by decide) (by omega) ?_
  refine k_41 hI sc_1 (by omega) en (by omega) (fun r1 hr1 => ?_)
  dsimp only [Option.toList, List.cons_append, List.nil_append]
  exact w_ret (by decide +kernel) (hq _ (by assumption))
-- X7_quill
set_option maxRecDepth 10000 in
theorem k_80 {d : Nat} {M : Mt} {L : Lt} {Q : Option Value → Mt → Lt → Prop} {a : Int32} {b : Int32} (hI : Inv M)  (hd : 2 ≤ d) (hq : ∀ (r : Int32) (N : Mt), St (fun i _ => 70 ≤ i ∧ i ≤ 75) M N → ((r = -1 ∧ ¬ (∃ k, k < 3 ∧ a = nI k) ∧ N = M) ∨ (∃ t, t < 3 ∧ a = nI t ∧ ((r = -2 ∧ ¬ (∃ k, k < 256 ∧ b = nI k) ∧ N = M) ∨ ((∃ k, k < 256 ∧ b = nI k) ∧ ∃ n, n ≤ 24 ∧ M (70 + 2 * t) 1 = nI n ∧ ((r = -4 ∧ n = 24 ∧ N = M) ∨ (r = nI (n + 1) ∧ n < 24 ∧ N = up2 (up2 M (70 + 2 * t + 1) n b) (70 + 2 * t) 1 (nI (n + 1)))))))) → Q (some (.int r)) N L) : Wp d 80 0 [.ref 0, .int a, .int b] [] M L Q := by
  refine (show ∀ N : Mt, N = M → St (fun i _ => 70 ≤ i ∧ i ≤ 75) M N → Wp d 80 0 [.ref 0, .int a, .int b] [] N L Q from ?_) M rfl (St.rf hI)
  intro N hNM hS
  refine w_load (.iload_n 1) 1 (by decide +kernel) rfl rfl ?_
  refine w_callS1 111 1 4 (by decide +kernel) (Nat.le_of_ble_eq_true rfl) rfl (by decide) (by omega) ?_
  refine k_111 hS.1  (by omega) (fun r1 hr1 => ?_)
  dsimp only [Option.toList, List.cons_append, List.nil_append]
  rcases hr1 with ⟨rfl, k2, hk2, rfl⟩ | ⟨rfl, hnok2⟩
  · skip
    refine w_ine 9 7 (by decide +kernel) (fun _ => ?_) (fun hz => absurd hz (by decide))
    refine w_load (.iload_n 2) 10 (by decide +kernel) rfl rfl ?_
    refine w_callS1 110 1 13 (by decide +kernel) (Nat.le_of_ble_eq_true rfl) rfl (by decide) (by omega) ?_
    refine k_110 hS.1  (by omega) (fun r4 hr4 => ?_)
    dsimp only [Option.toList, List.cons_append, List.nil_append]
    rcases hr4 with ⟨rfl, k5, hk5, rfl⟩ | ⟨rfl, hnok5⟩
    · skip
      refine w_ine 19 16 (by decide +kernel) (fun _ => ?_) (fun hz => absurd hz (by decide))
      refine w_load (.aload_n 0) 20 (by decide +kernel) rfl rfl ?_
      refine w_getR (k := 1) (r := 3) 23 (by decide +kernel) sh_0 rfl ?_
      refine w_load (.iload_n 1) 24 (by decide +kernel) rfl rfl ?_
      refine w_tale 25 (by decide +kernel) (by omega) ?_
      refine w_callV0 37 2 1 28 (by decide +kernel) (sc_tale k2 (by omega)).1.1 (Nat.le_of_ble_eq_true rfl)  (by decide) (by omega) ?_
      obtain ⟨n7, hn7, en7⟩ := inv_s hS.1 (sc_tale k2 (by omega))
      refine k_37 hS.1 (sc_tale k2 (by omega)) (by omega) en7 (by omega) (fun r8 hr8 => ?_)
      dsimp only [Option.toList, List.cons_append, List.nil_append]
      rcases hr8 with ⟨rfl, hfull⟩ | ⟨rfl, hfull⟩
      · skip
        refine w_ieq 36 31 (by decide +kernel) (fun hz => absurd hz (by decide)) (fun _ => ?_)
        refine w_push (-4) 33 (by decide +kernel) ?_
        refine w_goto 46 (by decide +kernel) ?_
        exact w_ret (by decide +kernel) (hq _ N hS (Or.inr ⟨_, by assumption, rfl, Or.inr ⟨⟨_, by omega, rfl⟩, n7, by omega, by rw [← hNM]; exact en7, Or.inl ⟨rfl, by omega, hNM⟩⟩⟩))
      · skip
        refine w_ieq 36 31 (by decide +kernel) (fun _ => ?_) (fun hz => absurd hz (by decide))
        refine w_load (.aload_n 0) 37 (by decide +kernel) rfl rfl ?_
        refine w_getR (k := 1) (r := 3) 40 (by decide +kernel) sh_0 rfl ?_
        refine w_load (.iload_n 1) 41 (by decide +kernel) rfl rfl ?_
        refine w_tale 42 (by decide +kernel) (by omega) ?_
        refine w_load (.iload_n 2) 43 (by decide +kernel) rfl rfl ?_
        refine w_callV1 38 2 2 46 (by decide +kernel) (sc_tale k2 (by omega)).1.1 (Nat.le_of_ble_eq_true rfl) rfl (by decide) (by omega) ?_
        refine k_38 hS.1 (sc_tale k2 (by omega)) (by omega) en7 (by omega) (fun r11 Nr11 hTr11 hr11 => ?_)
        have hS := hS.tr hTr11 (by intro i k; first | exact rfl | omega | (dsimp only; omega) | (simp only [Hs, Tl, Sc, isHs, isScr, isTs] at *; omega))
        dsimp only [Option.toList, List.cons_append, List.nil_append]
        rcases hr11 with ⟨rfl, eadd⟩
        · skip
          exact w_ret (by decide +kernel) (hq _ Nr11 hS (Or.inr ⟨_, by assumption, rfl, Or.inr ⟨⟨_, by omega, rfl⟩, n7, by omega, by rw [← hNM]; exact en7, Or.inr ⟨by first | rfl | assumption, by omega, (by rw [eadd, hNM] <;> rfl)⟩⟩⟩))
    · skip
      refine w_ine 19 16 (by decide +kernel) (fun hz => absurd hz (by decide)) (fun _ => ?_)
      refine w_push (-2) 18 (by decide +kernel) ?_
      exact w_ret (by decide +kernel) (hq _ N hS (Or.inr ⟨_, by assumption, rfl, Or.inl ⟨rfl, by first | assumption | exact in_no (by assumption) (by decide), hNM⟩⟩))
  · skip
    refine w_ine 9 7 (by decide +kernel) (fun hz => absurd hz (by decide)) (fun _ => ?_)
    refine w_push (-1) 8 (by decide +kernel) ?_
    exact w_ret (by decide +kernel) (hq _ N hS (Or.inl ⟨rfl, by assumption, hNM⟩))
-- X7_blot
set_option maxRecDepth 10000 in
theorem k_81 {d : Nat} {M : Mt} {L : Lt} {Q : Option Value → Mt → Lt → Prop} {a : Int32} (hI : Inv M)  (hd : 1 ≤ d) (hq : ∀ (r : Int32) (N : Mt), St (fun i _ => 70 ≤ i ∧ i ≤ 75) M N → ((r = -1 ∧ ¬ (∃ k, k < 3 ∧ a = nI k) ∧ N = M) ∨ (∃ t n, t < 3 ∧ a = nI t ∧ n ≤ 24 ∧ M (70 + 2 * t) 1 = nI n ∧ r = nI n ∧ N = up2 M (70 + 2 * t) 1 (nI 0))) → Q (some (.int r)) N L) : Wp d 81 0 [.ref 0, .int a] [] M L Q := by
  refine (show ∀ N : Mt, N = M → St (fun i _ => 70 ≤ i ∧ i ≤ 75) M N → Wp d 81 0 [.ref 0, .int a] [] N L Q from ?_) M rfl (St.rf hI)
  intro N hNM hS
  refine w_load (.iload_n 1) 1 (by decide +kernel) rfl rfl ?_
  refine w_callS1 111 1 4 (by decide +kernel) (Nat.le_of_ble_eq_true rfl) rfl (by decide) (by omega) ?_
  refine k_111 hS.1  (by omega) (fun r1 hr1 => ?_)
  dsimp only [Option.toList, List.cons_append, List.nil_append]
  rcases hr1 with ⟨rfl, k2, hk2, rfl⟩ | ⟨rfl, hnok2⟩
  · skip
    refine w_ieq 19 7 (by decide +kernel) (fun hz => absurd hz (by decide)) (fun _ => ?_)
    refine w_load (.aload_n 0) 8 (by decide +kernel) rfl rfl ?_
    refine w_getR (k := 1) (r := 3) 11 (by decide +kernel) sh_0 rfl ?_
    refine w_load (.iload_n 1) 12 (by decide +kernel) rfl rfl ?_
    refine w_tale 13 (by decide +kernel) (by omega) ?_
    refine w_callV0 39 2 2 16 (by decide +kernel) (sc_tale k2 (by omega)).1.1 (Nat.le_of_ble_eq_true rfl)  (by decide) (by omega) ?_
    obtain ⟨n4, hn4, en4⟩ := inv_s hS.1 (sc_tale k2 (by omega))
    refine k_39 hS.1 (sc_tale k2 (by omega)) (by omega) en4 (by omega) (fun r5 Nr5 hTr5 hr5 => ?_)
    have hS := hS.tr hTr5 (by intro i k; first | exact rfl | omega | (dsimp only; omega) | (simp only [Hs, Tl, Sc, isHs, isScr, isTs] at *; omega))
    dsimp only [Option.toList, List.cons_append, List.nil_append]
    rcases hr5 with ⟨rfl, eemp⟩
    · skip
      refine w_goto 20 (by decide +kernel) ?_
      exact w_ret (by decide +kernel) (hq _ Nr5 hS (Or.inr ⟨_, n4, by assumption, rfl, by omega, by rw [← hNM]; exact en4, rfl, (by rw [eemp, hNM] <;> rfl)⟩))
  · skip
    refine w_ieq 19 7 (by decide +kernel) (fun _ => ?_) (fun hz => absurd hz (by decide))
    refine w_push (-1) 20 (by decide +kernel) ?_
    exact w_ret (by decide +kernel) (hq _ N hS (Or.inl ⟨rfl, by assumption, hNM⟩))
-- X7_slip
set_option maxRecDepth 10000 in
theorem k_82 {d : Nat} {M : Mt} {L : Lt} {Q : Option Value → Mt → Lt → Prop} {a : Int32} (hI : Inv M)  (hd : 4 ≤ d) (hq : ∀ (r : Int32), ((r = -1 ∧ ¬ (∃ k, k < 3 ∧ a = nI k)) ∨ (∃ t n k, t < 3 ∧ a = nI t ∧ n ≤ 24 ∧ M (70 + 2 * t) 1 = nI n ∧ sndT (M (70 + 2 * t + 1)) n k ∧ r = if k = n ∧ n % 3 = 0 then -9 else nI k)) → Q (some (.int r)) M L) : Wp d 82 0 [.ref 0, .int a] [] M L Q := by
  refine w_load (.iload_n 1) 1 (by decide +kernel) rfl rfl ?_
  refine w_callS1 111 1 4 (by decide +kernel) (Nat.le_of_ble_eq_true rfl) rfl (by decide) (by omega) ?_
  refine k_111 hI  (by omega) (fun r1 hr1 => ?_)
  dsimp only [Option.toList, List.cons_append, List.nil_append]
  rcases hr1 with ⟨rfl, k2, hk2, rfl⟩ | ⟨rfl, hnok2⟩
  · skip
    refine w_ieq 19 7 (by decide +kernel) (fun hz => absurd hz (by decide)) (fun _ => ?_)
    refine w_load (.aload_n 0) 8 (by decide +kernel) rfl rfl ?_
    refine w_getR (k := 1) (r := 3) 11 (by decide +kernel) sh_0 rfl ?_
    refine w_load (.iload_n 1) 12 (by decide +kernel) rfl rfl ?_
    refine w_tale 13 (by decide +kernel) (by omega) ?_
    refine w_callV0 42 2 2 16 (by decide +kernel) (sc_tale k2 (by omega)).1.1 (Nat.le_of_ble_eq_true rfl)  (by decide) (by omega) ?_
    obtain ⟨n4, hn4, en4⟩ := inv_s hI (sc_tale k2 (by omega))
    refine k_42 hI (sc_tale k2 (by omega)) (by omega) en4 (by omega) (fun r5 hr5 => ?_)
    dsimp only [Option.toList, List.cons_append, List.nil_append]
    refine w_goto 20 (by decide +kernel) ?_
    exact w_ret (by decide +kernel) (hq _ (by obtain ⟨kk, h1k, h2k⟩ := hr5; exact Or.inr ⟨_, n4, kk, by assumption, rfl, by omega, en4, h1k, h2k⟩))
  · skip
    refine w_ieq 19 7 (by decide +kernel) (fun _ => ?_) (fun hz => absurd hz (by decide))
    refine w_push (-1) 20 (by decide +kernel) ?_
    exact w_ret (by decide +kernel) (hq _ (Or.inl ⟨rfl, by assumption⟩))
-- X7_guest
set_option maxRecDepth 10000 in
theorem k_83 {d : Nat} {M : Mt} {L : Lt} {Q : Option Value → Mt → Lt → Prop} {g : Int32} {a : Int32} (hI : Inv M)  (hd : 2 ≤ d) (hq : ∀ (r : Int32), True → Q (some (.int r)) M L) : Wp d 83 0 [.ref 0, .int g, .int a] [] M L Q := by
  refine w_load (.aload_n 0) 1 (by decide +kernel) rfl rfl ?_
  refine w_getR (k := 2) (r := 4) 4 (by decide +kernel) sh_0 rfl ?_
  refine w_load (.iload_n 1) 5 (by decide +kernel) rfl rfl ?_
  refine w_callV1 11 1 2 8 (by decide +kernel) sh_4 (Nat.le_of_ble_eq_true rfl) rfl (by decide) (by omega) ?_
  obtain ⟨n1, hn1, en1⟩ := inv_h hI hs_4
  refine k_11 hI hs_4 (by omega) en1 (by omega) (fun r2 hr2 => ?_)
  dsimp only [Option.toList, List.cons_append, List.nil_append]
  rcases hr2 with ⟨rfl, k3, hk3, rfl⟩ | ⟨rfl, hnok3⟩
  · skip
    refine w_ine 13 11 (by decide +kernel) (fun _ => ?_) (fun hz => absurd hz (by decide))
    refine w_load (.iload_n 2) 14 (by decide +kernel) rfl rfl ?_
    refine w_tab (show insAt 83 14 = some (.tableswitch 90 0 4 #[34, 43, 55, 64, 81]) by decide +kernel) (fun h5 => ⟨104, rfl, ?_⟩) (fun z6 h5 h5b => ?_)
    · skip
      refine w_push (-2) 106 (by decide +kernel) ?_
      exact w_ret (by decide +kernel) (hq _ trivial)
    · rcases (by omega : z6 = 0 ∨ z6 = 1 ∨ z6 = 2 ∨ z6 = 3 ∨ z6 = 4) with rfl | rfl | rfl | rfl | rfl
      · refine ⟨_, 48, rfl, rfl, ?_⟩
        refine w_load (.aload_n 0) 49 (by decide +kernel) rfl rfl ?_
        refine w_getR (k := 2) (r := 4) 52 (by decide +kernel) sh_0 rfl ?_
        refine w_load (.iload_n 1) 53 (by decide +kernel) rfl rfl ?_
        refine w_callV1 12 1 2 56 (by decide +kernel) sh_4 (Nat.le_of_ble_eq_true rfl) rfl (by decide) (by omega) ?_
        refine k_12 hI hs_4 (by omega) (fun r7 hr7 => ?_)
        dsimp only [Option.toList, List.cons_append, List.nil_append]
        exact w_ret (by decide +kernel) (hq _ trivial)
      · refine ⟨_, 57, rfl, rfl, ?_⟩
        refine w_load (.aload_n 0) 58 (by decide +kernel) rfl rfl ?_
        refine w_getR (k := 2) (r := 4) 61 (by decide +kernel) sh_0 rfl ?_
        refine w_load (.iload_n 1) 62 (by decide +kernel) rfl rfl ?_
        refine w_callV1 13 1 2 65 (by decide +kernel) sh_4 (Nat.le_of_ble_eq_true rfl) rfl (by decide) (by omega) ?_
        refine k_13 hI hs_4 (by omega) (fun r8 hr8 => ?_)
        dsimp only [Option.toList, List.cons_append, List.nil_append]
        refine w_pushN 100 67 (by decide +kernel) ?_
        refine w_pure .iadd 68 (by decide +kernel) rfl rfl ?_
        exact w_ret (by decide +kernel) (hq _ trivial)
      · refine ⟨_, 69, rfl, rfl, ?_⟩
        refine w_load (.aload_n 0) 70 (by decide +kernel) rfl rfl ?_
        refine w_getR (k := 2) (r := 4) 73 (by decide +kernel) sh_0 rfl ?_
        refine w_load (.iload_n 1) 74 (by decide +kernel) rfl rfl ?_
        refine w_callV1 15 1 2 77 (by decide +kernel) sh_4 (Nat.le_of_ble_eq_true rfl) rfl (by decide) (by omega) ?_
        refine k_15 hI hs_4 (by omega) (fun r9 hr9 => ?_)
        dsimp only [Option.toList, List.cons_append, List.nil_append]
        exact w_ret (by decide +kernel) (hq _ trivial)
      · refine ⟨_, 78, rfl, rfl, ?_⟩
        refine w_load (.aload_n 0) 79 (by decide +kernel) rfl rfl ?_
        refine w_getR (k := 2) (r := 4) 82 (by decide +kernel) sh_0 rfl ?_
        refine w_load (.iload_n 1) 83 (by decide +kernel) rfl rfl ?_
        refine w_callV1 16 1 2 86 (by decide +kernel) sh_4 (Nat.le_of_ble_eq_true rfl) rfl (by decide) (by omega) ?_
        refine k_16 hI hs_4 (by omega) (fun r10 hr10 => ?_)
        dsimp only [Option.toList, List.cons_append, List.nil_append]
        refine w_ieq 93 89 (by decide +kernel) (fun h11 => ?_) (fun h11 => ?_)
        · skip
          refine w_pushN 0 94 (by decide +kernel) ?_
          exact w_ret (by decide +kernel) (hq _ trivial)
        · skip
          refine w_pushN 1 90 (by decide +kernel) ?_
          refine w_goto 94 (by decide +kernel) ?_
          exact w_ret (by decide +kernel) (hq _ trivial)
      · refine ⟨_, 95, rfl, rfl, ?_⟩
        refine w_load (.aload_n 0) 96 (by decide +kernel) rfl rfl ?_
        refine w_getR (k := 2) (r := 4) 99 (by decide +kernel) sh_0 rfl ?_
        refine w_load (.iload_n 1) 100 (by decide +kernel) rfl rfl ?_
        refine w_callV1 14 1 2 103 (by decide +kernel) sh_4 (Nat.le_of_ble_eq_true rfl) rfl (by decide) (by omega) ?_
        refine k_14 hI hs_4 (by omega) (fun r12 hr12 => ?_)
        dsimp only [Option.toList, List.cons_append, List.nil_append]
        exact w_ret (by decide +kernel) (hq _ trivial)
  · skip
    refine w_ine 13 11 (by decide +kernel) (fun hz => absurd hz (by decide)) (fun _ => ?_)
    refine w_push (-1) 12 (by decide +kernel) ?_
    exact w_ret (by decide +kernel) (hq _ trivial)
-- X7_bears
set_option maxRecDepth 10000 in
theorem k_84 {d : Nat} {M : Mt} {L : Lt} {Q : Option Value → Mt → Lt → Prop} {a : Int32} (hI : Inv M)  (hd : 1 ≤ d) (hq : ∀ (r : Int32), True → Q (some (.int r)) M L) : Wp d 84 0 [.ref 0, .int a] [] M L Q := by
  refine w_load (.iload_n 1) 1 (by decide +kernel) rfl rfl ?_
  refine w_callS1 113 1 4 (by decide +kernel) (Nat.le_of_ble_eq_true rfl) rfl (by decide) (by omega) ?_
  refine k_113 hI  (by omega) (fun r1 hr1 => ?_)
  dsimp only [Option.toList, List.cons_append, List.nil_append]
  rcases hr1 with ⟨rfl, k2, hk2, rfl⟩ | ⟨rfl, hnok2⟩
  · skip
    refine w_ieq 18 7 (by decide +kernel) (fun hz => absurd hz (by decide)) (fun _ => ?_)
    refine w_load (.aload_n 0) 8 (by decide +kernel) rfl rfl ?_
    refine w_getR (k := 2) (r := 4) 11 (by decide +kernel) sh_0 rfl ?_
    refine w_load (.iload_n 1) 12 (by decide +kernel) rfl rfl ?_
    refine w_callV1 24 1 4 15 (by decide +kernel) sh_4 (Nat.le_of_ble_eq_true rfl) rfl (by decide) (by omega) ?_
    refine k_24 hI hs_4 (by omega) (fun r4 hr4 => ?_)
    dsimp only [Option.toList, List.cons_append, List.nil_append]
    refine w_goto 20 (by decide +kernel) ?_
    exact w_ret (by decide +kernel) (hq _ trivial)
  · skip
    refine w_ieq 18 7 (by decide +kernel) (fun _ => ?_) (fun hz => absurd hz (by decide))
    refine w_push (-2) 20 (by decide +kernel) ?_
    exact w_ret (by decide +kernel) (hq _ trivial)
-- X7_would
set_option maxRecDepth 10000 in
theorem k_88 {d : Nat} {M : Mt} {L : Lt} {Q : Option Value → Mt → Lt → Prop} {a : Int32} {b : Int32} (hI : Inv M)  (hd : 6 ≤ d) (hq : ∀ (r : Int32) (N : Mt), St (fun i _ => (7 ≤ i ∧ i ≤ 57) ∨ i = 63 ∨ i = 68 ∨ i = 69) M N → True → Q (some (.int r)) N L) : Wp d 88 0 [.ref 0, .int a, .int b] [] M L Q := by
  refine (show ∀ N : Mt, N = M → St (fun i _ => (7 ≤ i ∧ i ≤ 57) ∨ i = 63 ∨ i = 68 ∨ i = 69) M N → Wp d 88 0 [.ref 0, .int a, .int b] [] N L Q from ?_) M rfl (St.rf hI)
  intro N hNM hS
  refine w_load (.iload_n 1) 1 (by decide +kernel) rfl rfl ?_
  refine w_callS1 111 1 4 (by decide +kernel) (Nat.le_of_ble_eq_true rfl) rfl (by decide) (by omega) ?_
  refine k_111 hS.1  (by omega) (fun r1 hr1 => ?_)
  dsimp only [Option.toList, List.cons_append, List.nil_append]
  rcases hr1 with ⟨rfl, k2, hk2, rfl⟩ | ⟨rfl, hnok2⟩
  · skip
    refine w_ine 9 7 (by decide +kernel) (fun _ => ?_) (fun hz => absurd hz (by decide))
    refine w_load (.iload_n 2) 10 (by decide +kernel) rfl rfl ?_
    refine w_ilt 18 13 (by decide +kernel) (fun h4 => ?_) (fun h4 => ?_)
    · skip
      refine w_push (-2) 20 (by decide +kernel) ?_
      exact w_ret (by decide +kernel) (hq _ N hS trivial)
    · skip
      refine w_load (.iload_n 2) 14 (by decide +kernel) rfl rfl ?_
      refine w_pushN 3 15 (by decide +kernel) ?_
      refine w_cle 21 18 (by decide +kernel) (fun h5 => ?_) (fun h5 => ?_)
      · skip
        refine w_load (.aload_n 0) 22 (by decide +kernel) rfl rfl ?_
        refine w_getR (k := 4) (r := 10) 25 (by decide +kernel) sh_0 rfl ?_
        refine w_load (.aload_n 0) 26 (by decide +kernel) rfl rfl ?_
        refine w_getR (k := 2) (r := 4) 29 (by decide +kernel) sh_0 rfl ?_
        refine w_load (.aload_n 0) 30 (by decide +kernel) rfl rfl ?_
        refine w_getR (k := 1) (r := 3) 33 (by decide +kernel) sh_0 rfl ?_
        refine w_load (.iload_n 1) 34 (by decide +kernel) rfl rfl ?_
        refine w_tale 35 (by decide +kernel) (by omega) ?_
        refine w_callV2 68 6 5 38 (by decide +kernel) sh_10 (Nat.le_of_ble_eq_true rfl) rfl rfl (by decide) (by omega) ?_
        refine k_68 hS.1 tl_10 hs_4 (sc_tale k2 (by omega)) (by omega) (fun Nr6 hTr6 hr6 => ?_)
        have hS := hS.tr hTr6 (by intro i k; first | exact rfl | omega | (dsimp only; omega) | (simp only [Hs, Tl, Sc, isHs, isScr, isTs] at *; omega))
        dsimp only [Option.toList, List.nil_append]
        refine w_load (.iload_n 2) 39 (by decide +kernel) rfl rfl ?_
        refine w_tab (show insAt 88 39 = some (.tableswitch 52 0 2 #[25, 33, 41]) by decide +kernel) (fun h7 => ⟨91, rfl, ?_⟩) (fun z8 h7 h7b => ?_)
        · skip
          refine w_load (.aload_n 0) 92 (by decide +kernel) rfl rfl ?_
          refine w_getR (k := 4) (r := 10) 95 (by decide +kernel) sh_0 rfl ?_
          refine w_getR (k := 0) (r := 11) 98 (by decide +kernel) sh_10 rfl ?_
          refine w_callV0 23 1 3 101 (by decide +kernel) sh_11 (Nat.le_of_ble_eq_true rfl)  (by decide) (by omega) ?_
          refine k_23 hS.1 hs_11 (by omega) (fun r9 hr9 => ?_)
          dsimp only [Option.toList, List.cons_append, List.nil_append]
          refine w_pushN 1000 104 (by decide +kernel) ?_
          refine w_pure .iadd 105 (by decide +kernel) rfl rfl ?_
          exact w_ret (by decide +kernel) (hq _ Nr6 hS trivial)
        · rcases (by omega : z8 = 0 ∨ z8 = 1 ∨ z8 = 2) with rfl | rfl | rfl
          · refine ⟨_, 64, rfl, rfl, ?_⟩
            refine w_load (.aload_n 0) 65 (by decide +kernel) rfl rfl ?_
            refine w_getR (k := 4) (r := 10) 68 (by decide +kernel) sh_0 rfl ?_
            refine w_getI (k := 2) 71 (by decide +kernel) sh_10 rfl ?_
            exact w_ret (by decide +kernel) (hq _ Nr6 hS trivial)
          · refine ⟨_, 72, rfl, rfl, ?_⟩
            refine w_load (.aload_n 0) 73 (by decide +kernel) rfl rfl ?_
            refine w_getR (k := 4) (r := 10) 76 (by decide +kernel) sh_0 rfl ?_
            refine w_getI (k := 3) 79 (by decide +kernel) sh_10 rfl ?_
            exact w_ret (by decide +kernel) (hq _ Nr6 hS trivial)
          · refine ⟨_, 80, rfl, rfl, ?_⟩
            refine w_load (.aload_n 0) 81 (by decide +kernel) rfl rfl ?_
            refine w_getR (k := 4) (r := 10) 84 (by decide +kernel) sh_0 rfl ?_
            refine w_getR (k := 0) (r := 11) 87 (by decide +kernel) sh_10 rfl ?_
            refine w_callV0 20 1 1 90 (by decide +kernel) sh_11 (Nat.le_of_ble_eq_true rfl)  (by decide) (by omega) ?_
            refine k_20 hS.1 hs_11 (by omega) (fun r10 hr10 => ?_)
            dsimp only [Option.toList, List.cons_append, List.nil_append]
            exact w_ret (by decide +kernel) (hq _ Nr6 hS trivial)
      · skip
        refine w_push (-2) 20 (by decide +kernel) ?_
        exact w_ret (by decide +kernel) (hq _ N hS trivial)
  · skip
    refine w_ine 9 7 (by decide +kernel) (fun hz => absurd hz (by decide)) (fun _ => ?_)
    refine w_push (-1) 8 (by decide +kernel) ?_
    exact w_ret (by decide +kernel) (hq _ N hS trivial)
-- X7_coins
set_option maxRecDepth 10000 in
theorem k_89 {d : Nat} {M : Mt} {L : Lt} {Q : Option Value → Mt → Lt → Prop} {a : Int32} {g : Int32} (hI : Inv M)  (hd : 6 ≤ d) (hq : ∀ (r : Int32) (N : Mt), St (fun i _ => (7 ≤ i ∧ i ≤ 57) ∨ i = 63 ∨ i = 68 ∨ i = 69) M N → True → Q (some (.int r)) N L) : Wp d 89 0 [.ref 0, .int a, .int g] [] M L Q := by
  refine (show ∀ N : Mt, N = M → St (fun i _ => (7 ≤ i ∧ i ≤ 57) ∨ i = 63 ∨ i = 68 ∨ i = 69) M N → Wp d 89 0 [.ref 0, .int a, .int g] [] N L Q from ?_) M rfl (St.rf hI)
  intro N hNM hS
  refine w_load (.iload_n 1) 1 (by decide +kernel) rfl rfl ?_
  refine w_callS1 111 1 4 (by decide +kernel) (Nat.le_of_ble_eq_true rfl) rfl (by decide) (by omega) ?_
  refine k_111 hS.1  (by omega) (fun r1 hr1 => ?_)
  dsimp only [Option.toList, List.cons_append, List.nil_append]
  rcases hr1 with ⟨rfl, k2, hk2, rfl⟩ | ⟨rfl, hnok2⟩
  · skip
    refine w_ieq 18 7 (by decide +kernel) (fun hz => absurd hz (by decide)) (fun _ => ?_)
    refine w_load (.aload_n 0) 8 (by decide +kernel) rfl rfl ?_
    refine w_getR (k := 2) (r := 4) 11 (by decide +kernel) sh_0 rfl ?_
    refine w_load (.iload_n 2) 12 (by decide +kernel) rfl rfl ?_
    refine w_callV1 11 1 2 15 (by decide +kernel) sh_4 (Nat.le_of_ble_eq_true rfl) rfl (by decide) (by omega) ?_
    obtain ⟨n4, hn4, en4⟩ := inv_h hS.1 hs_4
    refine k_11 hS.1 hs_4 (by omega) en4 (by omega) (fun r5 hr5 => ?_)
    dsimp only [Option.toList, List.cons_append, List.nil_append]
    rcases hr5 with ⟨rfl, k6, hk6, rfl⟩ | ⟨rfl, hnok6⟩
    · skip
      refine w_ine 20 18 (by decide +kernel) (fun _ => ?_) (fun hz => absurd hz (by decide))
      refine w_load (.aload_n 0) 21 (by decide +kernel) rfl rfl ?_
      refine w_getR (k := 4) (r := 10) 24 (by decide +kernel) sh_0 rfl ?_
      refine w_load (.aload_n 0) 25 (by decide +kernel) rfl rfl ?_
      refine w_getR (k := 2) (r := 4) 28 (by decide +kernel) sh_0 rfl ?_
      refine w_load (.aload_n 0) 29 (by decide +kernel) rfl rfl ?_
      refine w_getR (k := 1) (r := 3) 32 (by decide +kernel) sh_0 rfl ?_
      refine w_load (.iload_n 1) 33 (by decide +kernel) rfl rfl ?_
      refine w_tale 34 (by decide +kernel) (by omega) ?_
      refine w_callV2 68 6 5 37 (by decide +kernel) sh_10 (Nat.le_of_ble_eq_true rfl) rfl rfl (by decide) (by omega) ?_
      refine k_68 hS.1 tl_10 hs_4 (sc_tale k2 (by omega)) (by omega) (fun Nr8 hTr8 hr8 => ?_)
      have hS := hS.tr hTr8 (by intro i k; first | exact rfl | omega | (dsimp only; omega) | (simp only [Hs, Tl, Sc, isHs, isScr, isTs] at *; omega))
      dsimp only [Option.toList, List.nil_append]
      refine w_load (.aload_n 0) 38 (by decide +kernel) rfl rfl ?_
      refine w_getR (k := 4) (r := 10) 41 (by decide +kernel) sh_0 rfl ?_
      refine w_getR (k := 0) (r := 11) 44 (by decide +kernel) sh_10 rfl ?_
      refine w_load (.iload_n 2) 45 (by decide +kernel) rfl rfl ?_
      refine w_callV1 13 1 2 48 (by decide +kernel) sh_11 (Nat.le_of_ble_eq_true rfl) rfl (by decide) (by omega) ?_
      refine k_13 hS.1 hs_11 (by omega) (fun r9 hr9 => ?_)
      dsimp only [Option.toList, List.cons_append, List.nil_append]
      refine w_pushN 100 50 (by decide +kernel) ?_
      refine w_pure .iadd 51 (by decide +kernel) rfl rfl ?_
      exact w_ret (by decide +kernel) (hq _ Nr8 hS trivial)
    · skip
      refine w_ine 20 18 (by decide +kernel) (fun hz => absurd hz (by decide)) (fun _ => ?_)
      refine w_push (-1) 19 (by decide +kernel) ?_
      exact w_ret (by decide +kernel) (hq _ N hS trivial)
  · skip
    refine w_ieq 18 7 (by decide +kernel) (fun _ => ?_) (fun hz => absurd hz (by decide))
    refine w_push (-1) 19 (by decide +kernel) ?_
    exact w_ret (by decide +kernel) (hq _ N hS trivial)
