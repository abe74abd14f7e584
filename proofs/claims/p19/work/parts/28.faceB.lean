theorem sw_le {x : Int32} {lo : Int} {n m : Nat} (h : x.toInt = lo + n) (hk : 0 ≤ lo ∧ lo + n ≤ m ∧ m < 2 ^ 31) : ∃ k, k ≤ m ∧ x = nI k := by
  refine ⟨(lo + n).toNat, by omega, ?_⟩
  apply Int32.toInt_inj.mp
  rw [h, nI_toInt (by omega)]
  omega
-- X7_isEndTold
set_option maxRecDepth 10000 in
theorem k_123 {d : Nat} {M : Mt} {L : Lt} {Q : Option Value → Mt → Lt → Prop} {e : Int32} {v : Int32} (hI : Inv M)  (hd : 1 ≤ d) (hq : ∀ (r : Int32), ((r = 1 ∧ ∃ k, k ≤ 3 ∧ e = nI k) ∨ r = 0) → Q (some (.int r)) M L) : Wp d 123 0 [.ref 0, .int e, .int v] [] M L Q := by
  refine w_load (.iload_n 1) 1 (by decide +kernel) rfl rfl ?_
  refine w_tab (show insAt 123 1 = some (.tableswitch 63 0 3 #[31, 33, 42, 58]) by decide +kernel) (fun h1 => ⟨64, rfl, ?_⟩) (fun z2 h1 h1b => ?_)
  · skip
    refine w_pushN 0 65 (by decide +kernel) ?_
    exact w_retZ (by decide +kernel) (Or.inl rfl) (hq _ (Or.inr rfl))
  · rcases (by omega : z2 = 0 ∨ z2 = 1 ∨ z2 = 2 ∨ z2 = 3) with rfl | rfl | rfl | rfl
    · refine ⟨_, 32, rfl, rfl, ?_⟩
      refine w_pushN 1 33 (by decide +kernel) ?_
      exact w_retZ (by decide +kernel) (Or.inr rfl) (hq _ (Or.inl ⟨rfl, sw_le (by assumption) (by decide)⟩))
    · refine ⟨_, 34, rfl, rfl, ?_⟩
      refine w_load (.aload_n 0) 35 (by decide +kernel) rfl rfl ?_
      refine w_getR (k := 2) (r := 4) 38 (by decide +kernel) sh_0 rfl ?_
      refine w_load (.iload_n 2) 39 (by decide +kernel) rfl rfl ?_
      refine w_callV1 11 1 2 42 (by decide +kernel) sh_4 (Nat.le_of_ble_eq_true rfl) rfl (by decide) (by omega) ?_
      obtain ⟨n3, hn3, en3⟩ := inv_h hI hs_4
      refine k_11 hI hs_4 (by omega) en3 (by omega) (fun r4 hr4 => ?_)
      dsimp only [Option.toList, List.cons_append, List.nil_append]
      rcases hr4 with ⟨rfl, k5, hk5, rfl⟩ | ⟨rfl, hnok5⟩
      · skip
        exact w_retZ (by decide +kernel) (Or.inr rfl) (hq _ (Or.inl ⟨rfl, sw_le (by assumption) (by decide)⟩))
      · skip
        exact w_retZ (by decide +kernel) (Or.inl rfl) (hq _ (Or.inr rfl))
    · refine ⟨_, 43, rfl, rfl, ?_⟩
      refine w_load (.iload_n 2) 44 (by decide +kernel) rfl rfl ?_
      refine w_ilt 57 47 (by decide +kernel) (fun h6 => ?_) (fun h6 => ?_)
      · skip
        refine w_pushN 0 58 (by decide +kernel) ?_
        exact w_retZ (by decide +kernel) (Or.inl rfl) (hq _ (Or.inr rfl))
      · skip
        refine w_load (.iload_n 2) 48 (by decide +kernel) rfl rfl ?_
        refine w_pushN 20 50 (by decide +kernel) ?_
        refine w_cgt 57 53 (by decide +kernel) (fun h7 => ?_) (fun h7 => ?_)
        · skip
          refine w_pushN 0 58 (by decide +kernel) ?_
          exact w_retZ (by decide +kernel) (Or.inl rfl) (hq _ (Or.inr rfl))
        · skip
          refine w_pushN 1 54 (by decide +kernel) ?_
          refine w_goto 58 (by decide +kernel) ?_
          exact w_retZ (by decide +kernel) (Or.inr rfl) (hq _ (Or.inl ⟨rfl, sw_le (by assumption) (by decide)⟩))
    · refine ⟨_, 59, rfl, rfl, ?_⟩
      refine w_load (.iload_n 2) 60 (by decide +kernel) rfl rfl ?_
      refine w_callS1 113 1 63 (by decide +kernel) (Nat.le_of_ble_eq_true rfl) rfl (by decide) (by omega) ?_
      refine k_113 hI  (by omega) (fun r8 hr8 => ?_)
      dsimp only [Option.toList, List.cons_append, List.nil_append]
      rcases hr8 with ⟨rfl, k9, hk9, rfl⟩ | ⟨rfl, hnok9⟩
      · skip
        exact w_retZ (by decide +kernel) (Or.inr rfl) (hq _ (Or.inl ⟨rfl, sw_le (by assumption) (by decide)⟩))
      · skip
        exact w_retZ (by decide +kernel) (Or.inl rfl) (hq _ (Or.inr rfl))
-- X7_refusalOfEnd
set_option maxRecDepth 10000 in
theorem k_122 {d : Nat} {M : Mt} {L : Lt} {Q : Option Value → Mt → Lt → Prop} {g : Int32} {e : Int32} {v : Int32} (hI : Inv M)  (hd : 2 ≤ d) (hq : ∀ (r : Int32), ((r = 0 ∧ ∃ k, k ≤ 3 ∧ e = nI k) ∨ ¬ r = 0) → Q (some (.int r)) M L) : Wp d 122 0 [.ref 0, .int g, .int e, .int v] [] M L Q := by
  refine w_load (.aload_n 0) 1 (by decide +kernel) rfl rfl ?_
  refine w_load (.iload_n 2) 2 (by decide +kernel) rfl rfl ?_
  refine w_load (.iload_n 3) 3 (by decide +kernel) rfl rfl ?_
  refine w_callV2 123 7 3 6 (by decide +kernel) sh_0 (Nat.le_of_ble_eq_true rfl) rfl rfl (by decide) (by omega) ?_
  refine k_123 hI  (by omega) (fun r1 hr1 => ?_)
  dsimp only [Option.toList, List.cons_append, List.nil_append]
  rcases hr1 with ⟨rfl, hek⟩ | rfl
  · skip
    refine w_ine 12 9 (by decide +kernel) (fun _ => ?_) (fun hz => absurd hz (by decide))
    refine w_load (.aload_n 0) 13 (by decide +kernel) rfl rfl ?_
    refine w_getR (k := 2) (r := 4) 16 (by decide +kernel) sh_0 rfl ?_
    refine w_load (.iload_n 1) 17 (by decide +kernel) rfl rfl ?_
    refine w_callV1 11 1 2 20 (by decide +kernel) sh_4 (Nat.le_of_ble_eq_true rfl) rfl (by decide) (by omega) ?_
    obtain ⟨n3, hn3, en3⟩ := inv_h hI hs_4
    refine k_11 hI hs_4 (by omega) en3 (by omega) (fun r4 hr4 => ?_)
    dsimp only [Option.toList, List.cons_append, List.nil_append]
    rcases hr4 with ⟨rfl, k5, hk5, rfl⟩ | ⟨rfl, hnok5⟩
    · skip
      refine w_ieq 27 23 (by decide +kernel) (fun hz => absurd hz (by decide)) (fun _ => ?_)
      refine w_pushN 0 24 (by decide +kernel) ?_
      refine w_goto 28 (by decide +kernel) ?_
      exact w_ret (by decide +kernel) (hq _ (Or.inl ⟨rfl, by assumption⟩))
    · skip
      refine w_ieq 27 23 (by decide +kernel) (fun _ => ?_) (fun hz => absurd hz (by decide))
      refine w_push (-1) 28 (by decide +kernel) ?_
      exact w_ret (by decide +kernel) (hq _ (Or.inr (by decide)))
  · skip
    refine w_ine 12 9 (by decide +kernel) (fun hz => absurd hz (by decide)) (fun _ => ?_)
    refine w_push (-2) 11 (by decide +kernel) ?_
    exact w_ret (by decide +kernel) (hq _ (Or.inr (by decide)))
-- X7_shortest
set_option maxRecDepth 10000 in
theorem k_90 {d : Nat} {M : Mt} {L : Lt} {Q : Option Value → Mt → Lt → Prop} {g : Int32} {e : Int32} {v : Int32} (hI : Inv M)  (hd : 7 ≤ d) (hq : ∀ (r : Int32) (N : Mt), St (fun i _ => (7 ≤ i ∧ i ≤ 57) ∨ i = 63 ∨ i = 68 ∨ i = 69) M N → True → Q (some (.int r)) N L) : Wp d 90 0 [.ref 0, .int g, .int e, .int v, .null] [] M L Q := by
  refine (show ∀ N : Mt, N = M → St (fun i _ => (7 ≤ i ∧ i ≤ 57) ∨ i = 63 ∨ i = 68 ∨ i = 69) M N → Wp d 90 0 [.ref 0, .int g, .int e, .int v, .null] [] N L Q from ?_) M rfl (St.rf hI)
  intro N hNM hS
  refine w_load (.aload_n 0) 1 (by decide +kernel) rfl rfl ?_
  refine w_load (.iload_n 1) 2 (by decide +kernel) rfl rfl ?_
  refine w_load (.iload_n 2) 3 (by decide +kernel) rfl rfl ?_
  refine w_load (.iload_n 3) 4 (by decide +kernel) rfl rfl ?_
  refine w_callV3 122 7 4 7 (by decide +kernel) sh_0 (Nat.le_of_ble_eq_true rfl) rfl rfl rfl (by decide) (by omega) ?_
  refine k_122 hS.1  (by omega) (fun r1 hr1 => ?_)
  dsimp only [Option.toList, List.cons_append, List.nil_append]
  rcases hr1 with ⟨rfl, ke, hke, rfl⟩ | hno
  · skip
    refine w_store (ls' := [.ref 0, .int g, .int (nI ke), .int v, .int (0)]) (.istore 4) 9 (by decide +kernel) rfl rfl ?_
    refine w_load (.iload 4) 11 (by decide +kernel) rfl rfl ?_
    refine w_ieq 17 14 (by decide +kernel) (fun _ => ?_) (fun hz => absurd hz (by decide))
    refine w_load (.aload_n 0) 18 (by decide +kernel) rfl rfl ?_
    refine w_getR (k := 5) (r := 15) 21 (by decide +kernel) sh_0 rfl ?_
    refine w_load (.aload_n 0) 22 (by decide +kernel) rfl rfl ?_
    refine w_getR (k := 2) (r := 4) 25 (by decide +kernel) sh_0 rfl ?_
    refine w_load (.iload_n 1) 26 (by decide +kernel) rfl rfl ?_
    refine w_load (.iload_n 2) 27 (by decide +kernel) rfl rfl ?_
    refine w_load (.iload_n 3) 28 (by decide +kernel) rfl rfl ?_
    refine w_callV4 51 3 6 31 (by decide +kernel) sh_15 (Nat.le_of_ble_eq_true rfl) rfl rfl rfl rfl (by decide) (by omega) ?_
    refine k_51 hS.1 hs_4 (by omega) (by omega) (fun Nr3 hTr3 hr3 => ?_)
    have hS := hS.tr hTr3 (by intro i k; first | exact rfl | omega | (dsimp only; omega) | (simp only [Hs, Tl, Sc, isHs, isScr, isTs] at *; omega))
    dsimp only [Option.toList, List.nil_append]
    refine w_load (.aload_n 0) 32 (by decide +kernel) rfl rfl ?_
    refine w_getR (k := 5) (r := 15) 35 (by decide +kernel) sh_0 rfl ?_
    refine w_getI (k := 3) 38 (by decide +kernel) sh_15 rfl ?_
    exact w_ret (by decide +kernel) (hq _ Nr3 hS trivial)
  · skip
    refine w_store (ls' := [.ref 0, .int g, .int e, .int v, .int r1]) (.istore 4) 9 (by decide +kernel) rfl rfl ?_
    refine w_load (.iload 4) 11 (by decide +kernel) rfl rfl ?_
    refine w_ieq 17 14 (by decide +kernel) (fun hz => absurd hz hno) (fun _ => ?_)
    refine w_load (.iload 4) 16 (by decide +kernel) rfl rfl ?_
    exact w_ret (by decide +kernel) (hq _ N hS trivial)
-- X7_shortestAt
set_option maxRecDepth 10000 in
theorem k_91 {d : Nat} {M : Mt} {L : Lt} {Q : Option Value → Mt → Lt → Prop} {g : Int32} {e : Int32} {v : Int32} {i : Int32} (hI : Inv M)  (hd : 7 ≤ d) (hq : ∀ (r : Int32) (N : Mt), St (fun i _ => (7 ≤ i ∧ i ≤ 57) ∨ i = 63 ∨ i = 68 ∨ i = 69) M N → True → Q (some (.int r)) N L) : Wp d 91 0 [.ref 0, .int g, .int e, .int v, .int i, .null, .null] [] M L Q := by
  refine (show ∀ N : Mt, N = M → St (fun i _ => (7 ≤ i ∧ i ≤ 57) ∨ i = 63 ∨ i = 68 ∨ i = 69) M N → Wp d 91 0 [.ref 0, .int g, .int e, .int v, .int i, .null, .null] [] N L Q from ?_) M rfl (St.rf hI)
  intro N hNM hS
  refine w_load (.iload 4) 2 (by decide +kernel) rfl rfl ?_
  refine w_ige 8 5 (by decide +kernel) (fun h1 => ?_) (fun h1 => ?_)
  · skip
    refine w_load (.aload_n 0) 9 (by decide +kernel) rfl rfl ?_
    refine w_load (.iload_n 1) 10 (by decide +kernel) rfl rfl ?_
    refine w_load (.iload_n 2) 11 (by decide +kernel) rfl rfl ?_
    refine w_load (.iload_n 3) 12 (by decide +kernel) rfl rfl ?_
    refine w_callV3 122 7 4 15 (by decide +kernel) sh_0 (Nat.le_of_ble_eq_true rfl) rfl rfl rfl (by decide) (by omega) ?_
    refine k_122 hS.1  (by omega) (fun r2 hr2 => ?_)
    dsimp only [Option.toList, List.cons_append, List.nil_append]
    rcases hr2 with ⟨rfl, ke, hke, rfl⟩ | hno
    · skip
      refine w_store (ls' := [.ref 0, .int g, .int (nI ke), .int v, .int i, .int (0), .null]) (.istore 5) 17 (by decide +kernel) rfl rfl ?_
      refine w_load (.iload 5) 19 (by decide +kernel) rfl rfl ?_
      refine w_ieq 25 22 (by decide +kernel) (fun _ => ?_) (fun hz => absurd hz (by decide))
      refine w_load (.aload_n 0) 26 (by decide +kernel) rfl rfl ?_
      refine w_getR (k := 5) (r := 15) 29 (by decide +kernel) sh_0 rfl ?_
      refine w_load (.aload_n 0) 30 (by decide +kernel) rfl rfl ?_
      refine w_getR (k := 2) (r := 4) 33 (by decide +kernel) sh_0 rfl ?_
      refine w_load (.iload_n 1) 34 (by decide +kernel) rfl rfl ?_
      refine w_load (.iload_n 2) 35 (by decide +kernel) rfl rfl ?_
      refine w_load (.iload_n 3) 36 (by decide +kernel) rfl rfl ?_
      refine w_callV4 51 3 6 39 (by decide +kernel) sh_15 (Nat.le_of_ble_eq_true rfl) rfl rfl rfl rfl (by decide) (by omega) ?_
      refine k_51 hS.1 hs_4 (by omega) (by omega) (fun Nr4 hTr4 hr4 => ?_)
      have hS := hS.tr hTr4 (by intro i k; first | exact rfl | omega | (dsimp only; omega) | (simp only [Hs, Tl, Sc, isHs, isScr, isTs] at *; omega))
      dsimp only [Option.toList, List.nil_append]
      refine w_load (.iload 4) 41 (by decide +kernel) rfl rfl ?_
      refine w_load (.aload_n 0) 42 (by decide +kernel) rfl rfl ?_
      refine w_getR (k := 5) (r := 15) 45 (by decide +kernel) sh_0 rfl ?_
      refine w_getI (k := 3) 48 (by decide +kernel) sh_15 rfl ?_
      refine w_clt 54 51 (by decide +kernel) (fun h5 => ?_) (fun h5 => ?_)
      · skip
        refine w_load (.iload 4) 56 (by decide +kernel) rfl rfl ?_
        refine w_ine 69 59 (by decide +kernel) (fun h6 => ?_) (fun h6 => ?_)
        · skip
          refine w_load (.aload_n 0) 70 (by decide +kernel) rfl rfl ?_
          refine w_getR (k := 5) (r := 15) 73 (by decide +kernel) sh_0 rfl ?_
          refine w_getI (k := 5) 76 (by decide +kernel) sh_15 rfl ?_
          refine w_topi (fun v7 ev7 => ?_)
          refine w_store (ls' := [.ref 0, .int g, .int (nI ke), .int v, .int i, .int (0), .int v7]) (.istore 6) 78 (by decide +kernel) rfl rfl ?_
          refine w_pushN 100 80 (by decide +kernel) ?_
          refine w_load (.iload 6) 82 (by decide +kernel) rfl rfl ?_
          refine w_callS1 117 1 85 (by decide +kernel) (Nat.le_of_ble_eq_true rfl) rfl (by decide) (by omega) ?_
          refine k_117 hS.1  (by omega) (fun r8 hr8 => ?_)
          dsimp only [Option.toList, List.cons_append, List.nil_append]
          refine w_pure .imul 86 (by decide +kernel) rfl rfl ?_
          refine w_pushN 10 88 (by decide +kernel) ?_
          refine w_load (.iload 6) 90 (by decide +kernel) rfl rfl ?_
          refine w_callS1 118 1 93 (by decide +kernel) (Nat.le_of_ble_eq_true rfl) rfl (by decide) (by omega) ?_
          refine k_118 hS.1  (by omega) (fun r9 hr9 => ?_)
          dsimp only [Option.toList, List.cons_append, List.nil_append]
          refine w_pure .imul 94 (by decide +kernel) rfl rfl ?_
          refine w_pure .iadd 95 (by decide +kernel) rfl rfl ?_
          refine w_load (.iload 6) 97 (by decide +kernel) rfl rfl ?_
          refine w_callS1 119 1 100 (by decide +kernel) (Nat.le_of_ble_eq_true rfl) rfl (by decide) (by omega) ?_
          refine k_119 hS.1  (by omega) (fun r10 hr10 => ?_)
          dsimp only [Option.toList, List.cons_append, List.nil_append]
          refine w_pure .iadd 101 (by decide +kernel) rfl rfl ?_
          exact w_ret (by decide +kernel) (hq _ Nr4 hS trivial)
        · skip
          refine w_load (.aload_n 0) 60 (by decide +kernel) rfl rfl ?_
          refine w_getR (k := 5) (r := 15) 63 (by decide +kernel) sh_0 rfl ?_
          refine w_getI (k := 4) 66 (by decide +kernel) sh_15 rfl ?_
          refine w_goto 76 (by decide +kernel) ?_
          refine w_topi (fun v11 ev11 => ?_)
          refine w_store (ls' := [.ref 0, .int g, .int (nI ke), .int v, .int i, .int (0), .int v11]) (.istore 6) 78 (by decide +kernel) rfl rfl ?_
          refine w_pushN 100 80 (by decide +kernel) ?_
          refine w_load (.iload 6) 82 (by decide +kernel) rfl rfl ?_
          refine w_callS1 117 1 85 (by decide +kernel) (Nat.le_of_ble_eq_true rfl) rfl (by decide) (by omega) ?_
          refine k_117 hS.1  (by omega) (fun r12 hr12 => ?_)
          dsimp only [Option.toList, List.cons_append, List.nil_append]
          refine w_pure .imul 86 (by decide +kernel) rfl rfl ?_
          refine w_pushN 10 88 (by decide +kernel) ?_
          refine w_load (.iload 6) 90 (by decide +kernel) rfl rfl ?_
          refine w_callS1 118 1 93 (by decide +kernel) (Nat.le_of_ble_eq_true rfl) rfl (by decide) (by omega) ?_
          refine k_118 hS.1  (by omega) (fun r13 hr13 => ?_)
          dsimp only [Option.toList, List.cons_append, List.nil_append]
          refine w_pure .imul 94 (by decide +kernel) rfl rfl ?_
          refine w_pure .iadd 95 (by decide +kernel) rfl rfl ?_
          refine w_load (.iload 6) 97 (by decide +kernel) rfl rfl ?_
          refine w_callS1 119 1 100 (by decide +kernel) (Nat.le_of_ble_eq_true rfl) rfl (by decide) (by omega) ?_
          refine k_119 hS.1  (by omega) (fun r14 hr14 => ?_)
          dsimp only [Option.toList, List.cons_append, List.nil_append]
          refine w_pure .iadd 101 (by decide +kernel) rfl rfl ?_
          exact w_ret (by decide +kernel) (hq _ Nr4 hS trivial)
      · skip
        refine w_push (-9) 53 (by decide +kernel) ?_
        exact w_ret (by decide +kernel) (hq _ Nr4 hS trivial)
    · skip
      refine w_store (ls' := [.ref 0, .int g, .int e, .int v, .int i, .int r2, .null]) (.istore 5) 17 (by decide +kernel) rfl rfl ?_
      refine w_load (.iload 5) 19 (by decide +kernel) rfl rfl ?_
      refine w_ieq 25 22 (by decide +kernel) (fun hz => absurd hz hno) (fun _ => ?_)
      refine w_load (.iload 5) 24 (by decide +kernel) rfl rfl ?_
      exact w_ret (by decide +kernel) (hq _ N hS trivial)
  · skip
    refine w_push (-2) 7 (by decide +kernel) ?_
    exact w_ret (by decide +kernel) (hq _ N hS trivial)
-- X7_isDoneWithout
set_option maxRecDepth 10000 in
theorem k_124 {d : Nat} {M : Mt} {L : Lt} {Q : Option Value → Mt → Lt → Prop} {s : Nat} {a : Int32} (hI : Inv M) (hc : Sc s) (hd : 5 ≤ d) (hq : ∀ (r : Int32) (N : Mt), St (fun i _ => (7 ≤ i ∧ i ≤ 57) ∨ i = 63 ∨ i = 68 ∨ i = 69) M N → (r = 0 ∨ r = 1) → Q (some (.int r)) N L) : Wp d 124 0 [.ref 0, .ref s, .int a, .null, .null, .null] [] M L Q := by
  refine (show ∀ N : Mt, N = M → St (fun i _ => (7 ≤ i ∧ i ≤ 57) ∨ i = 63 ∨ i = 68 ∨ i = 69) M N → Wp d 124 0 [.ref 0, .ref s, .int a, .null, .null, .null] [] N L Q from ?_) M rfl (St.rf hI)
  intro N hNM hS
  refine w_load (.aload_n 0) 1 (by decide +kernel) rfl rfl ?_
  refine w_getR (k := 4) (r := 10) 4 (by decide +kernel) sh_0 rfl ?_
  refine w_load (.aload_n 0) 5 (by decide +kernel) rfl rfl ?_
  refine w_getR (k := 2) (r := 4) 8 (by decide +kernel) sh_0 rfl ?_
  refine w_callV1 66 6 3 11 (by decide +kernel) sh_10 (Nat.le_of_ble_eq_true rfl) rfl (by decide) (by omega) ?_
  refine k_66 hS.1 tl_10 hs_4 (by omega) (fun Nr1 hTr1 hr1 => ?_)
  have hS := hS.tr hTr1 (by intro i k; first | exact rfl | omega | (dsimp only; omega) | (simp only [Hs, Tl, Sc, isHs, isScr, isTs] at *; omega))
  dsimp only [Option.toList, List.nil_append]
  refine w_load (.aload_n 1) 12 (by decide +kernel) rfl rfl ?_
  refine w_callV0 43 2 1 15 (by decide +kernel) hc.1.1 (Nat.le_of_ble_eq_true rfl)  (by decide) (by omega) ?_
  obtain ⟨n2, hn2, en2⟩ := inv_s hS.1 hc
  refine k_43 hS.1 hc (by omega) en2 (by omega) (fun r3 hr3 => ?_)
  dsimp only [Option.toList, List.cons_append, List.nil_append]
  rcases hr3 with ⟨kr3, hsr3, rfl⟩
  · skip
    have hlr3 := hsr3.1
    refine w_store (ls' := [.ref 0, .ref s, .int a, .int (nI ((kr3 / 3))), .null, .null]) (.istore_n 3) 16 (by decide +kernel) rfl rfl ?_
    refine w_pushN 0 17 (by decide +kernel) ?_
    refine w_store (ls' := [.ref 0, .ref s, .int a, .int (nI ((kr3 / 3))), .int (nI 0), .null]) (.istore 4) 19 (by decide +kernel) rfl rfl ?_
    refine w_pushN 0 20 (by decide +kernel) ?_
    refine w_store (ls' := [.ref 0, .ref s, .int a, .int (nI ((kr3 / 3))), .int (nI 0), .int (nI 0)]) (.istore 5) 22 (by decide +kernel) rfl rfl ?_
    have LP_22 : ∀ (kk : Nat) (N_22 : Mt) (x4_22 : Int32) (g5 : Nat), St (fun i _ => (7 ≤ i ∧ i ≤ 57) ∨ i = 63 ∨ i = 68 ∨ i = 69) M N_22 → g5 ≤ 8 → 8 - g5 < kk → Wp d 124 22 [.ref 0, .ref s, .int a, .int (nI ((kr3 / 3))), .int x4_22, .int (nI g5)] [] N_22 L Q := by
      intro kk
      induction kk with
      | zero => intro N_22 x4_22 g5 hS hi0_22 hm_22; exact absurd hm_22 (Nat.not_lt_zero _)
      | succ kk ih_22 =>
        intro N_22 x4_22 g5 hS hi0_22 hm_22
        refine w_load (.iload 5) 24 (by decide +kernel) rfl rfl ?_
        refine w_load (.iload_n 3) 25 (by decide +kernel) rfl rfl ?_
        refine w_cgeN 67 28 (by decide +kernel) (by omega) (by omega) (fun h4 => ?_) (fun h4 => ?_)
        · skip
          refine w_load (.aload_n 0) 68 (by decide +kernel) rfl rfl ?_
          refine w_getR (k := 4) (r := 10) 71 (by decide +kernel) sh_0 rfl ?_
          refine w_getI (k := 2) 74 (by decide +kernel) sh_10 rfl ?_
          refine w_load (.iload 4) 76 (by decide +kernel) rfl rfl ?_
          refine w_cne 83 79 (by decide +kernel) (fun h5 => ?_) (fun h5 => ?_)
          · skip
            refine w_pushN 0 84 (by decide +kernel) ?_
            exact w_retZ (by decide +kernel) (Or.inl rfl) (hq _ N_22 hS (Or.inl rfl))
          · skip
            refine w_pushN 1 80 (by decide +kernel) ?_
            refine w_goto 84 (by decide +kernel) ?_
            exact w_retZ (by decide +kernel) (Or.inr rfl) (hq _ N_22 hS (Or.inr rfl))
        · skip
          refine w_load (.iload_n 2) 29 (by decide +kernel) rfl rfl ?_
          refine w_load (.iload 5) 31 (by decide +kernel) rfl rfl ?_
          refine w_callS2 115 2 34 (by decide +kernel) (Nat.le_of_ble_eq_true rfl) rfl rfl (by decide) (by omega) ?_
          refine k_115 hS.1  (by omega) (fun r6 hr6 => ?_)
          dsimp only [Option.toList, List.cons_append, List.nil_append]
          refine w_ine 61 37 (by decide +kernel) (fun h7 => ?_) (fun h7 => ?_)
          · skip
            refine w_iincN (z := 5) (g5 + 1) 64 (by decide +kernel) rfl (Nat.le_of_ble_eq_true rfl) rfl rfl ?_
            show Wp _ _ _ [.ref 0, .ref s, .int a, .int (nI ((kr3 / 3))), .int x4_22, .int (nI (g5 + 1))] _ _ _ _
            refine w_goto 22 (by decide +kernel) ?_
            exact ih_22 N_22 _ (g5 + 1) hS (by omega) (by omega)
          · skip
            refine w_load (.aload_n 0) 38 (by decide +kernel) rfl rfl ?_
            refine w_getR (k := 4) (r := 10) 41 (by decide +kernel) sh_0 rfl ?_
            refine w_load (.aload_n 1) 42 (by decide +kernel) rfl rfl ?_
            refine w_load (.iload 5) 44 (by decide +kernel) rfl rfl ?_
            refine w_callV1 44 2 4 47 (by decide +kernel) hc.1.1 (Nat.le_of_ble_eq_true rfl) rfl (by decide) (by omega) ?_
            refine k_44 hS.1 hc (by omega) (fun r8 hr8 => ?_)
            dsimp only [Option.toList, List.cons_append, List.nil_append]
            refine w_load (.iload 5) 49 (by decide +kernel) rfl rfl ?_
            refine w_callV2 69 6 6 52 (by decide +kernel) sh_10 (Nat.le_of_ble_eq_true rfl) rfl rfl (by decide) (by omega) ?_
            refine k_69 hS.1 tl_10 (by omega) (fun Nr9 hTr9 hr9 => ?_)
            have hS := hS.tr hTr9 (by intro i k; first | exact rfl | omega | (dsimp only; omega) | (simp only [Hs, Tl, Sc, isHs, isScr, isTs] at *; omega))
            dsimp only [Option.toList, List.nil_append]
            refine w_load (.iload 4) 54 (by decide +kernel) rfl rfl ?_
            refine w_pushN 1 55 (by decide +kernel) ?_
            refine w_load (.iload 5) 57 (by decide +kernel) rfl rfl ?_
            refine w_pure .ishl 58 (by decide +kernel) rfl rfl ?_
            refine w_pure .ior 59 (by decide +kernel) rfl rfl ?_
            refine w_topi (fun v10 ev10 => ?_)
            refine w_store (ls' := [.ref 0, .ref s, .int a, .int (nI ((kr3 / 3))), .int v10, .int (nI g5)]) (.istore 4) 61 (by decide +kernel) rfl rfl ?_
            refine w_iincN (z := 5) (g5 + 1) 64 (by decide +kernel) rfl (Nat.le_of_ble_eq_true rfl) rfl rfl ?_
            show Wp _ _ _ [.ref 0, .ref s, .int a, .int (nI ((kr3 / 3))), .int v10, .int (nI (g5 + 1))] _ _ _ _
            refine w_goto 22 (by decide +kernel) ?_
            exact ih_22 Nr9 _ (g5 + 1) hS (by omega) (by omega)
    exact LP_22 _ Nr1 _ 0 hS (by omega) (Nat.lt_succ_self _)
-- X7_isProverb
set_option maxRecDepth 10000 in
theorem k_125 {d : Nat} {M : Mt} {L : Lt} {Q : Option Value → Mt → Lt → Prop} {s : Nat}  (hI : Inv M) (hc : Sc s) (hd : 4 ≤ d) (hq : ∀ (r : Int32), (r = 0 ∨ r = 1) → Q (some (.int r)) M L) : Wp d 125 0 [.ref 0, .ref s, .null, .null, .null, .null] [] M L Q := by
  refine w_load (.aload_n 0) 1 (by decide +kernel) rfl rfl ?_
  refine w_getR (k := 2) (r := 4) 4 (by decide +kernel) sh_0 rfl ?_
  refine w_callV0 25 1 3 7 (by decide +kernel) sh_4 (Nat.le_of_ble_eq_true rfl)  (by decide) (by omega) ?_
  refine k_25 hI hs_4 (by omega) (fun r1 hr1 => ?_)
  dsimp only [Option.toList, List.cons_append, List.nil_append]
  refine w_store (ls' := [.ref 0, .ref s, .int r1, .null, .null, .null]) (.istore_n 2) 8 (by decide +kernel) rfl rfl ?_
  refine w_load (.aload_n 1) 9 (by decide +kernel) rfl rfl ?_
  refine w_callV0 43 2 1 12 (by decide +kernel) hc.1.1 (Nat.le_of_ble_eq_true rfl)  (by decide) (by omega) ?_
  obtain ⟨n2, hn2, en2⟩ := inv_s hI hc
  refine k_43 hI hc (by omega) en2 (by omega) (fun r3 hr3 => ?_)
  dsimp only [Option.toList, List.cons_append, List.nil_append]
  rcases hr3 with ⟨kr3, hsr3, rfl⟩
  · skip
    have hlr3 := hsr3.1
    refine w_store (ls' := [.ref 0, .ref s, .int r1, .int (nI ((kr3 / 3))), .null, .null]) (.istore_n 3) 13 (by decide +kernel) rfl rfl ?_
    refine w_pushN 0 14 (by decide +kernel) ?_
    refine w_store (ls' := [.ref 0, .ref s, .int r1, .int (nI ((kr3 / 3))), .int (nI 0), .null]) (.istore 4) 16 (by decide +kernel) rfl rfl ?_
    have LP_16 : ∀ (kk : Nat) (g4 : Nat), g4 ≤ 8 → 8 - g4 < kk → Wp d 125 16 [.ref 0, .ref s, .int r1, .int (nI ((kr3 / 3))), .int (nI g4), .null] [] M L Q := by
      intro kk
      induction kk with
      | zero => intro g4 hi0_16 hm_16; exact absurd hm_16 (Nat.not_lt_zero _)
      | succ kk ih_16 =>
        intro g4 hi0_16 hm_16
        refine w_load (.iload 4) 18 (by decide +kernel) rfl rfl ?_
        refine w_load (.iload_n 3) 19 (by decide +kernel) rfl rfl ?_
        refine w_cgeN 62 22 (by decide +kernel) (by omega) (by omega) (fun h4 => ?_) (fun h4 => ?_)
        · skip
          refine w_pushN 1 63 (by decide +kernel) ?_
          exact w_retZ (by decide +kernel) (Or.inr rfl) (hq _ (Or.inr rfl))
        · skip
          refine w_load (.aload_n 1) 23 (by decide +kernel) rfl rfl ?_
          refine w_load (.iload 4) 25 (by decide +kernel) rfl rfl ?_
          refine w_callV1 44 2 4 28 (by decide +kernel) hc.1.1 (Nat.le_of_ble_eq_true rfl) rfl (by decide) (by omega) ?_
          refine k_44 hI hc (by omega) (fun r5 hr5 => ?_)
          dsimp only [Option.toList, List.cons_append, List.nil_append]
          refine w_store (ls' := [.ref 0, .ref s, .int r1, .int (nI ((kr3 / 3))), .int (nI g4), .int r5]) (.istore 5) 30 (by decide +kernel) rfl rfl ?_
          refine w_load (.iload_n 2) 31 (by decide +kernel) rfl rfl ?_
          refine w_load (.iload 5) 33 (by decide +kernel) rfl rfl ?_
          refine w_callS1 118 1 36 (by decide +kernel) (Nat.le_of_ble_eq_true rfl) rfl (by decide) (by omega) ?_
          refine k_118 hI  (by omega) (fun r6 hr6 => ?_)
          dsimp only [Option.toList, List.cons_append, List.nil_append]
          refine w_callS2 115 2 39 (by decide +kernel) (Nat.le_of_ble_eq_true rfl) rfl rfl (by decide) (by omega) ?_
          refine k_115 hI  (by omega) (fun r7 hr7 => ?_)
          dsimp only [Option.toList, List.cons_append, List.nil_append]
          refine w_ine 54 42 (by decide +kernel) (fun h8 => ?_) (fun h8 => ?_)
          · skip
            refine w_pushN 0 55 (by decide +kernel) ?_
            exact w_retZ (by decide +kernel) (Or.inl rfl) (hq _ (Or.inl rfl))
          · skip
            refine w_load (.iload_n 2) 43 (by decide +kernel) rfl rfl ?_
            refine w_load (.iload 5) 45 (by decide +kernel) rfl rfl ?_
            refine w_callS1 119 1 48 (by decide +kernel) (Nat.le_of_ble_eq_true rfl) rfl (by decide) (by omega) ?_
            refine k_119 hI  (by omega) (fun r9 hr9 => ?_)
            dsimp only [Option.toList, List.cons_append, List.nil_append]
            refine w_callS2 115 2 51 (by decide +kernel) (Nat.le_of_ble_eq_true rfl) rfl rfl (by decide) (by omega) ?_
            refine k_115 hI  (by omega) (fun r10 hr10 => ?_)
            dsimp only [Option.toList, List.cons_append, List.nil_append]
            refine w_ieq 56 54 (by decide +kernel) (fun h11 => ?_) (fun h11 => ?_)
            · skip
              refine w_iincN (z := 4) (g4 + 1) 59 (by decide +kernel) rfl (Nat.le_of_ble_eq_true rfl) rfl rfl ?_
              show Wp _ _ _ [.ref 0, .ref s, .int r1, .int (nI ((kr3 / 3))), .int (nI (g4 + 1)), .int r5] _ _ _ _
              refine w_goto 16 (by decide +kernel) ?_
              refine Wp.forget (ls := [.ref 0, .ref s, .int r1, .int (nI ((kr3 / 3))), .int (nI (g4 + 1)), .null]) ⟨Or.inl rfl, Or.inl rfl, Or.inl rfl, Or.inl rfl, Or.inl rfl, Or.inr ⟨rfl, rfl⟩, trivial⟩ ?_
              exact ih_16 (g4 + 1) (by omega) (by omega)
            · skip
              refine w_pushN 0 55 (by decide +kernel) ?_
              exact w_retZ (by decide +kernel) (Or.inl rfl) (hq _ (Or.inl rfl))
    exact LP_16 _ 0 (by omega) (Nat.lt_succ_self _)
-- X7_cut
set_option maxRecDepth 10000 in
theorem k_92 {d : Nat} {M : Mt} {L : Lt} {Q : Option Value → Mt → Lt → Prop} {a : Int32} (hI : Inv M)  (hd : 6 ≤ d) (hq : ∀ (r : Int32) (N : Mt), St (fun i _ => (7 ≤ i ∧ i ≤ 57) ∨ i = 63 ∨ i = 68 ∨ i = 69) M N → True → Q (some (.int r)) N L) : Wp d 92 0 [.ref 0, .int a, .null, .null, .null, .null] [] M L Q := by
  refine (show ∀ N : Mt, N = M → St (fun i _ => (7 ≤ i ∧ i ≤ 57) ∨ i = 63 ∨ i = 68 ∨ i = 69) M N → Wp d 92 0 [.ref 0, .int a, .null, .null, .null, .null] [] N L Q from ?_) M rfl (St.rf hI)
  intro N hNM hS
  refine w_load (.iload_n 1) 1 (by decide +kernel) rfl rfl ?_
  refine w_callS1 111 1 4 (by decide +kernel) (Nat.le_of_ble_eq_true rfl) rfl (by decide) (by omega) ?_
  refine k_111 hS.1  (by omega) (fun r1 hr1 => ?_)
  dsimp only [Option.toList, List.cons_append, List.nil_append]
  rcases hr1 with ⟨rfl, k2, hk2, rfl⟩ | ⟨rfl, hnok2⟩
  · skip
    refine w_ine 9 7 (by decide +kernel) (fun _ => ?_) (fun hz => absurd hz (by decide))
    refine w_load (.aload_n 0) 10 (by decide +kernel) rfl rfl ?_
    refine w_getR (k := 1) (r := 3) 13 (by decide +kernel) sh_0 rfl ?_
    refine w_load (.iload_n 1) 14 (by decide +kernel) rfl rfl ?_
    refine w_tale 15 (by decide +kernel) (by omega) ?_
    refine w_callV0 43 2 1 18 (by decide +kernel) (sc_tale k2 (by omega)).1.1 (Nat.le_of_ble_eq_true rfl)  (by decide) (by omega) ?_
    obtain ⟨n4, hn4, en4⟩ := inv_s hS.1 (sc_tale k2 (by omega))
    refine k_43 hS.1 (sc_tale k2 (by omega)) (by omega) en4 (by omega) (fun r5 hr5 => ?_)
    dsimp only [Option.toList, List.cons_append, List.nil_append]
    rcases hr5 with ⟨kr5, hsr5, rfl⟩
    · skip
      have hlr5 := hsr5.1
      refine w_store (ls' := [.ref 0, .int (nI k2), .int (nI ((kr5 / 3))), .null, .null, .null]) (.istore_n 2) 19 (by decide +kernel) rfl rfl ?_
      refine w_pushN 1 20 (by decide +kernel) ?_
      refine w_load (.iload_n 2) 21 (by decide +kernel) rfl rfl ?_
      refine w_shl1 22 (by decide +kernel) (by omega) (fun p6 hp6 => ?_)
      refine w_pushN 1 23 (by decide +kernel) ?_
      refine w_subN (p6 - 1) 24 (by decide +kernel) (by omega) rfl ?_
      refine w_store (ls' := [.ref 0, .int (nI k2), .int (nI ((kr5 / 3))), .int (nI ((p6 - 1))), .null, .null]) (.istore_n 3) 25 (by decide +kernel) rfl rfl ?_
      refine w_load (.iload_n 3) 26 (by decide +kernel) rfl rfl ?_
      refine w_store (ls' := [.ref 0, .int (nI k2), .int (nI ((kr5 / 3))), .int (nI ((p6 - 1))), .int (nI ((p6 - 1))), .null]) (.istore 4) 28 (by decide +kernel) rfl rfl ?_
      refine w_pushN 0 29 (by decide +kernel) ?_
      refine w_store (ls' := [.ref 0, .int (nI k2), .int (nI ((kr5 / 3))), .int (nI ((p6 - 1))), .int (nI ((p6 - 1))), .int (nI 0)]) (.istore 5) 31 (by decide +kernel) rfl rfl ?_
      have LP_31 : ∀ (kk : Nat) (N_31 : Mt) (x4_31 : Int32) (g5 : Nat), St (fun i _ => (7 ≤ i ∧ i ≤ 57) ∨ i = 63 ∨ i = 68 ∨ i = 69) M N_31 → g5 ≤ 256 → 256 - g5 < kk → Wp d 92 31 [.ref 0, .int (nI k2), .int (nI ((kr5 / 3))), .int (nI ((p6 - 1))), .int x4_31, .int (nI g5)] [] N_31 L Q := by
        intro kk
        induction kk with
        | zero => intro N_31 x4_31 g5 hS hi0_31 hm_31; exact absurd hm_31 (Nat.not_lt_zero _)
        | succ kk ih_31 =>
          intro N_31 x4_31 g5 hS hi0_31 hm_31
          refine w_load (.iload 5) 33 (by decide +kernel) rfl rfl ?_
          refine w_load (.iload_n 3) 34 (by decide +kernel) rfl rfl ?_
          refine w_cgtN 75 37 (by decide +kernel) (by omega) (by omega) (fun h7 => ?_) (fun h7 => ?_)
          · skip
            refine w_load (.iload 4) 77 (by decide +kernel) rfl rfl ?_
            exact w_ret (by decide +kernel) (hq _ N_31 hS trivial)
          · skip
            refine w_load (.iload 5) 39 (by decide +kernel) rfl rfl ?_
            refine w_callS1 200 1 42 (by decide +kernel) (Nat.le_of_ble_eq_true rfl) rfl (by decide) (by omega) ?_
            refine k_200 hS.1  (by omega) (fun r8 hr8 => ?_)
            dsimp only [Option.toList, List.cons_append, List.nil_append]
            refine w_load (.iload 4) 44 (by decide +kernel) rfl rfl ?_
            refine w_callS1 200 1 47 (by decide +kernel) (Nat.le_of_ble_eq_true rfl) rfl (by decide) (by omega) ?_
            refine k_200 hS.1  (by omega) (fun r9 hr9 => ?_)
            dsimp only [Option.toList, List.cons_append, List.nil_append]
            refine w_cge 69 50 (by decide +kernel) (fun h10 => ?_) (fun h10 => ?_)
            · skip
              refine w_iincN (z := 5) (g5 + 1) 72 (by decide +kernel) rfl (Nat.le_of_ble_eq_true rfl) rfl rfl ?_
              show Wp _ _ _ [.ref 0, .int (nI k2), .int (nI ((kr5 / 3))), .int (nI ((p6 - 1))), .int x4_31, .int (nI (g5 + 1))] _ _ _ _
              refine w_goto 31 (by decide +kernel) ?_
              exact ih_31 N_31 _ (g5 + 1) hS (by omega) (by omega)
            · skip
              refine w_load (.aload_n 0) 51 (by decide +kernel) rfl rfl ?_
              refine w_load (.aload_n 0) 52 (by decide +kernel) rfl rfl ?_
              refine w_getR (k := 1) (r := 3) 55 (by decide +kernel) sh_0 rfl ?_
              refine w_load (.iload_n 1) 56 (by decide +kernel) rfl rfl ?_
              refine w_tale 57 (by decide +kernel) (by omega) ?_
              refine w_load (.iload 5) 59 (by decide +kernel) rfl rfl ?_
              refine w_callV2 124 7 6 62 (by decide +kernel) sh_0 (Nat.le_of_ble_eq_true rfl) rfl rfl (by decide) (by omega) ?_
              refine k_124 hS.1 (sc_tale k2 (by omega)) (by omega) (fun r11 Nr11 hTr11 hr11 => ?_)
              have hS := hS.tr hTr11 (by intro i k; first | exact rfl | omega | (dsimp only; omega) | (simp only [Hs, Tl, Sc, isHs, isScr, isTs] at *; omega))
              dsimp only [Option.toList, List.cons_append, List.nil_append]
              refine w_ieq 69 65 (by decide +kernel) (fun h12 => ?_) (fun h12 => ?_)
              · skip
                refine w_iincN (z := 5) (g5 + 1) 72 (by decide +kernel) rfl (Nat.le_of_ble_eq_true rfl) rfl rfl ?_
                show Wp _ _ _ [.ref 0, .int (nI k2), .int (nI ((kr5 / 3))), .int (nI ((p6 - 1))), .int x4_31, .int (nI (g5 + 1))] _ _ _ _
                refine w_goto 31 (by decide +kernel) ?_
                exact ih_31 Nr11 _ (g5 + 1) hS (by omega) (by omega)
              · skip
                refine w_load (.iload 5) 67 (by decide +kernel) rfl rfl ?_
                refine w_store (ls' := [.ref 0, .int (nI k2), .int (nI ((kr5 / 3))), .int (nI ((p6 - 1))), .int (nI g5), .int (nI g5)]) (.istore 4) 69 (by decide +kernel) rfl rfl ?_
                refine w_iincN (z := 5) (g5 + 1) 72 (by decide +kernel) rfl (Nat.le_of_ble_eq_true rfl) rfl rfl ?_
                show Wp _ _ _ [.ref 0, .int (nI k2), .int (nI ((kr5 / 3))), .int (nI ((p6 - 1))), .int (nI g5), .int (nI (g5 + 1))] _ _ _ _
                refine w_goto 31 (by decide +kernel) ?_
                exact ih_31 Nr11 _ (g5 + 1) hS (by omega) (by omega)
      exact LP_31 _ N _ 0 hS (by omega) (Nat.lt_succ_self _)
  · skip
    refine w_ine 9 7 (by decide +kernel) (fun hz => absurd hz (by decide)) (fun _ => ?_)
    refine w_push (-1) 8 (by decide +kernel) ?_
    exact w_ret (by decide +kernel) (hq _ N hS trivial)
-- X7_round
set_option maxRecDepth 10000 in
theorem k_94 {d : Nat} {M : Mt} {L : Lt} {Q : Option Value → Mt → Lt → Prop} {a : Int32} (hI : Inv M)  (hd : 6 ≤ d) (hq : ∀ (r : Int32) (N : Mt), St (fun i _ => (7 ≤ i ∧ i ≤ 57) ∨ i = 63 ∨ i = 68 ∨ i = 69) M N → True → Q (some (.int r)) N L) : Wp d 94 0 [.ref 0, .int a, .null, .null] [] M L Q := by
  refine (show ∀ N : Mt, N = M → St (fun i _ => (7 ≤ i ∧ i ≤ 57) ∨ i = 63 ∨ i = 68 ∨ i = 69) M N → Wp d 94 0 [.ref 0, .int a, .null, .null] [] N L Q from ?_) M rfl (St.rf hI)
  intro N hNM hS
  refine w_load (.iload_n 1) 1 (by decide +kernel) rfl rfl ?_
  refine w_callS1 111 1 4 (by decide +kernel) (Nat.le_of_ble_eq_true rfl) rfl (by decide) (by omega) ?_
  refine k_111 hS.1  (by omega) (fun r1 hr1 => ?_)
  dsimp only [Option.toList, List.cons_append, List.nil_append]
  rcases hr1 with ⟨rfl, k2, hk2, rfl⟩ | ⟨rfl, hnok2⟩
  · skip
    refine w_ine 9 7 (by decide +kernel) (fun _ => ?_) (fun hz => absurd hz (by decide))
    refine w_load (.aload_n 0) 10 (by decide +kernel) rfl rfl ?_
    refine w_getR (k := 3) (r := 7) 13 (by decide +kernel) sh_0 rfl ?_
    refine w_load (.aload_n 0) 14 (by decide +kernel) rfl rfl ?_
    refine w_getR (k := 2) (r := 4) 17 (by decide +kernel) sh_0 rfl ?_
    refine w_callV1 8 1 2 20 (by decide +kernel) sh_7 (Nat.le_of_ble_eq_true rfl) rfl (by decide) (by omega) ?_
    refine k_8 hS.1 hs_7 hs_4 (by omega) (fun Nr4 hTr4 hr4 => ?_)
    have hS := hS.tr hTr4 (by intro i k; first | exact rfl | omega | (dsimp only; omega) | (simp only [Hs, Tl, Sc, isHs, isScr, isTs] at *; omega))
    dsimp only [Option.toList, List.nil_append]
    refine w_pushN 1 21 (by decide +kernel) ?_
    refine w_store (ls' := [.ref 0, .int (nI k2), .int (nI 1), .null]) (.istore_n 2) 22 (by decide +kernel) rfl rfl ?_
    have LP_22 : ∀ (kk : Nat) (N_22 : Mt) (g2 : Nat), St (fun i _ => (7 ≤ i ∧ i ≤ 57) ∨ i = 63 ∨ i = 68 ∨ i = 69) M N_22 → g2 ≤ 61 → 1 ≤ g2 → 61 - g2 < kk → Wp d 94 22 [.ref 0, .int (nI k2), .int (nI g2), .null] [] N_22 L Q := by
      intro kk
      induction kk with
      | zero => intro N_22 g2 hS hi0_22 hi1_22 hm_22; exact absurd hm_22 (Nat.not_lt_zero _)
      | succ kk ih_22 =>
        intro N_22 g2 hS hi0_22 hi1_22 hm_22
        refine w_load (.iload_n 2) 23 (by decide +kernel) rfl rfl ?_
        refine w_pushN 60 25 (by decide +kernel) ?_
        refine w_cgtN 105 28 (by decide +kernel) (by omega) (by omega) (fun h5 => ?_) (fun h5 => ?_)
        · skip
          refine w_push (-9) 107 (by decide +kernel) ?_
          exact w_ret (by decide +kernel) (hq _ N_22 hS trivial)
        · skip
          refine w_load (.aload_n 0) 29 (by decide +kernel) rfl rfl ?_
          refine w_getR (k := 9) (r := 62) 32 (by decide +kernel) sh_0 rfl ?_
          refine w_load (.iload_n 2) 33 (by decide +kernel) rfl rfl ?_
          refine w_pushN 1 34 (by decide +kernel) ?_
          refine w_subN (g2 - 1) 35 (by decide +kernel) (by omega) rfl ?_
          refine w_load (.aload_n 0) 36 (by decide +kernel) rfl rfl ?_
          refine w_getR (k := 3) (r := 7) 39 (by decide +kernel) sh_0 rfl ?_
          refine w_callV2 55 4 3 42 (by decide +kernel) sh_62 (Nat.le_of_ble_eq_true rfl) rfl rfl (by decide) (by omega) ?_
          refine k_55 hS.1 shf_62 (by decide) (by omega) hs_7 (by omega) (fun Nr6 hTr6 hr6 => ?_)
          have hS := hS.tr hTr6 (by intro i k; first | exact rfl | omega | (dsimp only; omega) | (simp only [Hs, Tl, Sc, isHs, isScr, isTs] at *; omega))
          dsimp only [Option.toList, List.nil_append]
          refine w_load (.aload_n 0) 43 (by decide +kernel) rfl rfl ?_
          refine w_getR (k := 4) (r := 10) 46 (by decide +kernel) sh_0 rfl ?_
          refine w_load (.aload_n 0) 47 (by decide +kernel) rfl rfl ?_
          refine w_getR (k := 3) (r := 7) 50 (by decide +kernel) sh_0 rfl ?_
          refine w_load (.aload_n 0) 51 (by decide +kernel) rfl rfl ?_
          refine w_getR (k := 1) (r := 3) 54 (by decide +kernel) sh_0 rfl ?_
          refine w_load (.iload_n 1) 55 (by decide +kernel) rfl rfl ?_
          refine w_tale 56 (by decide +kernel) (by omega) ?_
          refine w_callV2 68 6 5 59 (by decide +kernel) sh_10 (Nat.le_of_ble_eq_true rfl) rfl rfl (by decide) (by omega) ?_
          refine k_68 hS.1 tl_10 hs_7 (sc_tale k2 (by omega)) (by omega) (fun Nr7 hTr7 hr7 => ?_)
          have hS := hS.tr hTr7 (by intro i k; first | exact rfl | omega | (dsimp only; omega) | (simp only [Hs, Tl, Sc, isHs, isScr, isTs] at *; omega))
          dsimp only [Option.toList, List.nil_append]
          refine w_load (.aload_n 0) 60 (by decide +kernel) rfl rfl ?_
          refine w_getR (k := 3) (r := 7) 63 (by decide +kernel) sh_0 rfl ?_
          refine w_load (.aload_n 0) 64 (by decide +kernel) rfl rfl ?_
          refine w_getR (k := 4) (r := 10) 67 (by decide +kernel) sh_0 rfl ?_
          refine w_getR (k := 0) (r := 11) 70 (by decide +kernel) sh_10 rfl ?_
          refine w_callV1 9 1 2 73 (by decide +kernel) sh_7 (Nat.le_of_ble_eq_true rfl) rfl (by decide) (by omega) ?_
          refine k_9 hS.1 hs_7 hs_11 (by omega) (fun Nr8 hTr8 hr8 => ?_)
          have hS := hS.tr hTr8 (by intro i k; first | exact rfl | omega | (dsimp only; omega) | (simp only [Hs, Tl, Sc, isHs, isScr, isTs] at *; omega))
          dsimp only [Option.toList, List.nil_append]
          refine w_load (.aload_n 0) 74 (by decide +kernel) rfl rfl ?_
          refine w_getR (k := 9) (r := 62) 77 (by decide +kernel) sh_0 rfl ?_
          refine w_load (.aload_n 0) 78 (by decide +kernel) rfl rfl ?_
          refine w_getR (k := 3) (r := 7) 81 (by decide +kernel) sh_0 rfl ?_
          refine w_load (.iload_n 2) 82 (by decide +kernel) rfl rfl ?_
          refine w_callV2 57 4 4 85 (by decide +kernel) sh_62 (Nat.le_of_ble_eq_true rfl) rfl rfl (by decide) (by omega) ?_
          refine k_57 hS.1 shf_62 (by decide) (by omega) hs_7 (by omega) (by omega) (fun r9 hr9 => ?_)
          dsimp only [Option.toList, List.cons_append, List.nil_append]
          refine w_store (ls' := [.ref 0, .int (nI k2), .int (nI g2), .int r9]) (.istore_n 3) 86 (by decide +kernel) rfl rfl ?_
          refine w_load (.iload_n 3) 87 (by decide +kernel) rfl rfl ?_
          refine w_push (-9) 89 (by decide +kernel) ?_
          refine w_ceq 99 92 (by decide +kernel) (fun h10 => ?_) (fun h10 => ?_)
          · skip
            refine w_iincN (z := 2) (g2 + 1) 102 (by decide +kernel) rfl (Nat.le_of_ble_eq_true rfl) rfl rfl ?_
            show Wp _ _ _ [.ref 0, .int (nI k2), .int (nI (g2 + 1)), .int r9] _ _ _ _
            refine w_goto 22 (by decide +kernel) ?_
            refine Wp.forget (ls := [.ref 0, .int (nI k2), .int (nI (g2 + 1)), .null]) ⟨Or.inl rfl, Or.inl rfl, Or.inl rfl, Or.inr ⟨rfl, rfl⟩, trivial⟩ ?_
            exact ih_22 Nr8 (g2 + 1) hS (by omega) (by omega) (by omega)
          · skip
            refine w_pushN 100 94 (by decide +kernel) ?_
            refine w_load (.iload_n 3) 95 (by decide +kernel) rfl rfl ?_
            refine w_pure .imul 96 (by decide +kernel) rfl rfl ?_
            refine w_load (.iload_n 2) 97 (by decide +kernel) rfl rfl ?_
            refine w_pure .iadd 98 (by decide +kernel) rfl rfl ?_
            exact w_ret (by decide +kernel) (hq _ Nr8 hS trivial)
    exact LP_22 _ Nr4 1 hS (by omega) (by omega) (Nat.lt_succ_self _)
  · skip
    refine w_ine 9 7 (by decide +kernel) (fun hz => absurd hz (by decide)) (fun _ => ?_)
    refine w_push (-1) 8 (by decide +kernel) ?_
    exact w_ret (by decide +kernel) (hq _ N hS trivial)
-- X7_kinds
set_option maxRecDepth 10000 in
theorem k_95 {d : Nat} {M : Mt} {L : Lt} {Q : Option Value → Mt → Lt → Prop} {a : Int32} (hI : Inv M)  (hd : 6 ≤ d) (hq : ∀ (r : Int32) (N : Mt), St (fun i _ => (7 ≤ i ∧ i ≤ 57) ∨ i = 63 ∨ i = 68 ∨ i = 69) M N → True → Q (some (.int r)) N L) : Wp d 95 0 [.ref 0, .int a, .null, .null] [] M L Q := by
  refine (show ∀ N : Mt, N = M → St (fun i _ => (7 ≤ i ∧ i ≤ 57) ∨ i = 63 ∨ i = 68 ∨ i = 69) M N → Wp d 95 0 [.ref 0, .int a, .null, .null] [] N L Q from ?_) M rfl (St.rf hI)
  intro N hNM hS
  refine w_load (.iload_n 1) 1 (by decide +kernel) rfl rfl ?_
  refine w_callS1 111 1 4 (by decide +kernel) (Nat.le_of_ble_eq_true rfl) rfl (by decide) (by omega) ?_
  refine k_111 hS.1  (by omega) (fun r1 hr1 => ?_)
  dsimp only [Option.toList, List.cons_append, List.nil_append]
  rcases hr1 with ⟨rfl, k2, hk2, rfl⟩ | ⟨rfl, hnok2⟩
  · skip
    refine w_ine 9 7 (by decide +kernel) (fun _ => ?_) (fun hz => absurd hz (by decide))
    refine w_load (.aload_n 0) 10 (by decide +kernel) rfl rfl ?_
    refine w_getR (k := 1) (r := 3) 13 (by decide +kernel) sh_0 rfl ?_
    refine w_load (.iload_n 1) 14 (by decide +kernel) rfl rfl ?_
    refine w_tale 15 (by decide +kernel) (by omega) ?_
    refine w_store (ls' := [.ref 0, .int (nI k2), .ref (70 + 2 * k2), .null]) (.astore_n 2) 16 (by decide +kernel) rfl rfl ?_
    refine w_load (.aload_n 0) 17 (by decide +kernel) rfl rfl ?_
    refine w_getR (k := 4) (r := 10) 20 (by decide +kernel) sh_0 rfl ?_
    refine w_load (.aload_n 0) 21 (by decide +kernel) rfl rfl ?_
    refine w_getR (k := 2) (r := 4) 24 (by decide +kernel) sh_0 rfl ?_
    refine w_load (.aload_n 2) 25 (by decide +kernel) rfl rfl ?_
    refine w_callV2 68 6 5 28 (by decide +kernel) sh_10 (Nat.le_of_ble_eq_true rfl) rfl rfl (by decide) (by omega) ?_
    refine k_68 hS.1 tl_10 hs_4 (sc_tale k2 (by omega)) (by omega) (fun Nr4 hTr4 hr4 => ?_)
    have hS := hS.tr hTr4 (by intro i k; first | exact rfl | omega | (dsimp only; omega) | (simp only [Hs, Tl, Sc, isHs, isScr, isTs] at *; omega))
    dsimp only [Option.toList, List.nil_append]
    refine w_load (.aload_n 0) 29 (by decide +kernel) rfl rfl ?_
    refine w_load (.aload_n 2) 30 (by decide +kernel) rfl rfl ?_
    refine w_callV1 125 7 6 33 (by decide +kernel) sh_0 (Nat.le_of_ble_eq_true rfl) rfl (by decide) (by omega) ?_
    refine k_125 hS.1 (sc_tale k2 (by omega)) (by omega) (fun r5 hr5 => ?_)
    dsimp only [Option.toList, List.cons_append, List.nil_append]
    refine w_ieq 40 36 (by decide +kernel) (fun h6 => ?_) (fun h6 => ?_)
    · skip
      refine w_pushN 0 41 (by decide +kernel) ?_
      refine w_store (ls' := [.ref 0, .int (nI k2), .ref (70 + 2 * k2), .int (nI 0)]) (.istore_n 3) 42 (by decide +kernel) rfl rfl ?_
      refine w_load (.iload_n 3) 43 (by decide +kernel) rfl rfl ?_
      refine w_load (.aload_n 2) 44 (by decide +kernel) rfl rfl ?_
      refine w_callV0 42 2 2 47 (by decide +kernel) (sc_tale k2 (by omega)).1.1 (Nat.le_of_ble_eq_true rfl)  (by decide) (by omega) ?_
      obtain ⟨n7, hn7, en7⟩ := inv_s hS.1 (sc_tale k2 (by omega))
      refine k_42 hS.1 (sc_tale k2 (by omega)) (by omega) en7 (by omega) (fun r8 hr8 => ?_)
      dsimp only [Option.toList, List.cons_append, List.nil_append]
      refine w_load (.aload_n 2) 48 (by decide +kernel) rfl rfl ?_
      refine w_callV0 36 2 1 51 (by decide +kernel) (sc_tale k2 (by omega)).1.1 (Nat.le_of_ble_eq_true rfl)  (by decide) (by omega) ?_
      refine k_36 hS.1 (sc_tale k2 (by omega)) (by omega) en7 (by omega) (fun r9 hr9 => ?_)
      dsimp only [Option.toList, List.cons_append, List.nil_append]
      rcases hr9 with rfl
      · skip
        refine w_cne 58 54 (by decide +kernel) (fun h10 => ?_) (fun h10 => ?_)
        · skip
          refine w_pushN 0 59 (by decide +kernel) ?_
          refine w_pure .ior 60 (by decide +kernel) rfl rfl ?_
          refine w_topi (fun v11 ev11 => ?_)
          refine w_store (ls' := [.ref 0, .int (nI k2), .ref (70 + 2 * k2), .int v11]) (.istore_n 3) 61 (by decide +kernel) rfl rfl ?_
          refine w_load (.iload_n 3) 62 (by decide +kernel) rfl rfl ?_
          refine w_load (.aload_n 0) 63 (by decide +kernel) rfl rfl ?_
          refine w_getR (k := 4) (r := 10) 66 (by decide +kernel) sh_0 rfl ?_
          refine w_getR (k := 0) (r := 11) 69 (by decide +kernel) sh_10 rfl ?_
          refine w_load (.aload_n 0) 70 (by decide +kernel) rfl rfl ?_
          refine w_getR (k := 2) (r := 4) 73 (by decide +kernel) sh_0 rfl ?_
          refine w_callV1 31 1 2 76 (by decide +kernel) sh_11 (Nat.le_of_ble_eq_true rfl) rfl (by decide) (by omega) ?_
          refine k_31 hS.1 hs_11 hs_4 (by omega) (fun r12 hr12 => ?_)
          dsimp only [Option.toList, List.cons_append, List.nil_append]
          refine w_ieq 83 79 (by decide +kernel) (fun h13 => ?_) (fun h13 => ?_)
          · skip
            refine w_pushN 0 84 (by decide +kernel) ?_
            refine w_pure .ior 85 (by decide +kernel) rfl rfl ?_
            refine w_topi (fun v14 ev14 => ?_)
            refine w_store (ls' := [.ref 0, .int (nI k2), .ref (70 + 2 * k2), .int v14]) (.istore_n 3) 86 (by decide +kernel) rfl rfl ?_
            refine w_load (.iload_n 3) 87 (by decide +kernel) rfl rfl ?_
            refine w_load (.aload_n 0) 88 (by decide +kernel) rfl rfl ?_
            refine w_getR (k := 4) (r := 10) 91 (by decide +kernel) sh_0 rfl ?_
            refine w_getR (k := 0) (r := 11) 94 (by decide +kernel) sh_10 rfl ?_
            refine w_callV0 20 1 1 97 (by decide +kernel) sh_11 (Nat.le_of_ble_eq_true rfl)  (by decide) (by omega) ?_
            refine k_20 hS.1 hs_11 (by omega) (fun r15 hr15 => ?_)
            dsimp only [Option.toList, List.cons_append, List.nil_append]
            refine w_load (.aload_n 0) 98 (by decide +kernel) rfl rfl ?_
            refine w_getR (k := 2) (r := 4) 101 (by decide +kernel) sh_0 rfl ?_
            refine w_callV0 20 1 1 104 (by decide +kernel) sh_4 (Nat.le_of_ble_eq_true rfl)  (by decide) (by omega) ?_
            refine k_20 hS.1 hs_4 (by omega) (fun r16 hr16 => ?_)
            dsimp only [Option.toList, List.cons_append, List.nil_append]
            refine w_ceq 112 107 (by decide +kernel) (fun h17 => ?_) (fun h17 => ?_)
            · skip
              refine w_pushN 0 113 (by decide +kernel) ?_
              refine w_pure .ior 114 (by decide +kernel) rfl rfl ?_
              refine w_topi (fun v18 ev18 => ?_)
              refine w_store (ls' := [.ref 0, .int (nI k2), .ref (70 + 2 * k2), .int v18]) (.istore_n 3) 115 (by decide +kernel) rfl rfl ?_
              refine w_load (.iload_n 3) 116 (by decide +kernel) rfl rfl ?_
              refine w_load (.aload_n 0) 117 (by decide +kernel) rfl rfl ?_
              refine w_getR (k := 4) (r := 10) 120 (by decide +kernel) sh_0 rfl ?_
              refine w_getI (k := 3) 123 (by decide +kernel) sh_10 rfl ?_
              refine w_ile 131 126 (by decide +kernel) (fun h19 => ?_) (fun h19 => ?_)
              · skip
                refine w_pushN 0 132 (by decide +kernel) ?_
                refine w_pure .ior 133 (by decide +kernel) rfl rfl ?_
                refine w_topi (fun v20 ev20 => ?_)
                refine w_store (ls' := [.ref 0, .int (nI k2), .ref (70 + 2 * k2), .int v20]) (.istore_n 3) 134 (by decide +kernel) rfl rfl ?_
                refine w_load (.iload_n 3) 135 (by decide +kernel) rfl rfl ?_
                exact w_ret (by decide +kernel) (hq _ Nr4 hS trivial)
              · skip
                refine w_pushN 16 128 (by decide +kernel) ?_
                refine w_goto 132 (by decide +kernel) ?_
                refine w_pure .ior 133 (by decide +kernel) rfl rfl ?_
                refine w_topi (fun v21 ev21 => ?_)
                refine w_store (ls' := [.ref 0, .int (nI k2), .ref (70 + 2 * k2), .int v21]) (.istore_n 3) 134 (by decide +kernel) rfl rfl ?_
                refine w_load (.iload_n 3) 135 (by decide +kernel) rfl rfl ?_
                exact w_ret (by decide +kernel) (hq _ Nr4 hS trivial)
            · skip
              refine w_pushN 8 109 (by decide +kernel) ?_
              refine w_goto 113 (by decide +kernel) ?_
              refine w_pure .ior 114 (by decide +kernel) rfl rfl ?_
              refine w_topi (fun v22 ev22 => ?_)
              refine w_store (ls' := [.ref 0, .int (nI k2), .ref (70 + 2 * k2), .int v22]) (.istore_n 3) 115 (by decide +kernel) rfl rfl ?_
              refine w_load (.iload_n 3) 116 (by decide +kernel) rfl rfl ?_
              refine w_load (.aload_n 0) 117 (by decide +kernel) rfl rfl ?_
              refine w_getR (k := 4) (r := 10) 120 (by decide +kernel) sh_0 rfl ?_
              refine w_getI (k := 3) 123 (by decide +kernel) sh_10 rfl ?_
              refine w_ile 131 126 (by decide +kernel) (fun h23 => ?_) (fun h23 => ?_)
              · skip
                refine w_pushN 0 132 (by decide +kernel) ?_
                refine w_pure .ior 133 (by decide +kernel) rfl rfl ?_
                refine w_topi (fun v24 ev24 => ?_)
                refine w_store (ls' := [.ref 0, .int (nI k2), .ref (70 + 2 * k2), .int v24]) (.istore_n 3) 134 (by decide +kernel) rfl rfl ?_
                refine w_load (.iload_n 3) 135 (by decide +kernel) rfl rfl ?_
                exact w_ret (by decide +kernel) (hq _ Nr4 hS trivial)
              · skip
                refine w_pushN 16 128 (by decide +kernel) ?_
                refine w_goto 132 (by decide +kernel) ?_
                refine w_pure .ior 133 (by decide +kernel) rfl rfl ?_
                refine w_topi (fun v25 ev25 => ?_)
                refine w_store (ls' := [.ref 0, .int (nI k2), .ref (70 + 2 * k2), .int v25]) (.istore_n 3) 134 (by decide +kernel) rfl rfl ?_
                refine w_load (.iload_n 3) 135 (by decide +kernel) rfl rfl ?_
                exact w_ret (by decide +kernel) (hq _ Nr4 hS trivial)
          · skip
            refine w_pushN 4 80 (by decide +kernel) ?_
            refine w_goto 84 (by decide +kernel) ?_
            refine w_pure .ior 85 (by decide +kernel) rfl rfl ?_
            refine w_topi (fun v26 ev26 => ?_)
            refine w_store (ls' := [.ref 0, .int (nI k2), .ref (70 + 2 * k2), .int v26]) (.istore_n 3) 86 (by decide +kernel) rfl rfl ?_
            refine w_load (.iload_n 3) 87 (by decide +kernel) rfl rfl ?_
            refine w_load (.aload_n 0) 88 (by decide +kernel) rfl rfl ?_
            refine w_getR (k := 4) (r := 10) 91 (by decide +kernel) sh_0 rfl ?_
            refine w_getR (k := 0) (r := 11) 94 (by decide +kernel) sh_10 rfl ?_
            refine w_callV0 20 1 1 97 (by decide +kernel) sh_11 (Nat.le_of_ble_eq_true rfl)  (by decide) (by omega) ?_
            refine k_20 hS.1 hs_11 (by omega) (fun r27 hr27 => ?_)
            dsimp only [Option.toList, List.cons_append, List.nil_append]
            refine w_load (.aload_n 0) 98 (by decide +kernel) rfl rfl ?_
            refine w_getR (k := 2) (r := 4) 101 (by decide +kernel) sh_0 rfl ?_
            refine w_callV0 20 1 1 104 (by decide +kernel) sh_4 (Nat.le_of_ble_eq_true rfl)  (by decide) (by omega) ?_
            refine k_20 hS.1 hs_4 (by omega) (fun r28 hr28 => ?_)
            dsimp only [Option.toList, List.cons_append, List.nil_append]
            refine w_ceq 112 107 (by decide +kernel) (fun h29 => ?_) (fun h29 => ?_)
            · skip
              refine w_pushN 0 113 (by decide +kernel) ?_
              refine w_pure .ior 114 (by decide +kernel) rfl rfl ?_
              refine w_topi (fun v30 ev30 => ?_)
              refine w_store (ls' := [.ref 0, .int (nI k2), .ref (70 + 2 * k2), .int v30]) (.istore_n 3) 115 (by decide +kernel) rfl rfl ?_
              refine w_load (.iload_n 3) 116 (by decide +kernel) rfl rfl ?_
              refine w_load (.aload_n 0) 117 (by decide +kernel) rfl rfl ?_
              refine w_getR (k := 4) (r := 10) 120 (by decide +kernel) sh_0 rfl ?_
              refine w_getI (k := 3) 123 (by decide +kernel) sh_10 rfl ?_
              refine w_ile 131 126 (by decide +kernel) (fun h31 => ?_) (fun h31 => ?_)
              · skip
                refine w_pushN 0 132 (by decide +kernel) ?_
                refine w_pure .ior 133 (by decide +kernel) rfl rfl ?_
                refine w_topi (fun v32 ev32 => ?_)
                refine w_store (ls' := [.ref 0, .int (nI k2), .ref (70 + 2 * k2), .int v32]) (.istore_n 3) 134 (by decide +kernel) rfl rfl ?_
                refine w_load (.iload_n 3) 135 (by decide +kernel) rfl rfl ?_
                exact w_ret (by decide +kernel) (hq _ Nr4 hS trivial)
              · skip
                refine w_pushN 16 128 (by decide +kernel) ?_
                refine w_goto 132 (by decide +kernel) ?_
                refine w_pure .ior 133 (by decide +kernel) rfl rfl ?_
                refine w_topi (fun v33 ev33 => ?_)
                refine w_store (ls' := [.ref 0, .int (nI k2), .ref (70 + 2 * k2), .int v33]) (.istore_n 3) 134 (by decide +kernel) rfl rfl ?_
                refine w_load (.iload_n 3) 135 (by decide +kernel) rfl rfl ?_
                exact w_ret (by decide +kernel) (hq _ Nr4 hS trivial)
            · skip
              refine w_pushN 8 109 (by decide +kernel) ?_
              refine w_goto 113 (by decide +kernel) ?_
              refine w_pure .ior 114 (by decide +kernel) rfl rfl ?_
              refine w_topi (fun v34 ev34 => ?_)
              refine w_store (ls' := [.ref 0, .int (nI k2), .ref (70 + 2 * k2), .int v34]) (.istore_n 3) 115 (by decide +kernel) rfl rfl ?_
              refine w_load (.iload_n 3) 116 (by decide +kernel) rfl rfl ?_
              refine w_load (.aload_n 0) 117 (by decide +kernel) rfl rfl ?_
              refine w_getR (k := 4) (r := 10) 120 (by decide +kernel) sh_0 rfl ?_
              refine w_getI (k := 3) 123 (by decide +kernel) sh_10 rfl ?_
              refine w_ile 131 126 (by decide +kernel) (fun h35 => ?_) (fun h35 => ?_)
              · skip
                refine w_pushN 0 132 (by decide +kernel) ?_
                refine w_pure .ior 133 (by decide +kernel) rfl rfl ?_
                refine w_topi (fun v36 ev36 => ?_)
                refine w_store (ls' := [.ref 0, .int (nI k2), .ref (70 + 2 * k2), .int v36]) (.istore_n 3) 134 (by decide +kernel) rfl rfl ?_
                refine w_load (.iload_n 3) 135 (by decide +kernel) rfl rfl ?_
                exact w_ret (by decide +kernel) (hq _ Nr4 hS trivial)
              · skip
                refine w_pushN 16 128 (by decide +kernel) ?_
                refine w_goto 132 (by decide +kernel) ?_
                refine w_pure .ior 133 (by decide +kernel) rfl rfl ?_
                refine w_topi (fun v37 ev37 => ?_)
                refine w_store (ls' := [.ref 0, .int (nI k2), .ref (70 + 2 * k2), .int v37]) (.istore_n 3) 134 (by decide +kernel) rfl rfl ?_
                refine w_load (.iload_n 3) 135 (by decide +kernel) rfl rfl ?_
                exact w_ret (by decide +kernel) (hq _ Nr4 hS trivial)
        · skip
          refine w_pushN 2 55 (by decide +kernel) ?_
          refine w_goto 59 (by decide +kernel) ?_
          refine w_pure .ior 60 (by decide +kernel) rfl rfl ?_
          refine w_topi (fun v38 ev38 => ?_)
          refine w_store (ls' := [.ref 0, .int (nI k2), .ref (70 + 2 * k2), .int v38]) (.istore_n 3) 61 (by decide +kernel) rfl rfl ?_
          refine w_load (.iload_n 3) 62 (by decide +kernel) rfl rfl ?_
          refine w_load (.aload_n 0) 63 (by decide +kernel) rfl rfl ?_
          refine w_getR (k := 4) (r := 10) 66 (by decide +kernel) sh_0 rfl ?_
          refine w_getR (k := 0) (r := 11) 69 (by decide +kernel) sh_10 rfl ?_
          refine w_load (.aload_n 0) 70 (by decide +kernel) rfl rfl ?_
          refine w_getR (k := 2) (r := 4) 73 (by decide +kernel) sh_0 rfl ?_
          refine w_callV1 31 1 2 76 (by decide +kernel) sh_11 (Nat.le_of_ble_eq_true rfl) rfl (by decide) (by omega) ?_
          refine k_31 hS.1 hs_11 hs_4 (by omega) (fun r39 hr39 => ?_)
          dsimp only [Option.toList, List.cons_append, List.nil_append]
          refine w_ieq 83 79 (by decide +kernel) (fun h40 => ?_) (fun h40 => ?_)
          · skip
            refine w_pushN 0 84 (by decide +kernel) ?_
            refine w_pure .ior 85 (by decide +kernel) rfl rfl ?_
            refine w_topi (fun v41 ev41 => ?_)
            refine w_store (ls' := [.ref 0, .int (nI k2), .ref (70 + 2 * k2), .int v41]) (.istore_n 3) 86 (by decide +kernel) rfl rfl ?_
            refine w_load (.iload_n 3) 87 (by decide +kernel) rfl rfl ?_
            refine w_load (.aload_n 0) 88 (by decide +kernel) rfl rfl ?_
            refine w_getR (k := 4) (r := 10) 91 (by decide +kernel) sh_0 rfl ?_
            refine w_getR (k := 0) (r := 11) 94 (by decide +kernel) sh_10 rfl ?_
            refine w_callV0 20 1 1 97 (by decide +kernel) sh_11 (Nat.le_of_ble_eq_true rfl)  (by decide) (by omega) ?_
            refine k_20 hS.1 hs_11 (by omega) (fun r42 hr42 => ?_)
            dsimp only [Option.toList, List.cons_append, List.nil_append]
            refine w_load (.aload_n 0) 98 (by decide +kernel) rfl rfl ?_
            refine w_getR (k := 2) (r := 4) 101 (by decide +kernel) sh_0 rfl ?_
            refine w_callV0 20 1 1 104 (by decide +kernel) sh_4 (Nat.le_of_ble_eq_true rfl)  (by decide) (by omega) ?_
            refine k_20 hS.1 hs_4 (by omega) (fun r43 hr43 => ?_)
            dsimp only [Option.toList, List.cons_append, List.nil_append]
            refine w_ceq 112 107 (by decide +kernel) (fun h44 => ?_) (fun h44 => ?_)
            · skip
              refine w_pushN 0 113 (by decide +kernel) ?_
              refine w_pure .ior 114 (by decide +kernel) rfl rfl ?_
              refine w_topi (fun v45 ev45 => ?_)
              refine w_store (ls' := [.ref 0, .int (nI k2), .ref (70 + 2 * k2), .int v45]) (.istore_n 3) 115 (by decide +kernel) rfl rfl ?_
              refine w_load (.iload_n 3) 116 (by decide +kernel) rfl rfl ?_
              refine w_load (.aload_n 0) 117 (by decide +kernel) rfl rfl ?_
              refine w_getR (k := 4) (r := 10) 120 (by decide +kernel) sh_0 rfl ?_
              refine w_getI (k := 3) 123 (by decide +kernel) sh_10 rfl ?_
              refine w_ile 131 126 (by decide +kernel) (fun h46 => ?_) (fun h46 => ?_)
              · skip
                refine w_pushN 0 132 (by decide +kernel) ?_
                refine w_pure .ior 133 (by decide +kernel) rfl rfl ?_
                refine w_topi (fun v47 ev47 => ?_)
                refine w_store (ls' := [.ref 0, .int (nI k2), .ref (70 + 2 * k2), .int v47]) (.istore_n 3) 134 (by decide +kernel) rfl rfl ?_
                refine w_load (.iload_n 3) 135 (by decide +kernel) rfl rfl ?_
                exact w_ret (by decide +kernel) (hq _ Nr4 hS trivial)
              · skip
                refine w_pushN 16 128 (by decide +kernel) ?_
                refine w_goto 132 (by decide +kernel) ?_
                refine w_pure .ior 133 (by decide +kernel) rfl rfl ?_
                refine w_topi (fun v48 ev48 => ?_)
                refine w_store (ls' := [.ref 0, .int (nI k2), .ref (70 + 2 * k2), .int v48]) (.istore_n 3) 134 (by decide +kernel) rfl rfl ?_
                refine w_load (.iload_n 3) 135 (by decide +kernel) rfl rfl ?_
                exact w_ret (by decide +kernel) (hq _ Nr4 hS trivial)
            · skip
              refine w_pushN 8 109 (by decide +kernel) ?_
              refine w_goto 113 (by decide +kernel) ?_
              refine w_pure .ior 114 (by decide +kernel) rfl rfl ?_
              refine w_topi (fun v49 ev49 => ?_)
              refine w_store (ls' := [.ref 0, .int (nI k2), .ref (70 + 2 * k2), .int v49]) (.istore_n 3) 115 (by decide +kernel) rfl rfl ?_
              refine w_load (.iload_n 3) 116 (by decide +kernel) rfl rfl ?_
              refine w_load (.aload_n 0) 117 (by decide +kernel) rfl rfl ?_
              refine w_getR (k := 4) (r := 10) 120 (by decide +kernel) sh_0 rfl ?_
              refine w_getI (k := 3) 123 (by decide +kernel) sh_10 rfl ?_
              refine w_ile 131 126 (by decide +kernel) (fun h50 => ?_) (fun h50 => ?_)
              · skip
                refine w_pushN 0 132 (by decide +kernel) ?_
                refine w_pure .ior 133 (by decide +kernel) rfl rfl ?_
                refine w_topi (fun v51 ev51 => ?_)
                refine w_store (ls' := [.ref 0, .int (nI k2), .ref (70 + 2 * k2), .int v51]) (.istore_n 3) 134 (by decide +kernel) rfl rfl ?_
                refine w_load (.iload_n 3) 135 (by decide +kernel) rfl rfl ?_
                exact w_ret (by decide +kernel) (hq _ Nr4 hS trivial)
              · skip
                refine w_pushN 16 128 (by decide +kernel) ?_
                refine w_goto 132 (by decide +kernel) ?_
                refine w_pure .ior 133 (by decide +kernel) rfl rfl ?_
                refine w_topi (fun v52 ev52 => ?_)
                refine w_store (ls' := [.ref 0, .int (nI k2), .ref (70 + 2 * k2), .int v52]) (.istore_n 3) 134 (by decide +kernel) rfl rfl ?_
                refine w_load (.iload_n 3) 135 (by decide +kernel) rfl rfl ?_
                exact w_ret (by decide +kernel) (hq _ Nr4 hS trivial)
          · skip
            refine w_pushN 4 80 (by decide +kernel) ?_
            refine w_goto 84 (by decide +kernel) ?_
            refine w_pure .ior 85 (by decide +kernel) rfl rfl ?_
            refine w_topi (fun v53 ev53 => ?_)
            refine w_store (ls' := [.ref 0, .int (nI k2), .ref (70 + 2 * k2), .int v53]) (.istore_n 3) 86 (by decide +kernel) rfl rfl ?_
            refine w_load (.iload_n 3) 87 (by decide +kernel) rfl rfl ?_
            refine w_load (.aload_n 0) 88 (by decide +kernel) rfl rfl ?_
            refine w_getR (k := 4) (r := 10) 91 (by decide +kernel) sh_0 rfl ?_
            refine w_getR (k := 0) (r := 11) 94 (by decide +kernel) sh_10 rfl ?_
            refine w_callV0 20 1 1 97 (by decide +kernel) sh_11 (Nat.le_of_ble_eq_true rfl)  (by decide) (by omega) ?_
            refine k_20 hS.1 hs_11 (by omega) (fun r54 hr54 => ?_)
            dsimp only [Option.toList, List.cons_append, List.nil_append]
            refine w_load (.aload_n 0) 98 (by decide +kernel) rfl rfl ?_
            refine w_getR (k := 2) (r := 4) 101 (by decide +kernel) sh_0 rfl ?_
            refine w_callV0 20 1 1 104 (by decide +kernel) sh_4 (Nat.le_of_ble_eq_true rfl)  (by decide) (by omega) ?_
            refine k_20 hS.1 hs_4 (by omega) (fun r55 hr55 => ?_)
            dsimp only [Option.toList, List.cons_append, List.nil_append]
            refine w_ceq 112 107 (by decide +kernel) (fun h56 => ?_) (fun h56 => ?_)
            · skip
              refine w_pushN 0 113 (by decide +kernel) ?_
              refine w_pure .ior 114 (by decide +kernel) rfl rfl ?_
              refine w_topi (fun v57 ev57 => ?_)
              refine w_store (ls' := [.ref 0, .int (nI k2), .ref (70 + 2 * k2), .int v57]) (.istore_n 3) 115 (by decide +kernel) rfl rfl ?_
              refine w_load (.iload_n 3) 116 (by decide +kernel) rfl rfl ?_
              refine w_load (.aload_n 0) 117 (by decide +kernel) rfl rfl ?_
              refine w_getR (k := 4) (r := 10) 120 (by decide +kernel) sh_0 rfl ?_
              refine w_getI (k := 3) 123 (by decide +kernel) sh_10 rfl ?_
              refine w_ile 131 126 (by decide +kernel) (fun h58 => ?_) (fun h58 => ?_)
              · skip
                refine w_pushN 0 132 (by decide +kernel) ?_
                refine w_pure .ior 133 (by decide +kernel) rfl rfl ?_
                refine w_topi (fun v59 ev59 => ?_)
                refine w_store (ls' := [.ref 0, .int (nI k2), .ref (70 + 2 * k2), .int v59]) (.istore_n 3) 134 (by decide +kernel) rfl rfl ?_
                refine w_load (.iload_n 3) 135 (by decide +kernel) rfl rfl ?_
                exact w_ret (by decide +kernel) (hq _ Nr4 hS trivial)
              · skip
                refine w_pushN 16 128 (by decide +kernel) ?_
                refine w_goto 132 (by decide +kernel) ?_
                refine w_pure .ior 133 (by decide +kernel) rfl rfl ?_
                refine w_topi (fun v60 ev60 => ?_)
                refine w_store (ls' := [.ref 0, .int (nI k2), .ref (70 + 2 * k2), .int v60]) (.istore_n 3) 134 (by decide +kernel) rfl rfl ?_
                refine w_load (.iload_n 3) 135 (by decide +kernel) rfl rfl ?_
                exact w_ret (by decide +kernel) (hq _ Nr4 hS trivial)
            · skip
              refine w_pushN 8 109 (by decide +kernel) ?_
              refine w_goto 113 (by decide +kernel) ?_
              refine w_pure .ior 114 (by decide +kernel) rfl rfl ?_
              refine w_topi (fun v61 ev61 => ?_)
              refine w_store (ls' := [.ref 0, .int (nI k2), .ref (70 + 2 * k2), .int v61]) (.istore_n 3) 115 (by decide +kernel) rfl rfl ?_
              refine w_load (.iload_n 3) 116 (by decide +kernel) rfl rfl ?_
              refine w_load (.aload_n 0) 117 (by decide +kernel) rfl rfl ?_
              refine w_getR (k := 4) (r := 10) 120 (by decide +kernel) sh_0 rfl ?_
              refine w_getI (k := 3) 123 (by decide +kernel) sh_10 rfl ?_
              refine w_ile 131 126 (by decide +kernel) (fun h62 => ?_) (fun h62 => ?_)
              · skip
                refine w_pushN 0 132 (by decide +kernel) ?_
                refine w_pure .ior 133 (by decide +kernel) rfl rfl ?_
                refine w_topi (fun v63 ev63 => ?_)
                refine w_store (ls' := [.ref 0, .int (nI k2), .ref (70 + 2 * k2), .int v63]) (.istore_n 3) 134 (by decide +kernel) rfl rfl ?_
                refine w_load (.iload_n 3) 135 (by decide +kernel) rfl rfl ?_
                exact w_ret (by decide +kernel) (hq _ Nr4 hS trivial)
              · skip
                refine w_pushN 16 128 (by decide +kernel) ?_
                refine w_goto 132 (by decide +kernel) ?_
                refine w_pure .ior 133 (by decide +kernel) rfl rfl ?_
                refine w_topi (fun v64 ev64 => ?_)
                refine w_store (ls' := [.ref 0, .int (nI k2), .ref (70 + 2 * k2), .int v64]) (.istore_n 3) 134 (by decide +kernel) rfl rfl ?_
                refine w_load (.iload_n 3) 135 (by decide +kernel) rfl rfl ?_
                exact w_ret (by decide +kernel) (hq _ Nr4 hS trivial)
    · skip
      refine w_pushN 1 37 (by decide +kernel) ?_
      refine w_goto 41 (by decide +kernel) ?_
      refine w_store (ls' := [.ref 0, .int (nI k2), .ref (70 + 2 * k2), .int (nI 1)]) (.istore_n 3) 42 (by decide +kernel) rfl rfl ?_
      refine w_load (.iload_n 3) 43 (by decide +kernel) rfl rfl ?_
      refine w_load (.aload_n 2) 44 (by decide +kernel) rfl rfl ?_
      refine w_callV0 42 2 2 47 (by decide +kernel) (sc_tale k2 (by omega)).1.1 (Nat.le_of_ble_eq_true rfl)  (by decide) (by omega) ?_
      obtain ⟨n65, hn65, en65⟩ := inv_s hS.1 (sc_tale k2 (by omega))
      refine k_42 hS.1 (sc_tale k2 (by omega)) (by omega) en65 (by omega) (fun r66 hr66 => ?_)
      dsimp only [Option.toList, List.cons_append, List.nil_append]
      refine w_load (.aload_n 2) 48 (by decide +kernel) rfl rfl ?_
      refine w_callV0 36 2 1 51 (by decide +kernel) (sc_tale k2 (by omega)).1.1 (Nat.le_of_ble_eq_true rfl)  (by decide) (by omega) ?_
      refine k_36 hS.1 (sc_tale k2 (by omega)) (by omega) en65 (by omega) (fun r67 hr67 => ?_)
      dsimp only [Option.toList, List.cons_append, List.nil_append]
      rcases hr67 with rfl
      · skip
        refine w_cne 58 54 (by decide +kernel) (fun h68 => ?_) (fun h68 => ?_)
        · skip
          refine w_pushN 0 59 (by decide +kernel) ?_
          refine w_pure .ior 60 (by decide +kernel) rfl rfl ?_
          refine w_topi (fun v69 ev69 => ?_)
          refine w_store (ls' := [.ref 0, .int (nI k2), .ref (70 + 2 * k2), .int v69]) (.istore_n 3) 61 (by decide +kernel) rfl rfl ?_
          refine w_load (.iload_n 3) 62 (by decide +kernel) rfl rfl ?_
          refine w_load (.aload_n 0) 63 (by decide +kernel) rfl rfl ?_
          refine w_getR (k := 4) (r := 10) 66 (by decide +kernel) sh_0 rfl ?_
          refine w_getR (k := 0) (r := 11) 69 (by decide +kernel) sh_10 rfl ?_
          refine w_load (.aload_n 0) 70 (by decide +kernel) rfl rfl ?_
          refine w_getR (k := 2) (r := 4) 73 (by decide +kernel) sh_0 rfl ?_
          refine w_callV1 31 1 2 76 (by decide +kernel) sh_11 (Nat.le_of_ble_eq_true rfl) rfl (by decide) (by omega) ?_
          refine k_31 hS.1 hs_11 hs_4 (by omega) (fun r70 hr70 => ?_)
          dsimp only [Option.toList, List.cons_append, List.nil_append]
          refine w_ieq 83 79 (by decide +kernel) (fun h71 => ?_) (fun h71 => ?_)
          · skip
            refine w_pushN 0 84 (by decide +kernel) ?_
            refine w_pure .ior 85 (by decide +kernel) rfl rfl ?_
            refine w_topi (fun v72 ev72 => ?_)
            refine w_store (ls' := [.ref 0, .int (nI k2), .ref (70 + 2 * k2), .int v72]) (.istore_n 3) 86 (by decide +kernel) rfl rfl ?_
            refine w_load (.iload_n 3) 87 (by decide +kernel) rfl rfl ?_
            refine w_load (.aload_n 0) 88 (by decide +kernel) rfl rfl ?_
            refine w_getR (k := 4) (r := 10) 91 (by decide +kernel) sh_0 rfl ?_
            refine w_getR (k := 0) (r := 11) 94 (by decide +kernel) sh_10 rfl ?_
            refine w_callV0 20 1 1 97 (by decide +kernel) sh_11 (Nat.le_of_ble_eq_true rfl)  (by decide) (by omega) ?_
            refine k_20 hS.1 hs_11 (by omega) (fun r73 hr73 => ?_)
            dsimp only [Option.toList, List.cons_append, List.nil_append]
            refine w_load (.aload_n 0) 98 (by decide +kernel) rfl rfl ?_
            refine w_getR (k := 2) (r := 4) 101 (by decide +kernel) sh_0 rfl ?_
            refine w_callV0 20 1 1 104 (by decide +kernel) sh_4 (Nat.le_of_ble_eq_true rfl)  (by decide) (by omega) ?_
            refine k_20 hS.1 hs_4 (by omega) (fun r74 hr74 => ?_)
            dsimp only [Option.toList, List.cons_append, List.nil_append]
            refine w_ceq 112 107 (by decide +kernel) (fun h75 => ?_) (fun h75 => ?_)
            · skip
              refine w_pushN 0 113 (by decide +kernel) ?_
              refine w_pure .ior 114 (by decide +kernel) rfl rfl ?_
              refine w_topi (fun v76 ev76 => ?_)
              refine w_store (ls' := [.ref 0, .int (nI k2), .ref (70 + 2 * k2), .int v76]) (.istore_n 3) 115 (by decide +kernel) rfl rfl ?_
              refine w_load (.iload_n 3) 116 (by decide +kernel) rfl rfl ?_
              refine w_load (.aload_n 0) 117 (by decide +kernel) rfl rfl ?_
              refine w_getR (k := 4) (r := 10) 120 (by decide +kernel) sh_0 rfl ?_
              refine w_getI (k := 3) 123 (by decide +kernel) sh_10 rfl ?_
              refine w_ile 131 126 (by decide +kernel) (fun h77 => ?_) (fun h77 => ?_)
              · skip
                refine w_pushN 0 132 (by decide +kernel) ?_
                refine w_pure .ior 133 (by decide +kernel) rfl rfl ?_
                refine w_topi (fun v78 ev78 => ?_)
                refine w_store (ls' := [.ref 0, .int (nI k2), .ref (70 + 2 * k2), .int v78]) (.istore_n 3) 134 (by decide +kernel) rfl rfl ?_
                refine w_load (.iload_n 3) 135 (by decide +kernel) rfl rfl ?_
                exact w_ret (by decide +kernel) (hq _ Nr4 hS trivial)
              · skip
                refine w_pushN 16 128 (by decide +kernel) ?_
                refine w_goto 132 (by decide +kernel) ?_
                refine w_pure .ior 133 (by decide +kernel) rfl rfl ?_
                refine w_topi (fun v79 ev79 => ?_)
                refine w_store (ls' := [.ref 0, .int (nI k2), .ref (70 + 2 * k2), .int v79]) (.istore_n 3) 134 (by decide +kernel) rfl rfl ?_
                refine w_load (.iload_n 3) 135 (by decide +kernel) rfl rfl ?_
                exact w_ret (by decide +kernel) (hq _ Nr4 hS trivial)
            · skip
              refine w_pushN 8 109 (by decide +kernel) ?_
              refine w_goto 113 (by decide +kernel) ?_
              refine w_pure .ior 114 (by decide +kernel) rfl rfl ?_
              refine w_topi (fun v80 ev80 => ?_)
              refine w_store (ls' := [.ref 0, .int (nI k2), .ref (70 + 2 * k2), .int v80]) (.istore_n 3) 115 (by decide +kernel) rfl rfl ?_
              refine w_load (.iload_n 3) 116 (by decide +kernel) rfl rfl ?_
              refine w_load (.aload_n 0) 117 (by decide +kernel) rfl rfl ?_
              refine w_getR (k := 4) (r := 10) 120 (by decide +kernel) sh_0 rfl ?_
              refine w_getI (k := 3) 123 (by decide +kernel) sh_10 rfl ?_
              refine w_ile 131 126 (by decide +kernel) (fun h81 => ?_) (fun h81 => ?_)
              · skip
                refine w_pushN 0 132 (by decide +kernel) ?_
                refine w_pure .ior 133 (by decide +kernel) rfl rfl ?_
                refine w_topi (fun v82 ev82 => ?_)
                refine w_store (ls' := [.ref 0, .int (nI k2), .ref (70 + 2 * k2), .int v82]) (.istore_n 3) 134 (by decide +kernel) rfl rfl ?_
                refine w_load (.iload_n 3) 135 (by decide +kernel) rfl rfl ?_
                exact w_ret (by decide +kernel) (hq _ Nr4 hS trivial)
              · skip
                refine w_pushN 16 128 (by decide +kernel) ?_
                refine w_goto 132 (by decide +kernel) ?_
                refine w_pure .ior 133 (by decide +kernel) rfl rfl ?_
                refine w_topi (fun v83 ev83 => ?_)
                refine w_store (ls' := [.ref 0, .int (nI k2), .ref (70 + 2 * k2), .int v83]) (.istore_n 3) 134 (by decide +kernel) rfl rfl ?_
                refine w_load (.iload_n 3) 135 (by decide +kernel) rfl rfl ?_
                exact w_ret (by decide +kernel) (hq _ Nr4 hS trivial)
          · skip
            refine w_pushN 4 80 (by decide +kernel) ?_
            refine w_goto 84 (by decide +kernel) ?_
            refine w_pure .ior 85 (by decide +kernel) rfl rfl ?_
            refine w_topi (fun v84 ev84 => ?_)
            refine w_store (ls' := [.ref 0, .int (nI k2), .ref (70 + 2 * k2), .int v84]) (.istore_n 3) 86 (by decide +kernel) rfl rfl ?_
            refine w_load (.iload_n 3) 87 (by decide +kernel) rfl rfl ?_
            refine w_load (.aload_n 0) 88 (by decide +kernel) rfl rfl ?_
            refine w_getR (k := 4) (r := 10) 91 (by decide +kernel) sh_0 rfl ?_
            refine w_getR (k := 0) (r := 11) 94 (by decide +kernel) sh_10 rfl ?_
            refine w_callV0 20 1 1 97 (by decide +kernel) sh_11 (Nat.le_of_ble_eq_true rfl)  (by decide) (by omega) ?_
            refine k_20 hS.1 hs_11 (by omega) (fun r85 hr85 => ?_)
            dsimp only [Option.toList, List.cons_append, List.nil_append]
            refine w_load (.aload_n 0) 98 (by decide +kernel) rfl rfl ?_
            refine w_getR (k := 2) (r := 4) 101 (by decide +kernel) sh_0 rfl ?_
            refine w_callV0 20 1 1 104 (by decide +kernel) sh_4 (Nat.le_of_ble_eq_true rfl)  (by decide) (by omega) ?_
            refine k_20 hS.1 hs_4 (by omega) (fun r86 hr86 => ?_)
            dsimp only [Option.toList, List.cons_append, List.nil_append]
            refine w_ceq 112 107 (by decide +kernel) (fun h87 => ?_) (fun h87 => ?_)
            · skip
              refine w_pushN 0 113 (by decide +kernel) ?_
              refine w_pure .ior 114 (by decide +kernel) rfl rfl ?_
              refine w_topi (fun v88 ev88 => ?_)
              refine w_store (ls' := [.ref 0, .int (nI k2), .ref (70 + 2 * k2), .int v88]) (.istore_n 3) 115 (by decide +kernel) rfl rfl ?_
              refine w_load (.iload_n 3) 116 (by decide +kernel) rfl rfl ?_
              refine w_load (.aload_n 0) 117 (by decide +kernel) rfl rfl ?_
              refine w_getR (k := 4) (r := 10) 120 (by decide +kernel) sh_0 rfl ?_
              refine w_getI (k := 3) 123 (by decide +kernel) sh_10 rfl ?_
              refine w_ile 131 126 (by decide +kernel) (fun h89 => ?_) (fun h89 => ?_)
              · skip
                refine w_pushN 0 132 (by decide +kernel) ?_
                refine w_pure .ior 133 (by decide +kernel) rfl rfl ?_
                refine w_topi (fun v90 ev90 => ?_)
                refine w_store (ls' := [.ref 0, .int (nI k2), .ref (70 + 2 * k2), .int v90]) (.istore_n 3) 134 (by decide +kernel) rfl rfl ?_
                refine w_load (.iload_n 3) 135 (by decide +kernel) rfl rfl ?_
                exact w_ret (by decide +kernel) (hq _ Nr4 hS trivial)
              · skip
                refine w_pushN 16 128 (by decide +kernel) ?_
                refine w_goto 132 (by decide +kernel) ?_
                refine w_pure .ior 133 (by decide +kernel) rfl rfl ?_
                refine w_topi (fun v91 ev91 => ?_)
                refine w_store (ls' := [.ref 0, .int (nI k2), .ref (70 + 2 * k2), .int v91]) (.istore_n 3) 134 (by decide +kernel) rfl rfl ?_
                refine w_load (.iload_n 3) 135 (by decide +kernel) rfl rfl ?_
                exact w_ret (by decide +kernel) (hq _ Nr4 hS trivial)
            · skip
              refine w_pushN 8 109 (by decide +kernel) ?_
              refine w_goto 113 (by decide +kernel) ?_
              refine w_pure .ior 114 (by decide +kernel) rfl rfl ?_
              refine w_topi (fun v92 ev92 => ?_)
              refine w_store (ls' := [.ref 0, .int (nI k2), .ref (70 + 2 * k2), .int v92]) (.istore_n 3) 115 (by decide +kernel) rfl rfl ?_
              refine w_load (.iload_n 3) 116 (by decide +kernel) rfl rfl ?_
              refine w_load (.aload_n 0) 117 (by decide +kernel) rfl rfl ?_
              refine w_getR (k := 4) (r := 10) 120 (by decide +kernel) sh_0 rfl ?_
              refine w_getI (k := 3) 123 (by decide +kernel) sh_10 rfl ?_
              refine w_ile 131 126 (by decide +kernel) (fun h93 => ?_) (fun h93 => ?_)
              · skip
                refine w_pushN 0 132 (by decide +kernel) ?_
                refine w_pure .ior 133 (by decide +kernel) rfl rfl ?_
                refine w_topi (fun v94 ev94 => ?_)
                refine w_store (ls' := [.ref 0, .int (nI k2), .ref (70 + 2 * k2), .int v94]) (.istore_n 3) 134 (by decide +kernel) rfl rfl ?_
                refine w_load (.iload_n 3) 135 (by decide +kernel) rfl rfl ?_
                exact w_ret (by decide +kernel) (hq _ Nr4 hS trivial)
              · skip
                refine w_pushN 16 128 (by decide +kernel) ?_
                refine w_goto 132 (by decide +kernel) ?_
                refine w_pure .ior 133 (by decide +kernel) rfl rfl ?_
                refine w_topi (fun v95 ev95 => ?_)
                refine w_store (ls' := [.ref 0, .int (nI k2), .ref (70 + 2 * k2), .int v95]) (.istore_n 3) 134 (by decide +kernel) rfl rfl ?_
                refine w_load (.iload_n 3) 135 (by decide +kernel) rfl rfl ?_
                exact w_ret (by decide +kernel) (hq _ Nr4 hS trivial)
        · skip
          refine w_pushN 2 55 (by decide +kernel) ?_
          refine w_goto 59 (by decide +kernel) ?_
          refine w_pure .ior 60 (by decide +kernel) rfl rfl ?_
          refine w_topi (fun v96 ev96 => ?_)
          refine w_store (ls' := [.ref 0, .int (nI k2), .ref (70 + 2 * k2), .int v96]) (.istore_n 3) 61 (by decide +kernel) rfl rfl ?_
          refine w_load (.iload_n 3) 62 (by decide +kernel) rfl rfl ?_
          refine w_load (.aload_n 0) 63 (by decide +kernel) rfl rfl ?_
          refine w_getR (k := 4) (r := 10) 66 (by decide +kernel) sh_0 rfl ?_
          refine w_getR (k := 0) (r := 11) 69 (by decide +kernel) sh_10 rfl ?_
          refine w_load (.aload_n 0) 70 (by decide +kernel) rfl rfl ?_
          refine w_getR (k := 2) (r := 4) 73 (by decide +kernel) sh_0 rfl ?_
          refine w_callV1 31 1 2 76 (by decide +kernel) sh_11 (Nat.le_of_ble_eq_true rfl) rfl (by decide) (by omega) ?_
          refine k_31 hS.1 hs_11 hs_4 (by omega) (fun r97 hr97 => ?_)
          dsimp only [Option.toList, List.cons_append, List.nil_append]
          refine w_ieq 83 79 (by decide +kernel) (fun h98 => ?_) (fun h98 => ?_)
          · skip
            refine w_pushN 0 84 (by decide +kernel) ?_
            refine w_pure .ior 85 (by decide +kernel) rfl rfl ?_
            refine w_topi (fun v99 ev99 => ?_)
            refine w_store (ls' := [.ref 0, .int (nI k2), .ref (70 + 2 * k2), .int v99]) (.istore_n 3) 86 (by decide +kernel) rfl rfl ?_
            refine w_load (.iload_n 3) 87 (by decide +kernel) rfl rfl ?_
            refine w_load (.aload_n 0) 88 (by decide +kernel) rfl rfl ?_
            refine w_getR (k := 4) (r := 10) 91 (by decide +kernel) sh_0 rfl ?_
            refine w_getR (k := 0) (r := 11) 94 (by decide +kernel) sh_10 rfl ?_
            refine w_callV0 20 1 1 97 (by decide +kernel) sh_11 (Nat.le_of_ble_eq_true rfl)  (by decide) (by omega) ?_
            refine k_20 hS.1 hs_11 (by omega) (fun r100 hr100 => ?_)
            dsimp only [Option.toList, List.cons_append, List.nil_append]
            refine w_load (.aload_n 0) 98 (by decide +kernel) rfl rfl ?_
            refine w_getR (k := 2) (r := 4) 101 (by decide +kernel) sh_0 rfl ?_
            refine w_callV0 20 1 1 104 (by decide +kernel) sh_4 (Nat.le_of_ble_eq_true rfl)  (by decide) (by omega) ?_
            refine k_20 hS.1 hs_4 (by omega) (fun r101 hr101 => ?_)
            dsimp only [Option.toList, List.cons_append, List.nil_append]
            refine w_ceq 112 107 (by decide +kernel) (fun h102 => ?_) (fun h102 => ?_)
            · skip
              refine w_pushN 0 113 (by decide +kernel) ?_
              refine w_pure .ior 114 (by decide +kernel) rfl rfl ?_
              refine w_topi (fun v103 ev103 => ?_)
              refine w_store (ls' := [.ref 0, .int (nI k2), .ref (70 + 2 * k2), .int v103]) (.istore_n 3) 115 (by decide +kernel) rfl rfl ?_
              refine w_load (.iload_n 3) 116 (by decide +kernel) rfl rfl ?_
              refine w_load (.aload_n 0) 117 (by decide +kernel) rfl rfl ?_
              refine w_getR (k := 4) (r := 10) 120 (by decide +kernel) sh_0 rfl ?_
              refine w_getI (k := 3) 123 (by decide +kernel) sh_10 rfl ?_
              refine w_ile 131 126 (by decide +kernel) (fun h104 => ?_) (fun h104 => ?_)
              · skip
                refine w_pushN 0 132 (by decide +kernel) ?_
                refine w_pure .ior 133 (by decide +kernel) rfl rfl ?_
                refine w_topi (fun v105 ev105 => ?_)
                refine w_store (ls' := [.ref 0, .int (nI k2), .ref (70 + 2 * k2), .int v105]) (.istore_n 3) 134 (by decide +kernel) rfl rfl ?_
                refine w_load (.iload_n 3) 135 (by decide +kernel) rfl rfl ?_
                exact w_ret (by decide +kernel) (hq _ Nr4 hS trivial)
              · skip
                refine w_pushN 16 128 (by decide +kernel) ?_
                refine w_goto 132 (by decide +kernel) ?_
                refine w_pure .ior 133 (by decide +kernel) rfl rfl ?_
                refine w_topi (fun v106 ev106 => ?_)
                refine w_store (ls' := [.ref 0, .int (nI k2), .ref (70 + 2 * k2), .int v106]) (.istore_n 3) 134 (by decide +kernel) rfl rfl ?_
                refine w_load (.iload_n 3) 135 (by decide +kernel) rfl rfl ?_
                exact w_ret (by decide +kernel) (hq _ Nr4 hS trivial)
            · skip
              refine w_pushN 8 109 (by decide +kernel) ?_
              refine w_goto 113 (by decide +kernel) ?_
              refine w_pure .ior 114 (by decide +kernel) rfl rfl ?_
              refine w_topi (fun v107 ev107 => ?_)
              refine w_store (ls' := [.ref 0, .int (nI k2), .ref (70 + 2 * k2), .int v107]) (.istore_n 3) 115 (by decide +kernel) rfl rfl ?_
              refine w_load (.iload_n 3) 116 (by decide +kernel) rfl rfl ?_
              refine w_load (.aload_n 0) 117 (by decide +kernel) rfl rfl ?_
              refine w_getR (k := 4) (r := 10) 120 (by decide +kernel) sh_0 rfl ?_
              refine w_getI (k := 3) 123 (by decide +kernel) sh_10 rfl ?_
              refine w_ile 131 126 (by decide +kernel) (fun h108 => ?_) (fun h108 => ?_)
              · skip
                refine w_pushN 0 132 (by decide +kernel) ?_
                refine w_pure .ior 133 (by decide +kernel) rfl rfl ?_
                refine w_topi (fun v109 ev109 => ?_)
                refine w_store (ls' := [.ref 0, .int (nI k2), .ref (70 + 2 * k2), .int v109]) (.istore_n 3) 134 (by decide +kernel) rfl rfl ?_
                refine w_load (.iload_n 3) 135 (by decide +kernel) rfl rfl ?_
                exact w_ret (by decide +kernel) (hq _ Nr4 hS trivial)
              · skip
                refine w_pushN 16 128 (by decide +kernel) ?_
                refine w_goto 132 (by decide +kernel) ?_
                refine w_pure .ior 133 (by decide +kernel) rfl rfl ?_
                refine w_topi (fun v110 ev110 => ?_)
                refine w_store (ls' := [.ref 0, .int (nI k2), .ref (70 + 2 * k2), .int v110]) (.istore_n 3) 134 (by decide +kernel) rfl rfl ?_
                refine w_load (.iload_n 3) 135 (by decide +kernel) rfl rfl ?_
                exact w_ret (by decide +kernel) (hq _ Nr4 hS trivial)
          · skip
            refine w_pushN 4 80 (by decide +kernel) ?_
            refine w_goto 84 (by decide +kernel) ?_
            refine w_pure .ior 85 (by decide +kernel) rfl rfl ?_
            refine w_topi (fun v111 ev111 => ?_)
            refine w_store (ls' := [.ref 0, .int (nI k2), .ref (70 + 2 * k2), .int v111]) (.istore_n 3) 86 (by decide +kernel) rfl rfl ?_
            refine w_load (.iload_n 3) 87 (by decide +kernel) rfl rfl ?_
            refine w_load (.aload_n 0) 88 (by decide +kernel) rfl rfl ?_
            refine w_getR (k := 4) (r := 10) 91 (by decide +kernel) sh_0 rfl ?_
            refine w_getR (k := 0) (r := 11) 94 (by decide +kernel) sh_10 rfl ?_
            refine w_callV0 20 1 1 97 (by decide +kernel) sh_11 (Nat.le_of_ble_eq_true rfl)  (by decide) (by omega) ?_
            refine k_20 hS.1 hs_11 (by omega) (fun r112 hr112 => ?_)
            dsimp only [Option.toList, List.cons_append, List.nil_append]
            refine w_load (.aload_n 0) 98 (by decide +kernel) rfl rfl ?_
            refine w_getR (k := 2) (r := 4) 101 (by decide +kernel) sh_0 rfl ?_
            refine w_callV0 20 1 1 104 (by decide +kernel) sh_4 (Nat.le_of_ble_eq_true rfl)  (by decide) (by omega) ?_
            refine k_20 hS.1 hs_4 (by omega) (fun r113 hr113 => ?_)
            dsimp only [Option.toList, List.cons_append, List.nil_append]
            refine w_ceq 112 107 (by decide +kernel) (fun h114 => ?_) (fun h114 => ?_)
            · skip
              refine w_pushN 0 113 (by decide +kernel) ?_
              refine w_pure .ior 114 (by decide +kernel) rfl rfl ?_
              refine w_topi (fun v115 ev115 => ?_)
              refine w_store (ls' := [.ref 0, .int (nI k2), .ref (70 + 2 * k2), .int v115]) (.istore_n 3) 115 (by decide +kernel) rfl rfl ?_
              refine w_load (.iload_n 3) 116 (by decide +kernel) rfl rfl ?_
              refine w_load (.aload_n 0) 117 (by decide +kernel) rfl rfl ?_
              refine w_getR (k := 4) (r := 10) 120 (by decide +kernel) sh_0 rfl ?_
              refine w_getI (k := 3) 123 (by decide +kernel) sh_10 rfl ?_
              refine w_ile 131 126 (by decide +kernel) (fun h116 => ?_) (fun h116 => ?_)
              · skip
                refine w_pushN 0 132 (by decide +kernel) ?_
                refine w_pure .ior 133 (by decide +kernel) rfl rfl ?_
                refine w_topi (fun v117 ev117 => ?_)
                refine w_store (ls' := [.ref 0, .int (nI k2), .ref (70 + 2 * k2), .int v117]) (.istore_n 3) 134 (by decide +kernel) rfl rfl ?_
                refine w_load (.iload_n 3) 135 (by decide +kernel) rfl rfl ?_
                exact w_ret (by decide +kernel) (hq _ Nr4 hS trivial)
              · skip
                refine w_pushN 16 128 (by decide +kernel) ?_
                refine w_goto 132 (by decide +kernel) ?_
                refine w_pure .ior 133 (by decide +kernel) rfl rfl ?_
                refine w_topi (fun v118 ev118 => ?_)
                refine w_store (ls' := [.ref 0, .int (nI k2), .ref (70 + 2 * k2), .int v118]) (.istore_n 3) 134 (by decide +kernel) rfl rfl ?_
                refine w_load (.iload_n 3) 135 (by decide +kernel) rfl rfl ?_
                exact w_ret (by decide +kernel) (hq _ Nr4 hS trivial)
            · skip
              refine w_pushN 8 109 (by decide +kernel) ?_
              refine w_goto 113 (by decide +kernel) ?_
              refine w_pure .ior 114 (by decide +kernel) rfl rfl ?_
              refine w_topi (fun v119 ev119 => ?_)
              refine w_store (ls' := [.ref 0, .int (nI k2), .ref (70 + 2 * k2), .int v119]) (.istore_n 3) 115 (by decide +kernel) rfl rfl ?_
              refine w_load (.iload_n 3) 116 (by decide +kernel) rfl rfl ?_
              refine w_load (.aload_n 0) 117 (by decide +kernel) rfl rfl ?_
              refine w_getR (k := 4) (r := 10) 120 (by decide +kernel) sh_0 rfl ?_
              refine w_getI (k := 3) 123 (by decide +kernel) sh_10 rfl ?_
              refine w_ile 131 126 (by decide +kernel) (fun h120 => ?_) (fun h120 => ?_)
              · skip
                refine w_pushN 0 132 (by decide +kernel) ?_
                refine w_pure .ior 133 (by decide +kernel) rfl rfl ?_
                refine w_topi (fun v121 ev121 => ?_)
                refine w_store (ls' := [.ref 0, .int (nI k2), .ref (70 + 2 * k2), .int v121]) (.istore_n 3) 134 (by decide +kernel) rfl rfl ?_
                refine w_load (.iload_n 3) 135 (by decide +kernel) rfl rfl ?_
                exact w_ret (by decide +kernel) (hq _ Nr4 hS trivial)
              · skip
                refine w_pushN 16 128 (by decide +kernel) ?_
                refine w_goto 132 (by decide +kernel) ?_
                refine w_pure .ior 133 (by decide +kernel) rfl rfl ?_
                refine w_topi (fun v122 ev122 => ?_)
                refine w_store (ls' := [.ref 0, .int (nI k2), .ref (70 + 2 * k2), .int v122]) (.istore_n 3) 134 (by decide +kernel) rfl rfl ?_
                refine w_load (.iload_n 3) 135 (by decide +kernel) rfl rfl ?_
                exact w_ret (by decide +kernel) (hq _ Nr4 hS trivial)
  · skip
    refine w_ine 9 7 (by decide +kernel) (fun hz => absurd hz (by decide)) (fun _ => ?_)
    refine w_push (-1) 8 (by decide +kernel) ?_
    exact w_ret (by decide +kernel) (hq _ N hS trivial)
-- X7_odds
set_option maxRecDepth 10000 in
theorem k_96 {d : Nat} {M : Mt} {L : Lt} {Q : Option Value → Mt → Lt → Prop} {a : Int32} {b : Int32} {c : Int32} (hI : Inv M)  (hd : 1 ≤ d) (hq : ∀ (r : Int32) (N : Mt), St (fun i _ => i = 67) M N → ((r = -2 ∧ ¬ ((∃ k, k < 11 ∧ a = nI k) ∧ (∃ k, k < 11 ∧ b = nI k) ∧ (∃ k, k < 11 ∧ c = nI k) ∧ a + b + c = nI 10) ∧ N = M) ∨ (((∃ k, k < 11 ∧ a = nI k) ∧ (∃ k, k < 11 ∧ b = nI k) ∧ (∃ k, k < 11 ∧ c = nI k) ∧ a + b + c = nI 10) ∧ r = M 67 0 ∧ N = up2 (up2 (up2 M 67 0 a) 67 1 b) 67 2 c)) → Q (some (.int r)) N L) : Wp d 96 0 [.ref 0, .int a, .int b, .int c, .null] [] M L Q := by
  refine (show ∀ N : Mt, N = M → St (fun i _ => i = 67) M N → Wp d 96 0 [.ref 0, .int a, .int b, .int c, .null] [] N L Q from ?_) M rfl (St.rf hI)
  intro N hNM hS
  refine w_load (.iload_n 1) 1 (by decide +kernel) rfl rfl ?_
  refine w_callS1 114 1 4 (by decide +kernel) (Nat.le_of_ble_eq_true rfl) rfl (by decide) (by omega) ?_
  refine k_114 hS.1  (by omega) (fun r1 hr1 => ?_)
  dsimp only [Option.toList, List.cons_append, List.nil_append]
  rcases hr1 with ⟨rfl, k2, hk2, rfl⟩ | ⟨rfl, hnok2⟩
  · skip
    refine w_ieq 31 7 (by decide +kernel) (fun hz => absurd hz (by decide)) (fun _ => ?_)
    refine w_load (.iload_n 2) 8 (by decide +kernel) rfl rfl ?_
    refine w_callS1 114 1 11 (by decide +kernel) (Nat.le_of_ble_eq_true rfl) rfl (by decide) (by omega) ?_
    refine k_114 hS.1  (by omega) (fun r4 hr4 => ?_)
    dsimp only [Option.toList, List.cons_append, List.nil_append]
    rcases hr4 with ⟨rfl, k5, hk5, rfl⟩ | ⟨rfl, hnok5⟩
    · skip
      refine w_ieq 31 14 (by decide +kernel) (fun hz => absurd hz (by decide)) (fun _ => ?_)
      refine w_load (.iload_n 3) 15 (by decide +kernel) rfl rfl ?_
      refine w_callS1 114 1 18 (by decide +kernel) (Nat.le_of_ble_eq_true rfl) rfl (by decide) (by omega) ?_
      refine k_114 hS.1  (by omega) (fun r7 hr7 => ?_)
      dsimp only [Option.toList, List.cons_append, List.nil_append]
      rcases hr7 with ⟨rfl, k8, hk8, rfl⟩ | ⟨rfl, hnok8⟩
      · skip
        refine w_ieq 31 21 (by decide +kernel) (fun hz => absurd hz (by decide)) (fun _ => ?_)
        refine w_load (.iload_n 1) 22 (by decide +kernel) rfl rfl ?_
        refine w_load (.iload_n 2) 23 (by decide +kernel) rfl rfl ?_
        refine w_pure .iadd 24 (by decide +kernel) rfl rfl ?_
        refine w_load (.iload_n 3) 25 (by decide +kernel) rfl rfl ?_
        refine w_pure .iadd 26 (by decide +kernel) rfl rfl ?_
        refine w_pushN 10 28 (by decide +kernel) ?_
        refine w_ceq 34 31 (by decide +kernel) (fun h10 => ?_) (fun h10 => ?_)
        · skip
          refine w_load (.aload_n 0) 35 (by decide +kernel) rfl rfl ?_
          refine w_getR (k := 11) (r := 67) 38 (by decide +kernel) sh_0 rfl ?_
          refine w_pushN 0 39 (by decide +kernel) ?_
          refine w_ialdN 40 (by decide +kernel) sh_67 (by omega) (by omega) ?_
          refine w_topi (fun v11 ev11 => ?_)
          refine w_store (ls' := [.ref 0, .int (nI k2), .int (nI k5), .int (nI k8), .int v11]) (.istore 4) 42 (by decide +kernel) rfl rfl ?_
          refine w_load (.aload_n 0) 43 (by decide +kernel) rfl rfl ?_
          refine w_getR (k := 11) (r := 67) 46 (by decide +kernel) sh_0 rfl ?_
          refine w_pushN 0 47 (by decide +kernel) ?_
          refine w_load (.iload_n 1) 48 (by decide +kernel) rfl rfl ?_
          refine w_iastE 49 (by decide +kernel) sh_67 (by omega) (by omega) hS (Rg.free (by simp only [Hs, Tl, Sc, isScr, isHs, isTs] at *; omega)) (by first | exact rfl | omega | (dsimp only; omega) | (simp only [Hs, Tl, Sc, isHs, isScr, isTs] at *; omega)) (fun Nq12 hS hq12 oq12 mq12 => ?_)
          refine w_load (.aload_n 0) 50 (by decide +kernel) rfl rfl ?_
          refine w_getR (k := 11) (r := 67) 53 (by decide +kernel) sh_0 rfl ?_
          refine w_pushN 1 54 (by decide +kernel) ?_
          refine w_load (.iload_n 2) 55 (by decide +kernel) rfl rfl ?_
          refine w_iastE 56 (by decide +kernel) sh_67 (by omega) (by omega) hS (Rg.free (by simp only [Hs, Tl, Sc, isScr, isHs, isTs] at *; omega)) (by first | exact rfl | omega | (dsimp only; omega) | (simp only [Hs, Tl, Sc, isHs, isScr, isTs] at *; omega)) (fun Nq13 hS hq13 oq13 mq13 => ?_)
          refine w_load (.aload_n 0) 57 (by decide +kernel) rfl rfl ?_
          refine w_getR (k := 11) (r := 67) 60 (by decide +kernel) sh_0 rfl ?_
          refine w_pushN 2 61 (by decide +kernel) ?_
          refine w_load (.iload_n 3) 62 (by decide +kernel) rfl rfl ?_
          refine w_iastE 63 (by decide +kernel) sh_67 (by omega) (by omega) hS (Rg.free (by simp only [Hs, Tl, Sc, isScr, isHs, isTs] at *; omega)) (by first | exact rfl | omega | (dsimp only; omega) | (simp only [Hs, Tl, Sc, isHs, isScr, isTs] at *; omega)) (fun Nq14 hS hq14 oq14 mq14 => ?_)
          refine w_load (.iload 4) 65 (by decide +kernel) rfl rfl ?_
          exact w_ret (by decide +kernel) (hq _ Nq14 hS (by first | exact Or.inl ⟨rfl, fun hz => by first | exact absurd hz.1 (by assumption) | exact absurd hz.2.1 (by assumption) | exact absurd hz.2.2.1 (by assumption) | exact absurd hz.2.2.2 (by assumption) , hNM⟩ | exact Or.inr ⟨⟨⟨_, by assumption, rfl⟩, ⟨_, by assumption, rfl⟩, ⟨_, by assumption, rfl⟩, by assumption⟩, (by rw [← hNM]; assumption), (by rw [mq14, mq13, mq12, hNM] <;> rfl)⟩))
        · skip
          refine w_push (-2) 33 (by decide +kernel) ?_
          exact w_ret (by decide +kernel) (hq _ N hS (by first | exact Or.inl ⟨rfl, fun hz => by first | exact absurd hz.1 (by assumption) | exact absurd hz.2.1 (by assumption) | exact absurd hz.2.2.1 (by assumption) | exact absurd hz.2.2.2 (by assumption) , hNM⟩ | exact Or.inr ⟨⟨⟨_, by assumption, rfl⟩, ⟨_, by assumption, rfl⟩, ⟨_, by assumption, rfl⟩, by assumption⟩, (by rw [← hNM]; assumption), (by rw [hNM] <;> rfl)⟩))
      · skip
        refine w_ieq 31 21 (by decide +kernel) (fun _ => ?_) (fun hz => absurd hz (by decide))
        refine w_push (-2) 33 (by decide +kernel) ?_
        exact w_ret (by decide +kernel) (hq _ N hS (by first | exact Or.inl ⟨rfl, fun hz => by first | exact absurd hz.1 (by assumption) | exact absurd hz.2.1 (by assumption) | exact absurd hz.2.2.1 (by assumption) | exact absurd hz.2.2.2 (by assumption) , hNM⟩ | exact Or.inr ⟨⟨⟨_, by assumption, rfl⟩, ⟨_, by assumption, rfl⟩, ⟨_, by assumption, rfl⟩, by assumption⟩, (by rw [← hNM]; assumption), (by rw [hNM] <;> rfl)⟩))
    · skip
      refine w_ieq 31 14 (by decide +kernel) (fun _ => ?_) (fun hz => absurd hz (by decide))
      refine w_push (-2) 33 (by decide +kernel) ?_
      exact w_ret (by decide +kernel) (hq _ N hS (by first | exact Or.inl ⟨rfl, fun hz => by first | exact absurd hz.1 (by assumption) | exact absurd hz.2.1 (by assumption) | exact absurd hz.2.2.1 (by assumption) | exact absurd hz.2.2.2 (by assumption) , hNM⟩ | exact Or.inr ⟨⟨⟨_, by assumption, rfl⟩, ⟨_, by assumption, rfl⟩, ⟨_, by assumption, rfl⟩, by assumption⟩, (by rw [← hNM]; assumption), (by rw [hNM] <;> rfl)⟩))
  · skip
    refine w_ieq 31 7 (by decide +kernel) (fun _ => ?_) (fun hz => absurd hz (by decide))
    refine w_push (-2) 33 (by decide +kernel) ?_
    exact w_ret (by decide +kernel) (hq _ N hS (by first | exact Or.inl ⟨rfl, fun hz => by first | exact absurd hz.1 (by assumption) | exact absurd hz.2.1 (by assumption) | exact absurd hz.2.2.1 (by assumption) | exact absurd hz.2.2.2 (by assumption) , hNM⟩ | exact Or.inr ⟨⟨⟨_, by assumption, rfl⟩, ⟨_, by assumption, rfl⟩, ⟨_, by assumption, rfl⟩, by assumption⟩, (by rw [← hNM]; assumption), (by rw [hNM] <;> rfl)⟩))
