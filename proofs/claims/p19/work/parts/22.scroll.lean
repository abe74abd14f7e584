-- X2_kindOfLetter
theorem k_49 {d : Nat} {M : Mt} {L : Lt} {Q : Option Value → Mt → Lt → Prop} {a : Int32} (hI : Inv M) (hd : 0 ≤ d) (hq : ∀ (r : Int32), r = kd a → Q (some (.int r)) M L) : Wp d 49 0 [.int a] [] M L Q := by
  refine w_load (.iload_n 0) 1 (by decide +kernel) rfl rfl ?_
  refine w_look (show insAt 49 1 = some (.lookupswitch 51 #[(103, 47), (107, 43), (116, 49), (119, 45)]) by decide +kernel) (by decide) ?_
  simp only [Op.lookupswitch.offset_cons]
  split
  · refine ⟨48, rfl, ?_⟩
    refine w_pushN 2 49 (by decide +kernel) ?_
    exact w_ret (by decide +kernel) (hq _ (by first | exact kd_103 (by omega) | exact kd_107 (by omega) | exact kd_116 (by omega) | exact kd_119 (by omega) | exact kd_no (by omega) (by omega) (by omega) (by omega)))
  · split
    · refine ⟨44, rfl, ?_⟩
      refine w_pushN 0 45 (by decide +kernel) ?_
      exact w_ret (by decide +kernel) (hq _ (by first | exact kd_103 (by omega) | exact kd_107 (by omega) | exact kd_116 (by omega) | exact kd_119 (by omega) | exact kd_no (by omega) (by omega) (by omega) (by omega)))
    · split
      · refine ⟨50, rfl, ?_⟩
        refine w_pushN 3 51 (by decide +kernel) ?_
        exact w_ret (by decide +kernel) (hq _ (by first | exact kd_103 (by omega) | exact kd_107 (by omega) | exact kd_116 (by omega) | exact kd_119 (by omega) | exact kd_no (by omega) (by omega) (by omega) (by omega)))
      · split
        · refine ⟨46, rfl, ?_⟩
          refine w_pushN 1 47 (by decide +kernel) ?_
          exact w_ret (by decide +kernel) (hq _ (by first | exact kd_103 (by omega) | exact kd_107 (by omega) | exact kd_116 (by omega) | exact kd_119 (by omega) | exact kd_no (by omega) (by omega) (by omega) (by omega)))
        · refine ⟨52, rfl, ?_⟩
          refine w_push (-9) 54 (by decide +kernel) ?_
          exact w_ret (by decide +kernel) (hq _ (by first | exact kd_103 (by omega) | exact kd_107 (by omega) | exact kd_116 (by omega) | exact kd_119 (by omega) | exact kd_no (by omega) (by omega) (by omega) (by omega)))
-- X2_length
set_option maxRecDepth 10000 in
theorem k_36 {d : Nat} {M : Mt} {L : Lt} {Q : Option Value → Mt → Lt → Prop} {s n : Nat} (hI : Inv M) (hc : Sc s) (hn : n ≤ 24) (en : M s 1 = nI n) (hd : 0 ≤ d) (hq : ∀ (r : Int32), (r = nI n) → Q (some (.int r)) M L) : Wp d 36 0 [.ref s] [] M L Q := by
  refine w_load (.aload_n 0) 1 (by decide +kernel) rfl rfl ?_
  refine w_getK (k := 1) 4 (by decide +kernel) hc.1.1 rfl en ?_
  exact w_ret (by decide +kernel) (hq _ rfl)
-- X2_isFull
set_option maxRecDepth 10000 in
theorem k_37 {d : Nat} {M : Mt} {L : Lt} {Q : Option Value → Mt → Lt → Prop} {s n : Nat} (hI : Inv M) (hc : Sc s) (hn : n ≤ 24) (en : M s 1 = nI n) (hd : 0 ≤ d) (hq : ∀ (r : Int32), ((r = 1 ∧ n = 24) ∨ (r = 0 ∧ n < 24)) → Q (some (.int r)) M L) : Wp d 37 0 [.ref s] [] M L Q := by
  refine w_load (.aload_n 0) 1 (by decide +kernel) rfl rfl ?_
  refine w_getK (k := 1) 4 (by decide +kernel) hc.1.1 rfl en ?_
  refine w_load (.aload_n 0) 5 (by decide +kernel) rfl rfl ?_
  refine w_getR (k := 0) (r := s + 1) 8 (by decide +kernel) hc.1.1 rfl ?_
  refine w_alen (nI 24) 9 (by decide +kernel) hc.1.2 (by decide) (by first | rfl | simp [nI]) ?_
  refine w_cltN 16 12 (by decide +kernel) (by omega) (by omega) (fun h1 => ?_) (fun h1 => ?_)
  · skip
    refine w_pushN 0 17 (by decide +kernel) ?_
    exact w_retZ (by decide +kernel) (Or.inl rfl) (hq _ (Or.inr ⟨rfl, by omega⟩))
  · skip
    refine w_pushN 1 13 (by decide +kernel) ?_
    refine w_goto 17 (by decide +kernel) ?_
    exact w_retZ (by decide +kernel) (Or.inr rfl) (hq _ (Or.inl ⟨rfl, by omega⟩))
-- X2_add
set_option maxRecDepth 10000 in
theorem k_38 {d : Nat} {M : Mt} {L : Lt} {Q : Option Value → Mt → Lt → Prop} {s n : Nat} {a : Int32} (hI : Inv M) (hc : Sc s) (hn : n < 24) (en : M s 1 = nI n) (hd : 1 ≤ d) (hq : ∀ (r : Int32) (N : Mt), St (fun i _ => s ≤ i ∧ i ≤ s + 1) M N → (r = nI (n + 1) ∧ N = up2 (up2 M (s + 1) n a) s 1 (nI (n + 1))) → Q (some (.int r)) N L) : Wp d 38 0 [.ref s, .int a] [] M L Q := by
  refine (show ∀ N : Mt, N = M → St (fun i _ => s ≤ i ∧ i ≤ s + 1) M N → Wp d 38 0 [.ref s, .int a] [] N L Q from ?_) M rfl (St.rf hI)
  intro N hNM hS
  have kz0 : N (s) 1 = nI n := by rw [hNM]; exact en
  refine w_load (.aload_n 0) 1 (by decide +kernel) rfl rfl ?_
  refine w_callV0 37 2 1 4 (by decide +kernel) hc.1.1 (Nat.le_of_ble_eq_true rfl)  (by decide) (by omega) ?_
  refine k_37 hS.1 hc (by omega) kz0 (by omega) (fun r1 hr1 => ?_)
  dsimp only [Option.toList, List.cons_append, List.nil_append]
  rcases hr1 with ⟨rfl, hfull⟩ | ⟨rfl, hfull⟩
  · skip
    refine w_ine 27 7 (by decide +kernel) (fun _ => ?_) (fun hz => absurd hz (by decide))
    refine w_load (.aload_n 0) 28 (by decide +kernel) rfl rfl ?_
    refine w_getK (k := 1) 31 (by decide +kernel) hc.1.1 rfl kz0 ?_
    exact w_ret (by decide +kernel) (hq _ N hS (by first | exact absurd hfull (by omega) | exact ⟨rfl, (by rw [hNM] <;> rfl)⟩))
  · skip
    refine w_ine 27 7 (by decide +kernel) (fun hz => absurd hz (by decide)) (fun _ => ?_)
    refine w_load (.aload_n 0) 8 (by decide +kernel) rfl rfl ?_
    refine w_getR (k := 0) (r := s + 1) 11 (by decide +kernel) hc.1.1 rfl ?_
    refine w_load (.aload_n 0) 12 (by decide +kernel) rfl rfl ?_
    refine w_getK (k := 1) 15 (by decide +kernel) hc.1.1 rfl kz0 ?_
    refine w_load (.iload_n 1) 16 (by decide +kernel) rfl rfl ?_
    refine w_iastE 17 (by decide +kernel) hc.1.2 (by omega) (by omega) hS (Rg.free (by simp only [Hs, Tl, Sc, isScr, isHs, isTs] at *; omega)) (by first | exact rfl | omega | (dsimp only; omega) | (simp only [Hs, Tl, Sc, isHs, isScr, isTs] at *; omega)) (fun Nq4 hS hq4 oq4 mq4 => ?_)
    have kn5 := (oq4 (s) 1 (by first | omega | (simp only [Hs, Tl, Sc, isHs, isScr, isTs] at *; omega))).trans kz0
    refine w_load (.aload_n 0) 18 (by decide +kernel) rfl rfl ?_
    refine w_pure .dup 19 (by decide +kernel) rfl rfl ?_
    refine w_getK (k := 1) 22 (by decide +kernel) hc.1.1 rfl kn5 ?_
    refine w_pushN 1 23 (by decide +kernel) ?_
    refine w_addN (n + 1) 24 (by decide +kernel) (by omega) ?_
    refine w_putE (k := 1) 27 (by decide +kernel) hc.1.1 rfl hS (rg_s hc (by omega)) (by first | exact rfl | omega | (dsimp only; omega) | (simp only [Hs, Tl, Sc, isHs, isScr, isTs] at *; omega)) (fun Nq6 hS hq6 oq6 mq6 => ?_)
    refine w_load (.aload_n 0) 28 (by decide +kernel) rfl rfl ?_
    refine w_getK (k := 1) 31 (by decide +kernel) hc.1.1 rfl hq6 ?_
    exact w_ret (by decide +kernel) (hq _ Nq6 hS (by first | exact absurd hfull (by omega) | exact ⟨rfl, (by rw [mq6, mq4, hNM] <;> rfl)⟩))
-- X2_empty
set_option maxRecDepth 10000 in
theorem k_39 {d : Nat} {M : Mt} {L : Lt} {Q : Option Value → Mt → Lt → Prop} {s n : Nat} (hI : Inv M) (hc : Sc s) (hn : n ≤ 24) (en : M s 1 = nI n) (hd : 0 ≤ d) (hq : ∀ (r : Int32) (N : Mt), St (fun i _ => i = s) M N → (r = nI n ∧ N = up2 M s 1 (nI 0)) → Q (some (.int r)) N L) : Wp d 39 0 [.ref s, .null] [] M L Q := by
  refine (show ∀ N : Mt, N = M → St (fun i _ => i = s) M N → Wp d 39 0 [.ref s, .null] [] N L Q from ?_) M rfl (St.rf hI)
  intro N hNM hS
  have kz0 : N (s) 1 = nI n := by rw [hNM]; exact en
  refine w_load (.aload_n 0) 1 (by decide +kernel) rfl rfl ?_
  refine w_getK (k := 1) 4 (by decide +kernel) hc.1.1 rfl kz0 ?_
  refine w_store (ls' := [.ref s, .int (nI n)]) (.istore_n 1) 5 (by decide +kernel) rfl rfl ?_
  refine w_load (.aload_n 0) 6 (by decide +kernel) rfl rfl ?_
  refine w_pushN 0 7 (by decide +kernel) ?_
  refine w_putE (k := 1) 10 (by decide +kernel) hc.1.1 rfl hS (rg_s hc (by omega)) (by first | exact rfl | omega | (dsimp only; omega) | (simp only [Hs, Tl, Sc, isHs, isScr, isTs] at *; omega)) (fun Nq1 hS hq1 oq1 mq1 => ?_)
  refine w_load (.iload_n 1) 11 (by decide +kernel) rfl rfl ?_
  exact w_ret (by decide +kernel) (hq _ Nq1 hS ⟨rfl, (by rw [mq1, hNM] <;> rfl)⟩)
-- X2_letterAt
set_option maxRecDepth 10000 in
theorem k_40 {d : Nat} {M : Mt} {L : Lt} {Q : Option Value → Mt → Lt → Prop} {s : Nat} {a : Int32} (hI : Inv M) (hc : Sc s) (hd : 0 ≤ d) (hq : ∀ (r : Int32), True → Q (some (.int r)) M L) : Wp d 40 0 [.ref s, .int a] [] M L Q := by
  refine w_load (.iload_n 1) 1 (by decide +kernel) rfl rfl ?_
  refine w_ilt 21 4 (by decide +kernel) (fun h1 => ?_) (fun h1 => ?_)
  · skip
    refine w_push (-9) 23 (by decide +kernel) ?_
    exact w_ret (by decide +kernel) (hq _ trivial)
  · skip
    refine w_load (.iload_n 1) 5 (by decide +kernel) rfl rfl ?_
    refine w_load (.aload_n 0) 6 (by decide +kernel) rfl rfl ?_
    refine w_getN (B := 24) (k := 1) 9 (by decide +kernel) hc.1.1 rfl (inv_s hI hc) (fun n2 hn2 en2 => ?_)
    refine w_cge 21 12 (by decide +kernel) (fun h3 => ?_) (fun h3 => ?_)
    · skip
      refine w_push (-9) 23 (by decide +kernel) ?_
      exact w_ret (by decide +kernel) (hq _ trivial)
    · skip
      obtain ⟨k4, hk4, rfl⟩ := rng_lt (by assumption) h3 (by omega)
      refine w_load (.aload_n 0) 13 (by decide +kernel) rfl rfl ?_
      refine w_getR (k := 0) (r := s + 1) 16 (by decide +kernel) hc.1.1 rfl ?_
      refine w_load (.iload_n 1) 17 (by decide +kernel) rfl rfl ?_
      refine w_ialdN 18 (by decide +kernel) hc.1.2 (by omega) (by omega) ?_
      refine w_goto 23 (by decide +kernel) ?_
      exact w_ret (by decide +kernel) (hq _ trivial)
-- X2_letterAt#s
set_option maxRecDepth 10000 in
theorem s_letterAt {d : Nat} {M : Mt} {L : Lt} {Q : Option Value → Mt → Lt → Prop} {s n k : Nat} (hI : Inv M) (hc : Sc s) (hn : n ≤ 24) (en : M s 1 = nI n) (hk : k < n) (hd : 0 ≤ d) (hq : ∀ (r : Int32), (r = M (s + 1) k) → Q (some (.int r)) M L) : Wp d 40 0 [.ref s, .int (nI k)] [] M L Q := by
  refine w_load (.iload_n 1) 1 (by decide +kernel) rfl rfl ?_
  refine w_iltN 21 4 (by decide +kernel) (by omega) ?_
  refine w_load (.iload_n 1) 5 (by decide +kernel) rfl rfl ?_
  refine w_load (.aload_n 0) 6 (by decide +kernel) rfl rfl ?_
  refine w_getK (k := 1) 9 (by decide +kernel) hc.1.1 rfl en ?_
  refine w_cgeN 21 12 (by decide +kernel) (by omega) (by omega) (fun h2 => ?_) (fun h2 => ?_)
  · skip
    refine w_push (-9) 23 (by decide +kernel) ?_
    exact w_ret (by decide +kernel) (hq _ (by first | rfl | omega))
  · skip
    refine w_load (.aload_n 0) 13 (by decide +kernel) rfl rfl ?_
    refine w_getR (k := 0) (r := s + 1) 16 (by decide +kernel) hc.1.1 rfl ?_
    refine w_load (.iload_n 1) 17 (by decide +kernel) rfl rfl ?_
    refine w_ialdN 18 (by decide +kernel) hc.1.2 (by omega) (by omega) ?_
    refine w_goto 23 (by decide +kernel) ?_
    exact w_ret (by decide +kernel) (hq _ (by first | rfl | omega))
-- X2_isNameLetter
set_option maxRecDepth 10000 in
theorem k_48 {d : Nat} {M : Mt} {L : Lt} {Q : Option Value → Mt → Lt → Prop} {a : Int32} (hI : Inv M)  (hd : 0 ≤ d) (hq : ∀ (r : Int32), ((r = 1 ∧ inR a 97 100) ∨ (r = 0 ∧ ¬ inR a 97 100)) → Q (some (.int r)) M L) : Wp d 48 0 [.int a] [] M L Q := by
  refine w_load (.iload_n 0) 1 (by decide +kernel) rfl rfl ?_
  refine w_pushN 97 3 (by decide +kernel) ?_
  refine w_clt 16 6 (by decide +kernel) (fun h1 => ?_) (fun h1 => ?_)
  · skip
    refine w_pushN 0 17 (by decide +kernel) ?_
    exact w_retZ (by decide +kernel) (Or.inl rfl) (hq _ (Or.inr ⟨rfl, by first | exact inR_lo (by assumption) (by decide) | exact inR_hi (by assumption) (by decide)⟩))
  · skip
    refine w_load (.iload_n 0) 7 (by decide +kernel) rfl rfl ?_
    refine w_pushN 100 9 (by decide +kernel) ?_
    refine w_cgt 16 12 (by decide +kernel) (fun h2 => ?_) (fun h2 => ?_)
    · skip
      refine w_pushN 0 17 (by decide +kernel) ?_
      exact w_retZ (by decide +kernel) (Or.inl rfl) (hq _ (Or.inr ⟨rfl, by first | exact inR_lo (by assumption) (by decide) | exact inR_hi (by assumption) (by decide)⟩))
    · skip
      refine w_pushN 1 13 (by decide +kernel) ?_
      refine w_goto 17 (by decide +kernel) ?_
      exact w_retZ (by decide +kernel) (Or.inr rfl) (hq _ (Or.inl ⟨rfl, by first | exact inR_of (by assumption) (by assumption) (by decide) (by decide)⟩))
-- X2_fitsTale
set_option maxRecDepth 10000 in
theorem k_47 {d : Nat} {M : Mt} {L : Lt} {Q : Option Value → Mt → Lt → Prop} {p : Nat} {a : Int32} (hI : Inv M) (hp : p < 24) (hd : 1 ≤ d) (hq : ∀ (r : Int32), ((r = 1 ∧ fitT p a) ∨ (r = 0 ∧ ¬ fitT p a)) → Q (some (.int r)) M L) : Wp d 47 0 [.int (nI p), .int a] [] M L Q := by
  refine w_load (.iload_n 0) 1 (by decide +kernel) rfl rfl ?_
  refine w_pushN 3 2 (by decide +kernel) ?_
  refine w_remN (p % 3) 3 (by decide +kernel) (by decide) (by decide) (by omega) rfl ?_
  refine w_ineN 23 6 (by decide +kernel) (by omega) (fun h1 => ?_) (fun h1 => ?_)
  · skip
    refine w_load (.iload_n 1) 24 (by decide +kernel) rfl rfl ?_
    refine w_callS1 48 1 27 (by decide +kernel) (Nat.le_of_ble_eq_true rfl) rfl (by decide) (by omega) ?_
    refine k_48 hI  (by omega) (fun r2 hr2 => ?_)
    dsimp only [Option.toList, List.cons_append, List.nil_append]
    rcases hr2 with ⟨rfl, hyr2⟩ | ⟨rfl, hyr2⟩
    · skip
      exact w_retZ (by decide +kernel) (Or.inr rfl) (hq _ (Or.inl ⟨rfl, by unfold fitT; (repeat' split) <;> first | omega | assumption | exact inR_of (by assumption) (by assumption) (by decide) (by decide)⟩))
    · skip
      exact w_retZ (by decide +kernel) (Or.inl rfl) (hq _ (Or.inr ⟨rfl, fun hf => by unfold fitT at hf; (repeat' (split at hf)) <;> first | omega | exact absurd hf (by assumption) | exact inR_lo (by assumption) (by decide) hf | exact inR_hi (by assumption) (by decide) hf | exact hf | exact hf (by assumption)⟩))
  · skip
    refine w_load (.iload_n 1) 7 (by decide +kernel) rfl rfl ?_
    refine w_callS1 49 1 10 (by decide +kernel) (Nat.le_of_ble_eq_true rfl) rfl (by decide) (by omega) ?_
    refine k_49 hI  (by omega) (fun r3 hr3 => ?_)
    dsimp only [Option.toList, List.cons_append, List.nil_append]
    rcases hr3 with rfl
    · skip
      refine w_push (-9) 12 (by decide +kernel) ?_
      refine w_ceq 19 15 (by decide +kernel) (fun h4 => ?_) (fun h4 => ?_)
      · skip
        refine w_pushN 0 20 (by decide +kernel) ?_
        refine w_goto 27 (by decide +kernel) ?_
        exact w_retZ (by decide +kernel) (Or.inl rfl) (hq _ (Or.inr ⟨rfl, fun hf => by unfold fitT at hf; (repeat' (split at hf)) <;> first | omega | exact absurd hf (by assumption) | exact inR_lo (by assumption) (by decide) hf | exact inR_hi (by assumption) (by decide) hf | exact hf | exact hf (by assumption)⟩))
      · skip
        refine w_pushN 1 16 (by decide +kernel) ?_
        refine w_goto 27 (by decide +kernel) ?_
        exact w_retZ (by decide +kernel) (Or.inr rfl) (hq _ (Or.inl ⟨rfl, by unfold fitT; (repeat' split) <;> first | omega | assumption | exact inR_of (by assumption) (by assumption) (by decide) (by decide)⟩))
-- X2_fitsInn
set_option maxRecDepth 10000 in
theorem k_46 {d : Nat} {M : Mt} {L : Lt} {Q : Option Value → Mt → Lt → Prop} {p : Nat} {a : Int32} (hI : Inv M) (hp : p < 24) (hd : 1 ≤ d) (hq : ∀ (r : Int32), ((r = 1 ∧ fitI p a) ∨ (r = 0 ∧ ¬ fitI p a)) → Q (some (.int r)) M L) : Wp d 46 0 [.int (nI p), .int a] [] M L Q := by
  refine w_load (.iload_n 0) 1 (by decide +kernel) rfl rfl ?_
  refine w_ineN 16 4 (by decide +kernel) (by omega) (fun h1 => ?_) (fun h1 => ?_)
  · skip
    refine w_load (.iload_n 0) 17 (by decide +kernel) rfl rfl ?_
    refine w_pushN 20 19 (by decide +kernel) ?_
    refine w_cleN 24 22 (by decide +kernel) (by omega) (by omega) (fun h2 => ?_) (fun h2 => ?_)
    · skip
      refine w_load (.iload_n 0) 25 (by decide +kernel) rfl rfl ?_
      refine w_pushN 4 26 (by decide +kernel) ?_
      refine w_remN (p % 4) 27 (by decide +kernel) (by decide) (by decide) (by omega) rfl ?_
      refine w_tab (show insAt 46 27 = some (.tableswitch 60 1 3 #[25, 37, 42]) by decide +kernel) (fun h3 => ⟨87, rfl, ?_⟩) (fun z4 h3 h3b => ?_)
      · skip
        rw [nI_toInt (by omega)] at h3
        refine w_load (.iload_n 1) 88 (by decide +kernel) rfl rfl ?_
        refine w_pushN 48 90 (by decide +kernel) ?_
        refine w_clt 103 93 (by decide +kernel) (fun h5 => ?_) (fun h5 => ?_)
        · skip
          refine w_pushN 0 104 (by decide +kernel) ?_
          exact w_retZ (by decide +kernel) (Or.inl rfl) (hq _ (Or.inr ⟨rfl, fun hf => by unfold fitI at hf; (repeat' (split at hf)) <;> first | omega | exact absurd hf (by assumption) | exact inR_lo (by assumption) (by decide) hf | exact inR_hi (by assumption) (by decide) hf | exact hf | exact hf (by assumption)⟩))
        · skip
          refine w_load (.iload_n 1) 94 (by decide +kernel) rfl rfl ?_
          refine w_pushN 51 96 (by decide +kernel) ?_
          refine w_cgt 103 99 (by decide +kernel) (fun h6 => ?_) (fun h6 => ?_)
          · skip
            refine w_pushN 0 104 (by decide +kernel) ?_
            exact w_retZ (by decide +kernel) (Or.inl rfl) (hq _ (Or.inr ⟨rfl, fun hf => by unfold fitI at hf; (repeat' (split at hf)) <;> first | omega | exact absurd hf (by assumption) | exact inR_lo (by assumption) (by decide) hf | exact inR_hi (by assumption) (by decide) hf | exact hf | exact hf (by assumption)⟩))
          · skip
            refine w_pushN 1 100 (by decide +kernel) ?_
            refine w_goto 104 (by decide +kernel) ?_
            exact w_retZ (by decide +kernel) (Or.inr rfl) (hq _ (Or.inl ⟨rfl, by unfold fitI; (repeat' split) <;> first | omega | assumption | exact inR_of (by assumption) (by assumption) (by decide) (by decide)⟩))
      · rw [nI_toInt (by omega)] at h3
        rcases (by omega : z4 = 0 ∨ z4 = 1 ∨ z4 = 2) with rfl | rfl | rfl
        · refine ⟨_, 52, rfl, rfl, ?_⟩
          refine w_load (.iload_n 1) 53 (by decide +kernel) rfl rfl ?_
          refine w_pushN 71 55 (by decide +kernel) ?_
          refine w_cne 62 58 (by decide +kernel) (fun h7 => ?_) (fun h7 => ?_)
          · skip
            refine w_pushN 0 63 (by decide +kernel) ?_
            exact w_retZ (by decide +kernel) (Or.inl rfl) (hq _ (Or.inr ⟨rfl, fun hf => by unfold fitI at hf; (repeat' (split at hf)) <;> first | omega | exact absurd hf (by assumption) | exact inR_lo (by assumption) (by decide) hf | exact inR_hi (by assumption) (by decide) hf | exact hf | exact hf (by assumption)⟩))
          · skip
            refine w_pushN 1 59 (by decide +kernel) ?_
            refine w_goto 63 (by decide +kernel) ?_
            exact w_retZ (by decide +kernel) (Or.inr rfl) (hq _ (Or.inl ⟨rfl, by unfold fitI; (repeat' split) <;> first | omega | assumption | exact inR_of (by assumption) (by assumption) (by decide) (by decide)⟩))
        · refine ⟨_, 64, rfl, rfl, ?_⟩
          refine w_load (.iload_n 1) 65 (by decide +kernel) rfl rfl ?_
          refine w_callS1 48 1 68 (by decide +kernel) (Nat.le_of_ble_eq_true rfl) rfl (by decide) (by omega) ?_
          refine k_48 hI  (by omega) (fun r8 hr8 => ?_)
          dsimp only [Option.toList, List.cons_append, List.nil_append]
          rcases hr8 with ⟨rfl, hyr8⟩ | ⟨rfl, hyr8⟩
          · skip
            exact w_retZ (by decide +kernel) (Or.inr rfl) (hq _ (Or.inl ⟨rfl, by unfold fitI; (repeat' split) <;> first | omega | assumption | exact inR_of (by assumption) (by assumption) (by decide) (by decide)⟩))
          · skip
            exact w_retZ (by decide +kernel) (Or.inl rfl) (hq _ (Or.inr ⟨rfl, fun hf => by unfold fitI at hf; (repeat' (split at hf)) <;> first | omega | exact absurd hf (by assumption) | exact inR_lo (by assumption) (by decide) hf | exact inR_hi (by assumption) (by decide) hf | exact hf | exact hf (by assumption)⟩))
        · refine ⟨_, 69, rfl, rfl, ?_⟩
          refine w_load (.iload_n 1) 70 (by decide +kernel) rfl rfl ?_
          refine w_pushN 48 72 (by decide +kernel) ?_
          refine w_clt 85 75 (by decide +kernel) (fun h9 => ?_) (fun h9 => ?_)
          · skip
            refine w_pushN 0 86 (by decide +kernel) ?_
            exact w_retZ (by decide +kernel) (Or.inl rfl) (hq _ (Or.inr ⟨rfl, fun hf => by unfold fitI at hf; (repeat' (split at hf)) <;> first | omega | exact absurd hf (by assumption) | exact inR_lo (by assumption) (by decide) hf | exact inR_hi (by assumption) (by decide) hf | exact hf | exact hf (by assumption)⟩))
          · skip
            refine w_load (.iload_n 1) 76 (by decide +kernel) rfl rfl ?_
            refine w_pushN 57 78 (by decide +kernel) ?_
            refine w_cgt 85 81 (by decide +kernel) (fun h10 => ?_) (fun h10 => ?_)
            · skip
              refine w_pushN 0 86 (by decide +kernel) ?_
              exact w_retZ (by decide +kernel) (Or.inl rfl) (hq _ (Or.inr ⟨rfl, fun hf => by unfold fitI at hf; (repeat' (split at hf)) <;> first | omega | exact absurd hf (by assumption) | exact inR_lo (by assumption) (by decide) hf | exact inR_hi (by assumption) (by decide) hf | exact hf | exact hf (by assumption)⟩))
            · skip
              refine w_pushN 1 82 (by decide +kernel) ?_
              refine w_goto 86 (by decide +kernel) ?_
              exact w_retZ (by decide +kernel) (Or.inr rfl) (hq _ (Or.inl ⟨rfl, by unfold fitI; (repeat' split) <;> first | omega | assumption | exact inR_of (by assumption) (by assumption) (by decide) (by decide)⟩))
    · skip
      refine w_pushN 0 23 (by decide +kernel) ?_
      exact w_retZ (by decide +kernel) (Or.inl rfl) (hq _ (Or.inr ⟨rfl, fun hf => by unfold fitI at hf; (repeat' (split at hf)) <;> first | omega | exact absurd hf (by assumption) | exact inR_lo (by assumption) (by decide) hf | exact inR_hi (by assumption) (by decide) hf | exact hf | exact hf (by assumption)⟩))
  · skip
    refine w_load (.iload_n 1) 5 (by decide +kernel) rfl rfl ?_
    refine w_pushN 73 7 (by decide +kernel) ?_
    refine w_cne 14 10 (by decide +kernel) (fun h11 => ?_) (fun h11 => ?_)
    · skip
      refine w_pushN 0 15 (by decide +kernel) ?_
      exact w_retZ (by decide +kernel) (Or.inl rfl) (hq _ (Or.inr ⟨rfl, fun hf => by unfold fitI at hf; (repeat' (split at hf)) <;> first | omega | exact absurd hf (by assumption) | exact inR_lo (by assumption) (by decide) hf | exact inR_hi (by assumption) (by decide) hf | exact hf | exact hf (by assumption)⟩))
    · skip
      refine w_pushN 1 11 (by decide +kernel) ?_
      refine w_goto 15 (by decide +kernel) ?_
      exact w_retZ (by decide +kernel) (Or.inr rfl) (hq _ (Or.inl ⟨rfl, by unfold fitI; (repeat' split) <;> first | omega | assumption | exact inR_of (by assumption) (by assumption) (by decide) (by decide)⟩))
-- X2_innFault
set_option maxRecDepth 10000 in
theorem k_41 {d : Nat} {M : Mt} {L : Lt} {Q : Option Value → Mt → Lt → Prop} {s n : Nat} (hI : Inv M) (hc : Sc s) (hn : n ≤ 24) (en : M s 1 = nI n) (hd : 2 ≤ d) (hq : ∀ (r : Int32), FT fitI (M (s + 1)) n r (if n % 4 = 1 then -9 else nI n) → Q (some (.int r)) M L) : Wp d 41 0 [.ref s, .null] [] M L Q := by
  refine w_pushN 0 1 (by decide +kernel) ?_
  refine w_store (ls' := [.ref s, .int (nI 0)]) (.istore_n 1) 2 (by decide +kernel) rfl rfl ?_
  have LP_2 : ∀ (kk : Nat) (g1 : Nat), g1 ≤ 24 → (∀ i, i < g1 → fitI i (M (s + 1) i)) → 24 - g1 < kk → Wp d 41 2 [.ref s, .int (nI g1)] [] M L Q := by
    intro kk
    induction kk with
    | zero => intro g1 hi0_2 hi1_2 hm_2; exact absurd hm_2 (Nat.not_lt_zero _)
    | succ kk ih_2 =>
      intro g1 hi0_2 hi1_2 hm_2
      refine w_load (.iload_n 1) 3 (by decide +kernel) rfl rfl ?_
      refine w_load (.aload_n 0) 4 (by decide +kernel) rfl rfl ?_
      refine w_getK (k := 1) 7 (by decide +kernel) hc.1.1 rfl en ?_
      refine w_cgeN 30 10 (by decide +kernel) (by omega) (by omega) (fun h1 => ?_) (fun h1 => ?_)
      · skip
        refine w_load (.aload_n 0) 31 (by decide +kernel) rfl rfl ?_
        refine w_getK (k := 1) 34 (by decide +kernel) hc.1.1 rfl en ?_
        refine w_pushN 4 35 (by decide +kernel) ?_
        refine w_remN (n % 4) 36 (by decide +kernel) (by decide) (by decide) (by omega) rfl ?_
        refine w_pushN 1 37 (by decide +kernel) ?_
        refine w_cneN 45 40 (by decide +kernel) (by omega) (by omega) (fun h2 => ?_) (fun h2 => ?_)
        · skip
          refine w_load (.aload_n 0) 46 (by decide +kernel) rfl rfl ?_
          refine w_getK (k := 1) 49 (by decide +kernel) hc.1.1 rfl en ?_
          exact w_ret (by decide +kernel) (hq _ (by first | exact Or.inl ⟨_, by omega, rfl, by assumption, by assumption⟩ | (refine Or.inr ⟨fun i hi => hi1_2 i (by omega), ?_⟩; first | rw [if_pos (by omega)] | rw [if_neg (by omega)])))
        · skip
          refine w_push (-9) 42 (by decide +kernel) ?_
          refine w_goto 49 (by decide +kernel) ?_
          exact w_ret (by decide +kernel) (hq _ (by first | exact Or.inl ⟨_, by omega, rfl, by assumption, by assumption⟩ | (refine Or.inr ⟨fun i hi => hi1_2 i (by omega), ?_⟩; first | rw [if_pos (by omega)] | rw [if_neg (by omega)])))
      · skip
        refine w_load (.iload_n 1) 11 (by decide +kernel) rfl rfl ?_
        refine w_load (.aload_n 0) 12 (by decide +kernel) rfl rfl ?_
        refine w_load (.iload_n 1) 13 (by decide +kernel) rfl rfl ?_
        refine w_callV1 40 2 2 16 (by decide +kernel) hc.1.1 (Nat.le_of_ble_eq_true rfl) rfl (by decide) (by omega) ?_
        refine s_letterAt hI hc (by omega) en (by omega) (by omega) (fun r3 hr3 => ?_)
        dsimp only [Option.toList, List.cons_append, List.nil_append]
        rcases hr3 with rfl
        · skip
          refine w_callS2 46 2 19 (by decide +kernel) (Nat.le_of_ble_eq_true rfl) rfl rfl (by decide) (by omega) ?_
          refine k_46 hI (by omega) (by omega) (fun r4 hr4 => ?_)
          dsimp only [Option.toList, List.cons_append, List.nil_append]
          rcases hr4 with ⟨rfl, hyr4⟩ | ⟨rfl, hyr4⟩
          · skip
            refine w_ine 24 22 (by decide +kernel) (fun _ => ?_) (fun hz => absurd hz (by decide))
            refine w_iincN (z := 1) (g1 + 1) 27 (by decide +kernel) rfl (Nat.le_of_ble_eq_true rfl) rfl rfl ?_
            show Wp _ _ _ [.ref s, .int (nI (g1 + 1))] _ _ _ _
            refine w_goto 2 (by decide +kernel) ?_
            exact ih_2 (g1 + 1) (by first | omega | exact lt_ext (by assumption) (by assumption)) (by first | omega | exact lt_ext (by assumption) (by assumption)) (by omega)
          · skip
            refine w_ine 24 22 (by decide +kernel) (fun hz => absurd hz (by decide)) (fun _ => ?_)
            refine w_load (.iload_n 1) 23 (by decide +kernel) rfl rfl ?_
            exact w_ret (by decide +kernel) (hq _ (by first | exact Or.inl ⟨_, by omega, rfl, by assumption, by assumption⟩ | (refine Or.inr ⟨fun i hi => hi1_2 i (by omega), ?_⟩; first | rw [if_pos (by omega)] | rw [if_neg (by omega)])))
  exact LP_2 _ 0 (by first | omega | (intro i hi; omega)) (by first | omega | (intro i hi; omega)) (Nat.lt_succ_self _)
-- X2_soundInTale
set_option maxRecDepth 10000 in
theorem k_45 {d : Nat} {M : Mt} {L : Lt} {Q : Option Value → Mt → Lt → Prop} {s n : Nat} (hI : Inv M) (hc : Sc s) (hn : n ≤ 24) (en : M s 1 = nI n) (hd : 2 ≤ d) (hq : ∀ (r : Int32), (∃ k, sndT (M (s + 1)) n k ∧ r = nI k) → Q (some (.int r)) M L) : Wp d 45 0 [.ref s, .null] [] M L Q := by
  refine w_pushN 0 1 (by decide +kernel) ?_
  refine w_store (ls' := [.ref s, .int (nI 0)]) (.istore_n 1) 2 (by decide +kernel) rfl rfl ?_
  have LP_2 : ∀ (kk : Nat) (g1 : Nat), g1 ≤ 24 → (∀ i, i < g1 → fitT i (M (s + 1) i)) → g1 ≤ n → 24 - g1 < kk → Wp d 45 2 [.ref s, .int (nI g1)] [] M L Q := by
    intro kk
    induction kk with
    | zero => intro g1 hi0_2 hi1_2 hi2_2 hm_2; exact absurd hm_2 (Nat.not_lt_zero _)
    | succ kk ih_2 =>
      intro g1 hi0_2 hi1_2 hi2_2 hm_2
      refine w_load (.iload_n 1) 3 (by decide +kernel) rfl rfl ?_
      refine w_load (.aload_n 0) 4 (by decide +kernel) rfl rfl ?_
      refine w_getK (k := 1) 7 (by decide +kernel) hc.1.1 rfl en ?_
      refine w_cgeN 30 10 (by decide +kernel) (by omega) (by omega) (fun h1 => ?_) (fun h1 => ?_)
      · skip
        refine w_load (.aload_n 0) 31 (by decide +kernel) rfl rfl ?_
        refine w_getK (k := 1) 34 (by decide +kernel) hc.1.1 rfl en ?_
        exact w_ret (by decide +kernel) (hq _ (by first | exact ⟨_, ⟨by omega, by assumption, fun _ => by assumption⟩, rfl⟩ | exact ⟨n, ⟨by omega, fun i hi => hi1_2 i (by omega), fun h => absurd h (by omega)⟩, rfl⟩))
      · skip
        refine w_load (.iload_n 1) 11 (by decide +kernel) rfl rfl ?_
        refine w_load (.aload_n 0) 12 (by decide +kernel) rfl rfl ?_
        refine w_load (.iload_n 1) 13 (by decide +kernel) rfl rfl ?_
        refine w_callV1 40 2 2 16 (by decide +kernel) hc.1.1 (Nat.le_of_ble_eq_true rfl) rfl (by decide) (by omega) ?_
        refine s_letterAt hI hc (by omega) en (by omega) (by omega) (fun r2 hr2 => ?_)
        dsimp only [Option.toList, List.cons_append, List.nil_append]
        rcases hr2 with rfl
        · skip
          refine w_callS2 47 2 19 (by decide +kernel) (Nat.le_of_ble_eq_true rfl) rfl rfl (by decide) (by omega) ?_
          refine k_47 hI (by omega) (by omega) (fun r3 hr3 => ?_)
          dsimp only [Option.toList, List.cons_append, List.nil_append]
          rcases hr3 with ⟨rfl, hyr3⟩ | ⟨rfl, hyr3⟩
          · skip
            refine w_ine 24 22 (by decide +kernel) (fun _ => ?_) (fun hz => absurd hz (by decide))
            refine w_iincN (z := 1) (g1 + 1) 27 (by decide +kernel) rfl (Nat.le_of_ble_eq_true rfl) rfl rfl ?_
            show Wp _ _ _ [.ref s, .int (nI (g1 + 1))] _ _ _ _
            refine w_goto 2 (by decide +kernel) ?_
            exact ih_2 (g1 + 1) (by first | omega | exact lt_ext (by assumption) (by assumption)) (by first | omega | exact lt_ext (by assumption) (by assumption)) (by first | omega | exact lt_ext (by assumption) (by assumption)) (by omega)
          · skip
            refine w_ine 24 22 (by decide +kernel) (fun hz => absurd hz (by decide)) (fun _ => ?_)
            refine w_load (.iload_n 1) 23 (by decide +kernel) rfl rfl ?_
            exact w_ret (by decide +kernel) (hq _ (by first | exact ⟨_, ⟨by omega, by assumption, fun _ => by assumption⟩, rfl⟩ | exact ⟨n, ⟨by omega, fun i hi => hi1_2 i (by omega), fun h => absurd h (by omega)⟩, rfl⟩))
  exact LP_2 _ 0 (by first | omega | (intro i hi; omega)) (by first | omega | (intro i hi; omega)) (by first | omega | (intro i hi; omega)) (Nat.lt_succ_self _)
-- X2_taleFault
set_option maxRecDepth 10000 in
theorem k_42 {d : Nat} {M : Mt} {L : Lt} {Q : Option Value → Mt → Lt → Prop} {s n : Nat} (hI : Inv M) (hc : Sc s) (hn : n ≤ 24) (en : M s 1 = nI n) (hd : 3 ≤ d) (hq : ∀ (r : Int32), (∃ k, sndT (M (s + 1)) n k ∧ r = if k = n ∧ n % 3 = 0 then -9 else nI k) → Q (some (.int r)) M L) : Wp d 42 0 [.ref s, .null] [] M L Q := by
  refine w_load (.aload_n 0) 1 (by decide +kernel) rfl rfl ?_
  refine w_callV0 45 2 2 4 (by decide +kernel) hc.1.1 (Nat.le_of_ble_eq_true rfl)  (by decide) (by omega) ?_
  refine k_45 hI hc (by omega) en (by omega) (fun r1 hr1 => ?_)
  dsimp only [Option.toList, List.cons_append, List.nil_append]
  rcases hr1 with ⟨kr1, hsr1, rfl⟩
  · skip
    have hlr1 := hsr1.1
    refine w_store (ls' := [.ref s, .int (nI kr1)]) (.istore_n 1) 5 (by decide +kernel) rfl rfl ?_
    refine w_load (.iload_n 1) 6 (by decide +kernel) rfl rfl ?_
    refine w_load (.aload_n 0) 7 (by decide +kernel) rfl rfl ?_
    refine w_getK (k := 1) 10 (by decide +kernel) hc.1.1 rfl en ?_
    refine w_cneN 27 13 (by decide +kernel) (by omega) (by omega) (fun h2 => ?_) (fun h2 => ?_)
    · skip
      refine w_load (.iload_n 1) 28 (by decide +kernel) rfl rfl ?_
      exact w_ret (by decide +kernel) (hq _ ⟨kr1, hsr1, (if_neg (by omega)).symm⟩)
    · skip
      refine w_load (.aload_n 0) 14 (by decide +kernel) rfl rfl ?_
      refine w_getK (k := 1) 17 (by decide +kernel) hc.1.1 rfl en ?_
      refine w_pushN 3 18 (by decide +kernel) ?_
      refine w_remN (n % 3) 19 (by decide +kernel) (by decide) (by decide) (by omega) rfl ?_
      refine w_ineN 27 22 (by decide +kernel) (by omega) (fun h3 => ?_) (fun h3 => ?_)
      · skip
        refine w_load (.iload_n 1) 28 (by decide +kernel) rfl rfl ?_
        exact w_ret (by decide +kernel) (hq _ ⟨kr1, hsr1, (if_neg (by omega)).symm⟩)
      · skip
        refine w_push (-9) 24 (by decide +kernel) ?_
        refine w_goto 28 (by decide +kernel) ?_
        exact w_ret (by decide +kernel) (hq _ ⟨kr1, hsr1, (if_pos (by omega)).symm⟩)
-- X2_wholeDeeds
set_option maxRecDepth 10000 in
theorem k_43 {d : Nat} {M : Mt} {L : Lt} {Q : Option Value → Mt → Lt → Prop} {s n : Nat} (hI : Inv M) (hc : Sc s) (hn : n ≤ 24) (en : M s 1 = nI n) (hd : 3 ≤ d) (hq : ∀ (r : Int32), (∃ k, sndT (M (s + 1)) n k ∧ r = nI (k / 3)) → Q (some (.int r)) M L) : Wp d 43 0 [.ref s] [] M L Q := by
  refine w_load (.aload_n 0) 1 (by decide +kernel) rfl rfl ?_
  refine w_callV0 45 2 2 4 (by decide +kernel) hc.1.1 (Nat.le_of_ble_eq_true rfl)  (by decide) (by omega) ?_
  refine k_45 hI hc (by omega) en (by omega) (fun r1 hr1 => ?_)
  dsimp only [Option.toList, List.cons_append, List.nil_append]
  rcases hr1 with ⟨kr1, hsr1, rfl⟩
  · skip
    have hlr1 := hsr1.1
    refine w_pushN 3 5 (by decide +kernel) ?_
    refine w_divN (kr1 / 3) 6 (by decide +kernel) (by decide) (by decide) (by omega) rfl ?_
    exact w_ret (by decide +kernel) (hq _ ⟨kr1, hsr1, rfl⟩)
-- X2_deedAt
set_option maxRecDepth 10000 in
theorem k_44 {d : Nat} {M : Mt} {L : Lt} {Q : Option Value → Mt → Lt → Prop} {s : Nat} {a : Int32} (hI : Inv M) (hc : Sc s) (hd : 1 ≤ d) (hq : ∀ (r : Int32), True → Q (some (.int r)) M L) : Wp d 44 0 [.ref s, .int a, .null, .null] [] M L Q := by
  refine w_load (.iload_n 1) 1 (by decide +kernel) rfl rfl ?_
  refine w_pushN 3 2 (by decide +kernel) ?_
  refine w_pure .imul 3 (by decide +kernel) rfl rfl ?_
  refine w_topi (fun v1 ev1 => ?_)
  refine w_store (ls' := [.ref s, .int a, .int v1, .null]) (.istore_n 2) 4 (by decide +kernel) rfl rfl ?_
  refine w_load (.aload_n 0) 5 (by decide +kernel) rfl rfl ?_
  refine w_load (.iload_n 2) 6 (by decide +kernel) rfl rfl ?_
  refine w_callV1 40 2 2 9 (by decide +kernel) hc.1.1 (Nat.le_of_ble_eq_true rfl) rfl (by decide) (by omega) ?_
  refine k_40 hI hc (by omega) (fun r2 hr2 => ?_)
  dsimp only [Option.toList, List.cons_append, List.nil_append]
  refine w_callS1 49 1 12 (by decide +kernel) (Nat.le_of_ble_eq_true rfl) rfl (by decide) (by omega) ?_
  refine k_49 hI  (by omega) (fun r3 hr3 => ?_)
  dsimp only [Option.toList, List.cons_append, List.nil_append]
  rcases hr3 with rfl
  · skip
    refine w_topi (fun v4 ev4 => ?_)
    refine w_store (ls' := [.ref s, .int a, .int v1, .int v4]) (.istore_n 3) 13 (by decide +kernel) rfl rfl ?_
    refine w_load (.iload_n 3) 14 (by decide +kernel) rfl rfl ?_
    refine w_pushN 16 16 (by decide +kernel) ?_
    refine w_pure .imul 17 (by decide +kernel) rfl rfl ?_
    refine w_load (.aload_n 0) 18 (by decide +kernel) rfl rfl ?_
    refine w_load (.iload_n 2) 19 (by decide +kernel) rfl rfl ?_
    refine w_pushN 1 20 (by decide +kernel) ?_
    refine w_pure .iadd 21 (by decide +kernel) rfl rfl ?_
    refine w_callV1 40 2 2 24 (by decide +kernel) hc.1.1 (Nat.le_of_ble_eq_true rfl) rfl (by decide) (by omega) ?_
    refine k_40 hI hc (by omega) (fun r5 hr5 => ?_)
    dsimp only [Option.toList, List.cons_append, List.nil_append]
    refine w_pushN 97 26 (by decide +kernel) ?_
    refine w_pure .isub 27 (by decide +kernel) rfl rfl ?_
    refine w_pushN 4 28 (by decide +kernel) ?_
    refine w_pure .imul 29 (by decide +kernel) rfl rfl ?_
    refine w_pure .iadd 30 (by decide +kernel) rfl rfl ?_
    refine w_load (.aload_n 0) 31 (by decide +kernel) rfl rfl ?_
    refine w_load (.iload_n 2) 32 (by decide +kernel) rfl rfl ?_
    refine w_pushN 2 33 (by decide +kernel) ?_
    refine w_pure .iadd 34 (by decide +kernel) rfl rfl ?_
    refine w_callV1 40 2 2 37 (by decide +kernel) hc.1.1 (Nat.le_of_ble_eq_true rfl) rfl (by decide) (by omega) ?_
    refine k_40 hI hc (by omega) (fun r6 hr6 => ?_)
    dsimp only [Option.toList, List.cons_append, List.nil_append]
    refine w_pure .iadd 38 (by decide +kernel) rfl rfl ?_
    refine w_pushN 97 40 (by decide +kernel) ?_
    refine w_pure .isub 41 (by decide +kernel) rfl rfl ?_
    exact w_ret (by decide +kernel) (hq _ trivial)
