theorem no_neg {a : Int32} {B : Nat} (h : a < 0) (hB : B ≤ 2 ^ 31) : ¬ ∃ k, k < B ∧ a = nI k := by
  rintro ⟨k, hk, rfl⟩
  exact nI_pos (by omega) h
theorem no_big {a : Int32} {n B : Nat} (h : nI n ≤ a) (hn : n = B ∧ n < 2 ^ 31) : ¬ ∃ k, k < B ∧ a = nI k := by
  rintro ⟨k, hk, rfl⟩
  have := (nI_leI hn.2 (show k < 2 ^ 31 by omega)).mp h
  omega
theorem no_big' {a : Int32} {n B : Nat} (h : nI n < a) (hn : n + 1 = B ∧ n < 2 ^ 31) : ¬ ∃ k, k < B ∧ a = nI k := by
  rintro ⟨k, hk, rfl⟩
  have := (nI_ltI hn.2 (show k < 2 ^ 31 by omega)).mp h
  omega
theorem rng_k {g : Int32} {n B : Nat} (h1 : ¬ g < 0) (h2 : ¬ nI n ≤ g) (hn : n = B ∧ n < 2 ^ 31) : ∃ k, k < B ∧ g = nI k := by
  obtain ⟨k, hk, rfl⟩ := nI_of h1
  obtain ⟨rfl, hn⟩ := hn
  have h3 : ¬ n ≤ k := fun e => h2 ((nI_leI hn hk).mpr e)
  exact ⟨k, by omega, rfl⟩
theorem rng_k' {g : Int32} {n B : Nat} (h1 : ¬ g < 0) (h2 : ¬ nI n < g) (hn : n + 1 = B ∧ n < 2 ^ 31) : ∃ k, k < B ∧ g = nI k := by
  obtain ⟨k, hk, rfl⟩ := nI_of h1
  obtain ⟨rfl, hn⟩ := hn
  have h3 : ¬ n < k := fun e => h2 ((nI_ltI hn hk).mpr e)
  exact ⟨k, by omega, rfl⟩
theorem rng_le {f : Int32} {m : Nat} (h1 : ¬ f < 0) (h2 : f ≤ nI m ∨ ¬ nI m < f) (hm : m < 2 ^ 31) : ∃ k, k ≤ m ∧ f = nI k := by
  obtain ⟨k, hk, rfl⟩ := nI_of h1
  rcases h2 with h2 | h2
  · exact ⟨k, (nI_leI hk hm).mp h2, rfl⟩
  · have h3 : ¬ m < k := fun e => h2 ((nI_ltI hm hk).mpr e)
    exact ⟨k, by omega, rfl⟩
theorem rng_lt {f : Int32} {m : Nat} (h1 : ¬ f < 0) (h2 : ¬ nI m ≤ f) (hm : m < 2 ^ 31) : ∃ k, k < m ∧ f = nI k := by
  obtain ⟨k, hk, rfl⟩ := nI_of h1
  have h3 : ¬ m ≤ k := fun e => h2 ((nI_leI hm hk).mpr e)
  exact ⟨k, by omega, rfl⟩
-- X7_isLetter
set_option maxRecDepth 10000 in
theorem k_110 {d : Nat} {M : Mt} {L : Lt} {Q : Option Value → Mt → Lt → Prop} {a : Int32} (hI : Inv M)  (hd : 0 ≤ d) (hq : ∀ (r : Int32), ((r = 1 ∧ ∃ k, k < 256 ∧ a = nI k) ∨ (r = 0 ∧ ¬ ∃ k, k < 256 ∧ a = nI k)) → Q (some (.int r)) M L) : Wp d 110 0 [.int a] [] M L Q := by
  refine w_load (.iload_n 0) 1 (by decide +kernel) rfl rfl ?_
  refine w_ilt 15 4 (by decide +kernel) (fun h1 => ?_) (fun h1 => ?_)
  · skip
    refine w_pushN 0 16 (by decide +kernel) ?_
    exact w_retZ (by decide +kernel) (Or.inl rfl) (hq _ (Or.inr ⟨rfl, by first | exact no_neg (by assumption) (by decide) | exact no_big (by assumption) (by decide) | exact no_big' (by assumption) (by decide)⟩))
  · skip
    refine w_load (.iload_n 0) 5 (by decide +kernel) rfl rfl ?_
    refine w_pushN 255 8 (by decide +kernel) ?_
    refine w_cgt 15 11 (by decide +kernel) (fun h2 => ?_) (fun h2 => ?_)
    · skip
      refine w_pushN 0 16 (by decide +kernel) ?_
      exact w_retZ (by decide +kernel) (Or.inl rfl) (hq _ (Or.inr ⟨rfl, by first | exact no_neg (by assumption) (by decide) | exact no_big (by assumption) (by decide) | exact no_big' (by assumption) (by decide)⟩))
    · skip
      refine w_pushN 1 12 (by decide +kernel) ?_
      refine w_goto 16 (by decide +kernel) ?_
      exact w_retZ (by decide +kernel) (Or.inr rfl) (hq _ (Or.inl ⟨rfl, by first | exact rng_k (by assumption) (by assumption) (by decide) | exact rng_k' (by assumption) (by assumption) (by decide)⟩))
-- X7_isTale
set_option maxRecDepth 10000 in
theorem k_111 {d : Nat} {M : Mt} {L : Lt} {Q : Option Value → Mt → Lt → Prop} {a : Int32} (hI : Inv M)  (hd : 0 ≤ d) (hq : ∀ (r : Int32), ((r = 1 ∧ ∃ k, k < 3 ∧ a = nI k) ∨ (r = 0 ∧ ¬ ∃ k, k < 3 ∧ a = nI k)) → Q (some (.int r)) M L) : Wp d 111 0 [.int a] [] M L Q := by
  refine w_load (.iload_n 0) 1 (by decide +kernel) rfl rfl ?_
  refine w_ilt 13 4 (by decide +kernel) (fun h1 => ?_) (fun h1 => ?_)
  · skip
    refine w_pushN 0 14 (by decide +kernel) ?_
    exact w_retZ (by decide +kernel) (Or.inl rfl) (hq _ (Or.inr ⟨rfl, by first | exact no_neg (by assumption) (by decide) | exact no_big (by assumption) (by decide) | exact no_big' (by assumption) (by decide)⟩))
  · skip
    refine w_load (.iload_n 0) 5 (by decide +kernel) rfl rfl ?_
    refine w_pushN 3 6 (by decide +kernel) ?_
    refine w_cge 13 9 (by decide +kernel) (fun h2 => ?_) (fun h2 => ?_)
    · skip
      refine w_pushN 0 14 (by decide +kernel) ?_
      exact w_retZ (by decide +kernel) (Or.inl rfl) (hq _ (Or.inr ⟨rfl, by first | exact no_neg (by assumption) (by decide) | exact no_big (by assumption) (by decide) | exact no_big' (by assumption) (by decide)⟩))
    · skip
      refine w_pushN 1 10 (by decide +kernel) ?_
      refine w_goto 14 (by decide +kernel) ?_
      exact w_retZ (by decide +kernel) (Or.inr rfl) (hq _ (Or.inl ⟨rfl, by first | exact rng_k (by assumption) (by assumption) (by decide) | exact rng_k' (by assumption) (by assumption) (by decide)⟩))
-- X7_isSlot
set_option maxRecDepth 10000 in
theorem k_112 {d : Nat} {M : Mt} {L : Lt} {Q : Option Value → Mt → Lt → Prop} {a : Int32} (hI : Inv M)  (hd : 0 ≤ d) (hq : ∀ (r : Int32), ((r = 1 ∧ ∃ k, k < 2 ∧ a = nI k) ∨ (r = 0 ∧ ¬ ∃ k, k < 2 ∧ a = nI k)) → Q (some (.int r)) M L) : Wp d 112 0 [.int a] [] M L Q := by
  refine w_load (.iload_n 0) 1 (by decide +kernel) rfl rfl ?_
  refine w_ilt 13 4 (by decide +kernel) (fun h1 => ?_) (fun h1 => ?_)
  · skip
    refine w_pushN 0 14 (by decide +kernel) ?_
    exact w_retZ (by decide +kernel) (Or.inl rfl) (hq _ (Or.inr ⟨rfl, by first | exact no_neg (by assumption) (by decide) | exact no_big (by assumption) (by decide) | exact no_big' (by assumption) (by decide)⟩))
  · skip
    refine w_load (.iload_n 0) 5 (by decide +kernel) rfl rfl ?_
    refine w_pushN 2 6 (by decide +kernel) ?_
    refine w_cge 13 9 (by decide +kernel) (fun h2 => ?_) (fun h2 => ?_)
    · skip
      refine w_pushN 0 14 (by decide +kernel) ?_
      exact w_retZ (by decide +kernel) (Or.inl rfl) (hq _ (Or.inr ⟨rfl, by first | exact no_neg (by assumption) (by decide) | exact no_big (by assumption) (by decide) | exact no_big' (by assumption) (by decide)⟩))
    · skip
      refine w_pushN 1 10 (by decide +kernel) ?_
      refine w_goto 14 (by decide +kernel) ?_
      exact w_retZ (by decide +kernel) (Or.inr rfl) (hq _ (Or.inl ⟨rfl, by first | exact rng_k (by assumption) (by assumption) (by decide) | exact rng_k' (by assumption) (by assumption) (by decide)⟩))
-- X7_isName
set_option maxRecDepth 10000 in
theorem k_113 {d : Nat} {M : Mt} {L : Lt} {Q : Option Value → Mt → Lt → Prop} {a : Int32} (hI : Inv M)  (hd : 0 ≤ d) (hq : ∀ (r : Int32), ((r = 1 ∧ ∃ k, k < 4 ∧ a = nI k) ∨ (r = 0 ∧ ¬ ∃ k, k < 4 ∧ a = nI k)) → Q (some (.int r)) M L) : Wp d 113 0 [.int a] [] M L Q := by
  refine w_load (.iload_n 0) 1 (by decide +kernel) rfl rfl ?_
  refine w_ilt 13 4 (by decide +kernel) (fun h1 => ?_) (fun h1 => ?_)
  · skip
    refine w_pushN 0 14 (by decide +kernel) ?_
    exact w_retZ (by decide +kernel) (Or.inl rfl) (hq _ (Or.inr ⟨rfl, by first | exact no_neg (by assumption) (by decide) | exact no_big (by assumption) (by decide) | exact no_big' (by assumption) (by decide)⟩))
  · skip
    refine w_load (.iload_n 0) 5 (by decide +kernel) rfl rfl ?_
    refine w_pushN 4 6 (by decide +kernel) ?_
    refine w_cge 13 9 (by decide +kernel) (fun h2 => ?_) (fun h2 => ?_)
    · skip
      refine w_pushN 0 14 (by decide +kernel) ?_
      exact w_retZ (by decide +kernel) (Or.inl rfl) (hq _ (Or.inr ⟨rfl, by first | exact no_neg (by assumption) (by decide) | exact no_big (by assumption) (by decide) | exact no_big' (by assumption) (by decide)⟩))
    · skip
      refine w_pushN 1 10 (by decide +kernel) ?_
      refine w_goto 14 (by decide +kernel) ?_
      exact w_retZ (by decide +kernel) (Or.inr rfl) (hq _ (Or.inl ⟨rfl, by first | exact rng_k (by assumption) (by assumption) (by decide) | exact rng_k' (by assumption) (by assumption) (by decide)⟩))
-- X7_isTenths
set_option maxRecDepth 10000 in
theorem k_114 {d : Nat} {M : Mt} {L : Lt} {Q : Option Value → Mt → Lt → Prop} {a : Int32} (hI : Inv M)  (hd : 0 ≤ d) (hq : ∀ (r : Int32), ((r = 1 ∧ ∃ k, k < 11 ∧ a = nI k) ∨ (r = 0 ∧ ¬ ∃ k, k < 11 ∧ a = nI k)) → Q (some (.int r)) M L) : Wp d 114 0 [.int a] [] M L Q := by
  refine w_load (.iload_n 0) 1 (by decide +kernel) rfl rfl ?_
  refine w_ilt 14 4 (by decide +kernel) (fun h1 => ?_) (fun h1 => ?_)
  · skip
    refine w_pushN 0 15 (by decide +kernel) ?_
    exact w_retZ (by decide +kernel) (Or.inl rfl) (hq _ (Or.inr ⟨rfl, by first | exact no_neg (by assumption) (by decide) | exact no_big (by assumption) (by decide) | exact no_big' (by assumption) (by decide)⟩))
  · skip
    refine w_load (.iload_n 0) 5 (by decide +kernel) rfl rfl ?_
    refine w_pushN 10 7 (by decide +kernel) ?_
    refine w_cgt 14 10 (by decide +kernel) (fun h2 => ?_) (fun h2 => ?_)
    · skip
      refine w_pushN 0 15 (by decide +kernel) ?_
      exact w_retZ (by decide +kernel) (Or.inl rfl) (hq _ (Or.inr ⟨rfl, by first | exact no_neg (by assumption) (by decide) | exact no_big (by assumption) (by decide) | exact no_big' (by assumption) (by decide)⟩))
    · skip
      refine w_pushN 1 11 (by decide +kernel) ?_
      refine w_goto 15 (by decide +kernel) ?_
      exact w_retZ (by decide +kernel) (Or.inr rfl) (hq _ (Or.inl ⟨rfl, by first | exact rng_k (by assumption) (by assumption) (by decide) | exact rng_k' (by assumption) (by assumption) (by decide)⟩))
-- X7_holds
set_option maxRecDepth 10000 in
theorem k_115 {d : Nat} {M : Mt} {L : Lt} {Q : Option Value → Mt → Lt → Prop} {a : Int32} {b : Int32} (hI : Inv M)  (hd : 0 ≤ d) (hq : ∀ (r : Int32), (r = 0 ∨ r = 1) → Q (some (.int r)) M L) : Wp d 115 0 [.int a, .int b] [] M L Q := by
  refine w_load (.iload_n 0) 1 (by decide +kernel) rfl rfl ?_
  refine w_load (.iload_n 1) 2 (by decide +kernel) rfl rfl ?_
  refine w_pure .ishr 3 (by decide +kernel) rfl rfl ?_
  refine w_pushN 1 4 (by decide +kernel) ?_
  refine w_pure .iand 5 (by decide +kernel) rfl rfl ?_
  refine w_ieq 12 8 (by decide +kernel) (fun h1 => ?_) (fun h1 => ?_)
  · skip
    refine w_pushN 0 13 (by decide +kernel) ?_
    exact w_retZ (by decide +kernel) (Or.inl rfl) (hq _ (Or.inl rfl))
  · skip
    refine w_pushN 1 9 (by decide +kernel) ?_
    refine w_goto 13 (by decide +kernel) ?_
    exact w_retZ (by decide +kernel) (Or.inr rfl) (hq _ (Or.inr rfl))
-- X1_has
set_option maxRecDepth 10000 in
theorem k_11 {d : Nat} {M : Mt} {L : Lt} {Q : Option Value → Mt → Lt → Prop} {h n : Nat} {g : Int32} (hI : Inv M) (hh : Hs h) (hn : n ≤ 5) (en : M h 2 = nI n) (hd : 0 ≤ d) (hq : ∀ (r : Int32), ((r = 1 ∧ ∃ k, k < n ∧ g = nI k) ∨ (r = 0 ∧ ¬ ∃ k, k < n ∧ g = nI k)) → Q (some (.int r)) M L) : Wp d 11 0 [.ref h, .int g] [] M L Q := by
  refine w_load (.iload_n 1) 1 (by decide +kernel) rfl rfl ?_
  refine w_ilt 16 4 (by decide +kernel) (fun h1 => ?_) (fun h1 => ?_)
  · skip
    refine w_pushN 0 17 (by decide +kernel) ?_
    exact w_retZ (by decide +kernel) (Or.inl rfl) (hq _ (Or.inr ⟨rfl, by first | exact no_neg (by assumption) (by omega) | exact no_big (by assumption) ⟨rfl, by omega⟩⟩))
  · skip
    refine w_load (.iload_n 1) 5 (by decide +kernel) rfl rfl ?_
    refine w_load (.aload_n 0) 6 (by decide +kernel) rfl rfl ?_
    refine w_getK (k := 2) 9 (by decide +kernel) hh.1.1 rfl en ?_
    refine w_cge 16 12 (by decide +kernel) (fun h2 => ?_) (fun h2 => ?_)
    · skip
      refine w_pushN 0 17 (by decide +kernel) ?_
      exact w_retZ (by decide +kernel) (Or.inl rfl) (hq _ (Or.inr ⟨rfl, by first | exact no_neg (by assumption) (by omega) | exact no_big (by assumption) ⟨rfl, by omega⟩⟩))
    · skip
      refine w_pushN 1 13 (by decide +kernel) ?_
      refine w_goto 17 (by decide +kernel) ?_
      exact w_retZ (by decide +kernel) (Or.inr rfl) (hq _ (Or.inl ⟨rfl, rng_lt (by assumption) (by assumption) (by omega)⟩))
-- X1_nameOf
set_option maxRecDepth 10000 in
theorem k_12 {d : Nat} {M : Mt} {L : Lt} {Q : Option Value → Mt → Lt → Prop} {h : Nat} {g : Int32} (hI : Inv M) (hh : Hs h) (hd : 1 ≤ d) (hq : ∀ (r : Int32), True → Q (some (.int r)) M L) : Wp d 12 0 [.ref h, .int g] [] M L Q := by
  refine w_load (.aload_n 0) 1 (by decide +kernel) rfl rfl ?_
  refine w_load (.iload_n 1) 2 (by decide +kernel) rfl rfl ?_
  refine w_callV1 11 1 2 5 (by decide +kernel) hh.1.1 (Nat.le_of_ble_eq_true rfl) rfl (by decide) (by omega) ?_
  obtain ⟨n1, hn1, en1⟩ := inv_h hI hh
  refine k_11 hI hh (by omega) en1 (by omega) (fun r2 hr2 => ?_)
  dsimp only [Option.toList, List.cons_append, List.nil_append]
  rcases hr2 with ⟨rfl, k3, hk3, rfl⟩ | ⟨rfl, hnok3⟩
  · skip
    refine w_ieq 19 8 (by decide +kernel) (fun hz => absurd hz (by decide)) (fun _ => ?_)
    refine w_load (.aload_n 0) 9 (by decide +kernel) rfl rfl ?_
    refine w_getR (k := 0) (r := h + 1) 12 (by decide +kernel) hh.1.1 rfl ?_
    refine w_pushN 0 13 (by decide +kernel) ?_
    refine w_load (.iload_n 1) 14 (by decide +kernel) rfl rfl ?_
    refine w_addN k3 15 (by decide +kernel) (by omega) ?_
    refine w_ialdN 16 (by decide +kernel) hh.1.2.1 (by omega) (by omega) ?_
    refine w_goto 21 (by decide +kernel) ?_
    exact w_ret (by decide +kernel) (hq _ trivial)
  · skip
    refine w_ieq 19 8 (by decide +kernel) (fun _ => ?_) (fun hz => absurd hz (by decide))
    refine w_push (-9) 21 (by decide +kernel) ?_
    exact w_ret (by decide +kernel) (hq _ trivial)
-- X1_purseOf
set_option maxRecDepth 10000 in
theorem k_13 {d : Nat} {M : Mt} {L : Lt} {Q : Option Value → Mt → Lt → Prop} {h : Nat} {g : Int32} (hI : Inv M) (hh : Hs h) (hd : 1 ≤ d) (hq : ∀ (r : Int32), True → Q (some (.int r)) M L) : Wp d 13 0 [.ref h, .int g] [] M L Q := by
  refine w_load (.aload_n 0) 1 (by decide +kernel) rfl rfl ?_
  refine w_load (.iload_n 1) 2 (by decide +kernel) rfl rfl ?_
  refine w_callV1 11 1 2 5 (by decide +kernel) hh.1.1 (Nat.le_of_ble_eq_true rfl) rfl (by decide) (by omega) ?_
  obtain ⟨n1, hn1, en1⟩ := inv_h hI hh
  refine k_11 hI hh (by omega) en1 (by omega) (fun r2 hr2 => ?_)
  dsimp only [Option.toList, List.cons_append, List.nil_append]
  rcases hr2 with ⟨rfl, k3, hk3, rfl⟩ | ⟨rfl, hnok3⟩
  · skip
    refine w_ieq 19 8 (by decide +kernel) (fun hz => absurd hz (by decide)) (fun _ => ?_)
    refine w_load (.aload_n 0) 9 (by decide +kernel) rfl rfl ?_
    refine w_getR (k := 0) (r := h + 1) 12 (by decide +kernel) hh.1.1 rfl ?_
    refine w_pushN 5 13 (by decide +kernel) ?_
    refine w_load (.iload_n 1) 14 (by decide +kernel) rfl rfl ?_
    refine w_addN (5 + k3) 15 (by decide +kernel) (by omega) ?_
    refine w_ialdN 16 (by decide +kernel) hh.1.2.1 (by omega) (by omega) ?_
    refine w_goto 20 (by decide +kernel) ?_
    exact w_ret (by decide +kernel) (hq _ trivial)
  · skip
    refine w_ieq 19 8 (by decide +kernel) (fun _ => ?_) (fun hz => absurd hz (by decide))
    refine w_pushN 0 20 (by decide +kernel) ?_
    exact w_ret (by decide +kernel) (hq _ trivial)
-- X1_spouseOf
set_option maxRecDepth 10000 in
theorem k_14 {d : Nat} {M : Mt} {L : Lt} {Q : Option Value → Mt → Lt → Prop} {h : Nat} {g : Int32} (hI : Inv M) (hh : Hs h) (hd : 1 ≤ d) (hq : ∀ (r : Int32), True → Q (some (.int r)) M L) : Wp d 14 0 [.ref h, .int g] [] M L Q := by
  refine w_load (.aload_n 0) 1 (by decide +kernel) rfl rfl ?_
  refine w_load (.iload_n 1) 2 (by decide +kernel) rfl rfl ?_
  refine w_callV1 11 1 2 5 (by decide +kernel) hh.1.1 (Nat.le_of_ble_eq_true rfl) rfl (by decide) (by omega) ?_
  obtain ⟨n1, hn1, en1⟩ := inv_h hI hh
  refine k_11 hI hh (by omega) en1 (by omega) (fun r2 hr2 => ?_)
  dsimp only [Option.toList, List.cons_append, List.nil_append]
  rcases hr2 with ⟨rfl, k3, hk3, rfl⟩ | ⟨rfl, hnok3⟩
  · skip
    refine w_ieq 20 8 (by decide +kernel) (fun hz => absurd hz (by decide)) (fun _ => ?_)
    refine w_load (.aload_n 0) 9 (by decide +kernel) rfl rfl ?_
    refine w_getR (k := 0) (r := h + 1) 12 (by decide +kernel) hh.1.1 rfl ?_
    refine w_pushN 10 14 (by decide +kernel) ?_
    refine w_load (.iload_n 1) 15 (by decide +kernel) rfl rfl ?_
    refine w_addN (10 + k3) 16 (by decide +kernel) (by omega) ?_
    refine w_ialdN 17 (by decide +kernel) hh.1.2.1 (by omega) (by omega) ?_
    refine w_goto 22 (by decide +kernel) ?_
    exact w_ret (by decide +kernel) (hq _ trivial)
  · skip
    refine w_ieq 20 8 (by decide +kernel) (fun _ => ?_) (fun hz => absurd hz (by decide))
    refine w_push (-9) 22 (by decide +kernel) ?_
    exact w_ret (by decide +kernel) (hq _ trivial)
-- X1_powerOf
set_option maxRecDepth 10000 in
theorem k_15 {d : Nat} {M : Mt} {L : Lt} {Q : Option Value → Mt → Lt → Prop} {h : Nat} {g : Int32} (hI : Inv M) (hh : Hs h) (hd : 1 ≤ d) (hq : ∀ (r : Int32), True → Q (some (.int r)) M L) : Wp d 15 0 [.ref h, .int g] [] M L Q := by
  refine w_load (.aload_n 0) 1 (by decide +kernel) rfl rfl ?_
  refine w_load (.iload_n 1) 2 (by decide +kernel) rfl rfl ?_
  refine w_callV1 11 1 2 5 (by decide +kernel) hh.1.1 (Nat.le_of_ble_eq_true rfl) rfl (by decide) (by omega) ?_
  obtain ⟨n1, hn1, en1⟩ := inv_h hI hh
  refine k_11 hI hh (by omega) en1 (by omega) (fun r2 hr2 => ?_)
  dsimp only [Option.toList, List.cons_append, List.nil_append]
  rcases hr2 with ⟨rfl, k3, hk3, rfl⟩ | ⟨rfl, hnok3⟩
  · skip
    refine w_ieq 17 8 (by decide +kernel) (fun hz => absurd hz (by decide)) (fun _ => ?_)
    refine w_load (.aload_n 0) 9 (by decide +kernel) rfl rfl ?_
    refine w_getR (k := 1) (r := h + 2) 12 (by decide +kernel) hh.1.1 rfl ?_
    refine w_load (.iload_n 1) 13 (by decide +kernel) rfl rfl ?_
    refine w_ialdN 14 (by decide +kernel) hh.1.2.2 (by omega) (by omega) ?_
    refine w_goto 18 (by decide +kernel) ?_
    exact w_ret (by decide +kernel) (hq _ trivial)
  · skip
    refine w_ieq 17 8 (by decide +kernel) (fun _ => ?_) (fun hz => absurd hz (by decide))
    refine w_pushN 0 18 (by decide +kernel) ?_
    exact w_ret (by decide +kernel) (hq _ trivial)
-- X1_size
set_option maxRecDepth 10000 in
theorem k_10 {d : Nat} {M : Mt} {L : Lt} {Q : Option Value → Mt → Lt → Prop} {h n : Nat} (hI : Inv M) (hh : Hs h) (hn : n ≤ 5) (en : M h 2 = nI n) (hd : 0 ≤ d) (hq : ∀ (r : Int32), (r = nI n) → Q (some (.int r)) M L) : Wp d 10 0 [.ref h] [] M L Q := by
  refine w_load (.aload_n 0) 1 (by decide +kernel) rfl rfl ?_
  refine w_getK (k := 2) 4 (by decide +kernel) hh.1.1 rfl en ?_
  exact w_ret (by decide +kernel) (hq _ rfl)
-- X1_lives
set_option maxRecDepth 10000 in
theorem k_16 {d : Nat} {M : Mt} {L : Lt} {Q : Option Value → Mt → Lt → Prop} {h : Nat} {g : Int32} (hI : Inv M) (hh : Hs h) (hd : 1 ≤ d) (hq : ∀ (r : Int32), (r = 0 ∨ r = 1) → Q (some (.int r)) M L) : Wp d 16 0 [.ref h, .int g] [] M L Q := by
  refine w_load (.aload_n 0) 1 (by decide +kernel) rfl rfl ?_
  refine w_load (.iload_n 1) 2 (by decide +kernel) rfl rfl ?_
  refine w_callV1 11 1 2 5 (by decide +kernel) hh.1.1 (Nat.le_of_ble_eq_true rfl) rfl (by decide) (by omega) ?_
  obtain ⟨n1, hn1, en1⟩ := inv_h hI hh
  refine k_11 hI hh (by omega) en1 (by omega) (fun r2 hr2 => ?_)
  dsimp only [Option.toList, List.cons_append, List.nil_append]
  rcases hr2 with ⟨rfl, k3, hk3, rfl⟩ | ⟨rfl, hnok3⟩
  · skip
    refine w_ieq 26 8 (by decide +kernel) (fun hz => absurd hz (by decide)) (fun _ => ?_)
    refine w_load (.aload_n 0) 9 (by decide +kernel) rfl rfl ?_
    refine w_getR (k := 0) (r := h + 1) 12 (by decide +kernel) hh.1.1 rfl ?_
    refine w_pushN 15 14 (by decide +kernel) ?_
    refine w_ialdN 15 (by decide +kernel) hh.1.2.1 (by omega) (by omega) ?_
    refine w_load (.iload_n 1) 16 (by decide +kernel) rfl rfl ?_
    refine w_callS2 115 2 19 (by decide +kernel) (Nat.le_of_ble_eq_true rfl) rfl rfl (by decide) (by omega) ?_
    refine k_115 hI  (by omega) (fun r5 hr5 => ?_)
    dsimp only [Option.toList, List.cons_append, List.nil_append]
    refine w_ieq 26 22 (by decide +kernel) (fun h6 => ?_) (fun h6 => ?_)
    · skip
      refine w_pushN 0 27 (by decide +kernel) ?_
      exact w_retZ (by decide +kernel) (Or.inl rfl) (hq _ (Or.inl rfl))
    · skip
      refine w_pushN 1 23 (by decide +kernel) ?_
      refine w_goto 27 (by decide +kernel) ?_
      exact w_retZ (by decide +kernel) (Or.inr rfl) (hq _ (Or.inr rfl))
  · skip
    refine w_ieq 26 8 (by decide +kernel) (fun _ => ?_) (fun hz => absurd hz (by decide))
    refine w_pushN 0 27 (by decide +kernel) ?_
    exact w_retZ (by decide +kernel) (Or.inl rfl) (hq _ (Or.inl rfl))
-- X1_worthOf
set_option maxRecDepth 10000 in
theorem k_17 {d : Nat} {M : Mt} {L : Lt} {Q : Option Value → Mt → Lt → Prop} {h : Nat} {g : Int32} (hI : Inv M) (hh : Hs h) (hd : 2 ≤ d) (hq : ∀ (r : Int32), True → Q (some (.int r)) M L) : Wp d 17 0 [.ref h, .int g] [] M L Q := by
  refine w_load (.aload_n 0) 1 (by decide +kernel) rfl rfl ?_
  refine w_load (.iload_n 1) 2 (by decide +kernel) rfl rfl ?_
  refine w_callV1 16 1 2 5 (by decide +kernel) hh.1.1 (Nat.le_of_ble_eq_true rfl) rfl (by decide) (by omega) ?_
  refine k_16 hI hh (by omega) (fun r1 hr1 => ?_)
  dsimp only [Option.toList, List.cons_append, List.nil_append]
  refine w_ieq 19 8 (by decide +kernel) (fun h2 => ?_) (fun h2 => ?_)
  · skip
    refine w_pushN 0 20 (by decide +kernel) ?_
    exact w_ret (by decide +kernel) (hq _ trivial)
  · skip
    refine w_load (.aload_n 0) 9 (by decide +kernel) rfl rfl ?_
    refine w_load (.iload_n 1) 10 (by decide +kernel) rfl rfl ?_
    refine w_callV1 13 1 2 13 (by decide +kernel) hh.1.1 (Nat.le_of_ble_eq_true rfl) rfl (by decide) (by omega) ?_
    refine k_13 hI hh (by omega) (fun r3 hr3 => ?_)
    dsimp only [Option.toList, List.cons_append, List.nil_append]
    refine w_pushN 20 15 (by decide +kernel) ?_
    refine w_pure .iadd 16 (by decide +kernel) rfl rfl ?_
    refine w_goto 20 (by decide +kernel) ?_
    exact w_ret (by decide +kernel) (hq _ trivial)
-- X1_everyone
set_option maxRecDepth 10000 in
theorem k_18 {d : Nat} {M : Mt} {L : Lt} {Q : Option Value → Mt → Lt → Prop} {h : Nat}  (hI : Inv M) (hh : Hs h) (hd : 0 ≤ d) (hq : ∀ (r : Int32), True → Q (some (.int r)) M L) : Wp d 18 0 [.ref h] [] M L Q := by
  refine w_pushN 1 1 (by decide +kernel) ?_
  refine w_load (.aload_n 0) 2 (by decide +kernel) rfl rfl ?_
  refine w_getN (B := 5) (k := 2) 5 (by decide +kernel) hh.1.1 rfl (inv_h hI hh) (fun n1 hn1 en1 => ?_)
  refine w_pure .ishl 6 (by decide +kernel) rfl rfl ?_
  refine w_pushN 1 7 (by decide +kernel) ?_
  refine w_pure .isub 8 (by decide +kernel) rfl rfl ?_
  exact w_ret (by decide +kernel) (hq _ trivial)
-- X1_living
set_option maxRecDepth 10000 in
theorem k_19 {d : Nat} {M : Mt} {L : Lt} {Q : Option Value → Mt → Lt → Prop} {h : Nat}  (hI : Inv M) (hh : Hs h) (hd : 0 ≤ d) (hq : ∀ (r : Int32), True → Q (some (.int r)) M L) : Wp d 19 0 [.ref h] [] M L Q := by
  refine w_load (.aload_n 0) 1 (by decide +kernel) rfl rfl ?_
  refine w_getR (k := 0) (r := h + 1) 4 (by decide +kernel) hh.1.1 rfl ?_
  refine w_pushN 15 6 (by decide +kernel) ?_
  refine w_ialdN 7 (by decide +kernel) hh.1.2.1 (by omega) (by omega) ?_
  exact w_ret (by decide +kernel) (hq _ trivial)
-- X1_dead
set_option maxRecDepth 10000 in
theorem k_20 {d : Nat} {M : Mt} {L : Lt} {Q : Option Value → Mt → Lt → Prop} {h : Nat}  (hI : Inv M) (hh : Hs h) (hd : 1 ≤ d) (hq : ∀ (r : Int32), True → Q (some (.int r)) M L) : Wp d 20 0 [.ref h] [] M L Q := by
  refine w_load (.aload_n 0) 1 (by decide +kernel) rfl rfl ?_
  refine w_callV0 18 1 1 4 (by decide +kernel) hh.1.1 (Nat.le_of_ble_eq_true rfl)  (by decide) (by omega) ?_
  refine k_18 hI hh (by omega) (fun r1 hr1 => ?_)
  dsimp only [Option.toList, List.cons_append, List.nil_append]
  refine w_load (.aload_n 0) 5 (by decide +kernel) rfl rfl ?_
  refine w_getR (k := 0) (r := h + 1) 8 (by decide +kernel) hh.1.1 rfl ?_
  refine w_pushN 15 10 (by decide +kernel) ?_
  refine w_ialdN 11 (by decide +kernel) hh.1.2.1 (by omega) (by omega) ?_
  refine w_push (-1) 12 (by decide +kernel) ?_
  refine w_pure .ixor 13 (by decide +kernel) rfl rfl ?_
  refine w_pure .iand 14 (by decide +kernel) rfl rfl ?_
  exact w_ret (by decide +kernel) (hq _ trivial)
-- X1_nightsPast
set_option maxRecDepth 10000 in
theorem k_21 {d : Nat} {M : Mt} {L : Lt} {Q : Option Value → Mt → Lt → Prop} {h : Nat}  (hI : Inv M) (hh : Hs h) (hd : 0 ≤ d) (hq : ∀ (r : Int32), True → Q (some (.int r)) M L) : Wp d 21 0 [.ref h] [] M L Q := by
  refine w_load (.aload_n 0) 1 (by decide +kernel) rfl rfl ?_
  refine w_getR (k := 0) (r := h + 1) 4 (by decide +kernel) hh.1.1 rfl ?_
  refine w_pushN 16 6 (by decide +kernel) ?_
  refine w_ialdN 7 (by decide +kernel) hh.1.2.1 (by omega) (by omega) ?_
  exact w_ret (by decide +kernel) (hq _ trivial)
-- X1_wedded
set_option maxRecDepth 10000 in
theorem k_22 {d : Nat} {M : Mt} {L : Lt} {Q : Option Value → Mt → Lt → Prop} {h : Nat}  (hI : Inv M) (hh : Hs h) (hd : 0 ≤ d) (hq : ∀ (r : Int32), True → Q (some (.int r)) M L) : Wp d 22 0 [.ref h, .null, .null] [] M L Q := by
  refine w_pushN 0 1 (by decide +kernel) ?_
  refine w_store (ls' := [.ref h, .int (nI 0), .null]) (.istore_n 1) 2 (by decide +kernel) rfl rfl ?_
  refine w_pushN 0 3 (by decide +kernel) ?_
  refine w_store (ls' := [.ref h, .int (nI 0), .int (nI 0)]) (.istore_n 2) 4 (by decide +kernel) rfl rfl ?_
  have LP_4 : ∀ (kk : Nat) (x1_4 : Int32) (g2 : Nat), g2 ≤ 5 → 5 - g2 < kk → Wp d 22 4 [.ref h, .int x1_4, .int (nI g2)] [] M L Q := by
    intro kk
    induction kk with
    | zero => intro x1_4 g2 hi0_4 hm_4; exact absurd hm_4 (Nat.not_lt_zero _)
    | succ kk ih_4 =>
      intro x1_4 g2 hi0_4 hm_4
      refine w_load (.iload_n 2) 5 (by decide +kernel) rfl rfl ?_
      refine w_load (.aload_n 0) 6 (by decide +kernel) rfl rfl ?_
      refine w_getN (B := 5) (k := 2) 9 (by decide +kernel) hh.1.1 rfl (inv_h hI hh) (fun n1 hn1 en1 => ?_)
      refine w_cgeN 42 12 (by decide +kernel) (by omega) (by omega) (fun h2 => ?_) (fun h2 => ?_)
      · skip
        refine w_load (.iload_n 1) 43 (by decide +kernel) rfl rfl ?_
        exact w_ret (by decide +kernel) (hq _ trivial)
      · skip
        refine w_load (.iload_n 1) 13 (by decide +kernel) rfl rfl ?_
        refine w_load (.aload_n 0) 14 (by decide +kernel) rfl rfl ?_
        refine w_getR (k := 0) (r := h + 1) 17 (by decide +kernel) hh.1.1 rfl ?_
        refine w_pushN 10 19 (by decide +kernel) ?_
        refine w_load (.iload_n 2) 20 (by decide +kernel) rfl rfl ?_
        refine w_addN (10 + g2) 21 (by decide +kernel) (by omega) ?_
        refine w_ialdN 22 (by decide +kernel) hh.1.2.1 (by omega) (by omega) ?_
        refine w_push (-9) 24 (by decide +kernel) ?_
        refine w_ceq 33 27 (by decide +kernel) (fun h3 => ?_) (fun h3 => ?_)
        · skip
          refine w_pushN 0 34 (by decide +kernel) ?_
          refine w_pure .ior 35 (by decide +kernel) rfl rfl ?_
          refine w_topi (fun v4 ev4 => ?_)
          refine w_store (ls' := [.ref h, .int v4, .int (nI g2)]) (.istore_n 1) 36 (by decide +kernel) rfl rfl ?_
          refine w_iincN (z := 2) (g2 + 1) 39 (by decide +kernel) rfl (Nat.le_of_ble_eq_true rfl) rfl rfl ?_
          show Wp _ _ _ [.ref h, .int v4, .int (nI (g2 + 1))] _ _ _ _
          refine w_goto 4 (by decide +kernel) ?_
          exact ih_4 _ (g2 + 1) (by omega) (by omega)
        · skip
          refine w_pushN 1 28 (by decide +kernel) ?_
          refine w_load (.iload_n 2) 29 (by decide +kernel) rfl rfl ?_
          refine w_pure .ishl 30 (by decide +kernel) rfl rfl ?_
          refine w_goto 34 (by decide +kernel) ?_
          refine w_pure .ior 35 (by decide +kernel) rfl rfl ?_
          refine w_topi (fun v5 ev5 => ?_)
          refine w_store (ls' := [.ref h, .int v5, .int (nI g2)]) (.istore_n 1) 36 (by decide +kernel) rfl rfl ?_
          refine w_iincN (z := 2) (g2 + 1) 39 (by decide +kernel) rfl (Nat.le_of_ble_eq_true rfl) rfl rfl ?_
          show Wp _ _ _ [.ref h, .int v5, .int (nI (g2 + 1))] _ _ _ _
          refine w_goto 4 (by decide +kernel) ?_
          exact ih_4 _ (g2 + 1) (by omega) (by omega)
  exact LP_4 _ _ 0 (by omega) (Nat.lt_succ_self _)
-- X1_coinsOfAll
set_option maxRecDepth 10000 in
theorem k_23 {d : Nat} {M : Mt} {L : Lt} {Q : Option Value → Mt → Lt → Prop} {h : Nat}  (hI : Inv M) (hh : Hs h) (hd : 0 ≤ d) (hq : ∀ (r : Int32), True → Q (some (.int r)) M L) : Wp d 23 0 [.ref h, .null, .null] [] M L Q := by
  refine w_pushN 0 1 (by decide +kernel) ?_
  refine w_store (ls' := [.ref h, .int (nI 0), .null]) (.istore_n 1) 2 (by decide +kernel) rfl rfl ?_
  refine w_pushN 0 3 (by decide +kernel) ?_
  refine w_store (ls' := [.ref h, .int (nI 0), .int (nI 0)]) (.istore_n 2) 4 (by decide +kernel) rfl rfl ?_
  have LP_4 : ∀ (kk : Nat) (x1_4 : Int32) (g2 : Nat), g2 ≤ 5 → 5 - g2 < kk → Wp d 23 4 [.ref h, .int x1_4, .int (nI g2)] [] M L Q := by
    intro kk
    induction kk with
    | zero => intro x1_4 g2 hi0_4 hm_4; exact absurd hm_4 (Nat.not_lt_zero _)
    | succ kk ih_4 =>
      intro x1_4 g2 hi0_4 hm_4
      refine w_load (.iload_n 2) 5 (by decide +kernel) rfl rfl ?_
      refine w_load (.aload_n 0) 6 (by decide +kernel) rfl rfl ?_
      refine w_getN (B := 5) (k := 2) 9 (by decide +kernel) hh.1.1 rfl (inv_h hI hh) (fun n1 hn1 en1 => ?_)
      refine w_cgeN 29 12 (by decide +kernel) (by omega) (by omega) (fun h2 => ?_) (fun h2 => ?_)
      · skip
        refine w_load (.iload_n 1) 30 (by decide +kernel) rfl rfl ?_
        exact w_ret (by decide +kernel) (hq _ trivial)
      · skip
        refine w_load (.iload_n 1) 13 (by decide +kernel) rfl rfl ?_
        refine w_load (.aload_n 0) 14 (by decide +kernel) rfl rfl ?_
        refine w_getR (k := 0) (r := h + 1) 17 (by decide +kernel) hh.1.1 rfl ?_
        refine w_pushN 5 18 (by decide +kernel) ?_
        refine w_load (.iload_n 2) 19 (by decide +kernel) rfl rfl ?_
        refine w_addN (5 + g2) 20 (by decide +kernel) (by omega) ?_
        refine w_ialdN 21 (by decide +kernel) hh.1.2.1 (by omega) (by omega) ?_
        refine w_pure .iadd 22 (by decide +kernel) rfl rfl ?_
        refine w_topi (fun v3 ev3 => ?_)
        refine w_store (ls' := [.ref h, .int v3, .int (nI g2)]) (.istore_n 1) 23 (by decide +kernel) rfl rfl ?_
        refine w_iincN (z := 2) (g2 + 1) 26 (by decide +kernel) rfl (Nat.le_of_ble_eq_true rfl) rfl rfl ?_
        show Wp _ _ _ [.ref h, .int v3, .int (nI (g2 + 1))] _ _ _ _
        refine w_goto 4 (by decide +kernel) ?_
        exact ih_4 _ (g2 + 1) (by omega) (by omega)
  exact LP_4 _ _ 0 (by omega) (Nat.lt_succ_self _)
-- X1_bearing
set_option maxRecDepth 10000 in
theorem k_24 {d : Nat} {M : Mt} {L : Lt} {Q : Option Value → Mt → Lt → Prop} {h : Nat} {a : Int32} (hI : Inv M) (hh : Hs h) (hd : 0 ≤ d) (hq : ∀ (r : Int32), True → Q (some (.int r)) M L) : Wp d 24 0 [.ref h, .int a, .null, .null] [] M L Q := by
  refine w_pushN 0 1 (by decide +kernel) ?_
  refine w_store (ls' := [.ref h, .int a, .int (nI 0), .null]) (.istore_n 2) 2 (by decide +kernel) rfl rfl ?_
  refine w_pushN 0 3 (by decide +kernel) ?_
  refine w_store (ls' := [.ref h, .int a, .int (nI 0), .int (nI 0)]) (.istore_n 3) 4 (by decide +kernel) rfl rfl ?_
  have LP_4 : ∀ (kk : Nat) (x2_4 : Int32) (g3 : Nat), g3 ≤ 5 → 5 - g3 < kk → Wp d 24 4 [.ref h, .int a, .int x2_4, .int (nI g3)] [] M L Q := by
    intro kk
    induction kk with
    | zero => intro x2_4 g3 hi0_4 hm_4; exact absurd hm_4 (Nat.not_lt_zero _)
    | succ kk ih_4 =>
      intro x2_4 g3 hi0_4 hm_4
      refine w_load (.iload_n 3) 5 (by decide +kernel) rfl rfl ?_
      refine w_load (.aload_n 0) 6 (by decide +kernel) rfl rfl ?_
      refine w_getN (B := 5) (k := 2) 9 (by decide +kernel) hh.1.1 rfl (inv_h hI hh) (fun n1 hn1 en1 => ?_)
      refine w_cgeN 40 12 (by decide +kernel) (by omega) (by omega) (fun h2 => ?_) (fun h2 => ?_)
      · skip
        refine w_load (.iload_n 2) 41 (by decide +kernel) rfl rfl ?_
        refine w_load (.aload_n 0) 42 (by decide +kernel) rfl rfl ?_
        refine w_getR (k := 0) (r := h + 1) 45 (by decide +kernel) hh.1.1 rfl ?_
        refine w_pushN 15 47 (by decide +kernel) ?_
        refine w_ialdN 48 (by decide +kernel) hh.1.2.1 (by omega) (by omega) ?_
        refine w_pure .iand 49 (by decide +kernel) rfl rfl ?_
        exact w_ret (by decide +kernel) (hq _ trivial)
      · skip
        refine w_load (.iload_n 2) 13 (by decide +kernel) rfl rfl ?_
        refine w_load (.aload_n 0) 14 (by decide +kernel) rfl rfl ?_
        refine w_getR (k := 0) (r := h + 1) 17 (by decide +kernel) hh.1.1 rfl ?_
        refine w_pushN 0 18 (by decide +kernel) ?_
        refine w_load (.iload_n 3) 19 (by decide +kernel) rfl rfl ?_
        refine w_addN g3 20 (by decide +kernel) (by omega) ?_
        refine w_ialdN 21 (by decide +kernel) hh.1.2.1 (by omega) (by omega) ?_
        refine w_load (.iload_n 1) 22 (by decide +kernel) rfl rfl ?_
        refine w_cne 31 25 (by decide +kernel) (fun h3 => ?_) (fun h3 => ?_)
        · skip
          refine w_pushN 0 32 (by decide +kernel) ?_
          refine w_pure .ior 33 (by decide +kernel) rfl rfl ?_
          refine w_topi (fun v4 ev4 => ?_)
          refine w_store (ls' := [.ref h, .int a, .int v4, .int (nI g3)]) (.istore_n 2) 34 (by decide +kernel) rfl rfl ?_
          refine w_iincN (z := 3) (g3 + 1) 37 (by decide +kernel) rfl (Nat.le_of_ble_eq_true rfl) rfl rfl ?_
          show Wp _ _ _ [.ref h, .int a, .int v4, .int (nI (g3 + 1))] _ _ _ _
          refine w_goto 4 (by decide +kernel) ?_
          exact ih_4 _ (g3 + 1) (by omega) (by omega)
        · skip
          refine w_pushN 1 26 (by decide +kernel) ?_
          refine w_load (.iload_n 3) 27 (by decide +kernel) rfl rfl ?_
          refine w_pure .ishl 28 (by decide +kernel) rfl rfl ?_
          refine w_goto 32 (by decide +kernel) ?_
          refine w_pure .ior 33 (by decide +kernel) rfl rfl ?_
          refine w_topi (fun v5 ev5 => ?_)
          refine w_store (ls' := [.ref h, .int a, .int v5, .int (nI g3)]) (.istore_n 2) 34 (by decide +kernel) rfl rfl ?_
          refine w_iincN (z := 3) (g3 + 1) 37 (by decide +kernel) rfl (Nat.le_of_ble_eq_true rfl) rfl rfl ?_
          show Wp _ _ _ [.ref h, .int a, .int v5, .int (nI (g3 + 1))] _ _ _ _
          refine w_goto 4 (by decide +kernel) ?_
          exact ih_4 _ (g3 + 1) (by omega) (by omega)
  exact LP_4 _ _ 0 (by omega) (Nat.lt_succ_self _)
-- X1_namesBorne
set_option maxRecDepth 10000 in
theorem k_25 {d : Nat} {M : Mt} {L : Lt} {Q : Option Value → Mt → Lt → Prop} {h : Nat}  (hI : Inv M) (hh : Hs h) (hd : 1 ≤ d) (hq : ∀ (r : Int32), True → Q (some (.int r)) M L) : Wp d 25 0 [.ref h, .null, .null] [] M L Q := by
  refine w_pushN 0 1 (by decide +kernel) ?_
  refine w_store (ls' := [.ref h, .int (nI 0), .null]) (.istore_n 1) 2 (by decide +kernel) rfl rfl ?_
  refine w_pushN 0 3 (by decide +kernel) ?_
  refine w_store (ls' := [.ref h, .int (nI 0), .int (nI 0)]) (.istore_n 2) 4 (by decide +kernel) rfl rfl ?_
  have LP_4 : ∀ (kk : Nat) (x1_4 : Int32) (g2 : Nat), g2 ≤ 4 → 4 - g2 < kk → Wp d 25 4 [.ref h, .int x1_4, .int (nI g2)] [] M L Q := by
    intro kk
    induction kk with
    | zero => intro x1_4 g2 hi0_4 hm_4; exact absurd hm_4 (Nat.not_lt_zero _)
    | succ kk ih_4 =>
      intro x1_4 g2 hi0_4 hm_4
      refine w_load (.iload_n 2) 5 (by decide +kernel) rfl rfl ?_
      refine w_pushN 4 6 (by decide +kernel) ?_
      refine w_cgeN 33 9 (by decide +kernel) (by omega) (by omega) (fun h1 => ?_) (fun h1 => ?_)
      · skip
        refine w_load (.iload_n 1) 34 (by decide +kernel) rfl rfl ?_
        exact w_ret (by decide +kernel) (hq _ trivial)
      · skip
        refine w_load (.iload_n 1) 10 (by decide +kernel) rfl rfl ?_
        refine w_load (.aload_n 0) 11 (by decide +kernel) rfl rfl ?_
        refine w_load (.iload_n 2) 12 (by decide +kernel) rfl rfl ?_
        refine w_callV1 24 1 4 15 (by decide +kernel) hh.1.1 (Nat.le_of_ble_eq_true rfl) rfl (by decide) (by omega) ?_
        refine k_24 hI hh (by omega) (fun r2 hr2 => ?_)
        dsimp only [Option.toList, List.cons_append, List.nil_append]
        refine w_ieq 24 18 (by decide +kernel) (fun h3 => ?_) (fun h3 => ?_)
        · skip
          refine w_pushN 0 25 (by decide +kernel) ?_
          refine w_pure .ior 26 (by decide +kernel) rfl rfl ?_
          refine w_topi (fun v4 ev4 => ?_)
          refine w_store (ls' := [.ref h, .int v4, .int (nI g2)]) (.istore_n 1) 27 (by decide +kernel) rfl rfl ?_
          refine w_iincN (z := 2) (g2 + 1) 30 (by decide +kernel) rfl (Nat.le_of_ble_eq_true rfl) rfl rfl ?_
          show Wp _ _ _ [.ref h, .int v4, .int (nI (g2 + 1))] _ _ _ _
          refine w_goto 4 (by decide +kernel) ?_
          exact ih_4 _ (g2 + 1) (by omega) (by omega)
        · skip
          refine w_pushN 1 19 (by decide +kernel) ?_
          refine w_load (.iload_n 2) 20 (by decide +kernel) rfl rfl ?_
          refine w_pure .ishl 21 (by decide +kernel) rfl rfl ?_
          refine w_goto 25 (by decide +kernel) ?_
          refine w_pure .ior 26 (by decide +kernel) rfl rfl ?_
          refine w_topi (fun v5 ev5 => ?_)
          refine w_store (ls' := [.ref h, .int v5, .int (nI g2)]) (.istore_n 1) 27 (by decide +kernel) rfl rfl ?_
          refine w_iincN (z := 2) (g2 + 1) 30 (by decide +kernel) rfl (Nat.le_of_ble_eq_true rfl) rfl rfl ?_
          show Wp _ _ _ [.ref h, .int v5, .int (nI (g2 + 1))] _ _ _ _
          refine w_goto 4 (by decide +kernel) ?_
          exact ih_4 _ (g2 + 1) (by omega) (by omega)
  exact LP_4 _ _ 0 (by omega) (Nat.lt_succ_self _)
-- X1_rename
set_option maxRecDepth 10000 in
theorem k_26 {d : Nat} {M : Mt} {L : Lt} {Q : Option Value → Mt → Lt → Prop} {h : Nat} {g : Int32} {a : Int32} (hI : Inv M) (hh : Hs h) (hd : 1 ≤ d) (hq : ∀ (N : Mt), St (fun i _ => i = h + 1) M N → True → Q none N L) : Wp d 26 0 [.ref h, .int g, .int a] [] M L Q := by
  refine (show ∀ N : Mt, N = M → St (fun i _ => i = h + 1) M N → Wp d 26 0 [.ref h, .int g, .int a] [] N L Q from ?_) M rfl (St.rf hI)
  intro N hNM hS
  refine w_load (.aload_n 0) 1 (by decide +kernel) rfl rfl ?_
  refine w_load (.iload_n 1) 2 (by decide +kernel) rfl rfl ?_
  refine w_callV1 11 1 2 5 (by decide +kernel) hh.1.1 (Nat.le_of_ble_eq_true rfl) rfl (by decide) (by omega) ?_
  obtain ⟨n1, hn1, en1⟩ := inv_h hS.1 hh
  refine k_11 hS.1 hh (by omega) en1 (by omega) (fun r2 hr2 => ?_)
  dsimp only [Option.toList, List.cons_append, List.nil_append]
  rcases hr2 with ⟨rfl, k3, hk3, rfl⟩ | ⟨rfl, hnok3⟩
  · skip
    refine w_ieq 17 8 (by decide +kernel) (fun hz => absurd hz (by decide)) (fun _ => ?_)
    refine w_load (.aload_n 0) 9 (by decide +kernel) rfl rfl ?_
    refine w_getR (k := 0) (r := h + 1) 12 (by decide +kernel) hh.1.1 rfl ?_
    refine w_pushN 0 13 (by decide +kernel) ?_
    refine w_load (.iload_n 1) 14 (by decide +kernel) rfl rfl ?_
    refine w_addN k3 15 (by decide +kernel) (by omega) ?_
    refine w_load (.iload_n 2) 16 (by decide +kernel) rfl rfl ?_
    refine w_iastE 17 (by decide +kernel) hh.1.2.1 (by omega) (by omega) hS (Rg.free (by simp only [Hs, Tl, Sc, isScr, isHs, isTs] at *; omega)) (by first | exact rfl | omega | (dsimp only; omega) | (simp only [Hs, Tl, Sc, isHs, isScr, isTs] at *; omega)) (fun Nq5 hS hq5 oq5 mq5 => ?_)
    have kn6 := (oq5 (h) 2 (by first | omega | (simp only [Hs, Tl, Sc, isHs, isScr, isTs] at *; omega))).trans en1
    exact w_retV (by decide +kernel) (hq Nq5 hS trivial)
  · skip
    refine w_ieq 17 8 (by decide +kernel) (fun _ => ?_) (fun hz => absurd hz (by decide))
    exact w_retV (by decide +kernel) (hq N hS trivial)
-- X1_payFine
set_option maxRecDepth 10000 in
theorem k_27 {d : Nat} {M : Mt} {L : Lt} {Q : Option Value → Mt → Lt → Prop} {h : Nat} {g : Int32} (hI : Inv M) (hh : Hs h) (hd : 1 ≤ d) (hq : ∀ (N : Mt), St (fun i _ => i = h + 1) M N → True → Q none N L) : Wp d 27 0 [.ref h, .int g] [] M L Q := by
  refine (show ∀ N : Mt, N = M → St (fun i _ => i = h + 1) M N → Wp d 27 0 [.ref h, .int g] [] N L Q from ?_) M rfl (St.rf hI)
  intro N hNM hS
  refine w_load (.aload_n 0) 1 (by decide +kernel) rfl rfl ?_
  refine w_load (.iload_n 1) 2 (by decide +kernel) rfl rfl ?_
  refine w_callV1 11 1 2 5 (by decide +kernel) hh.1.1 (Nat.le_of_ble_eq_true rfl) rfl (by decide) (by omega) ?_
  obtain ⟨n1, hn1, en1⟩ := inv_h hS.1 hh
  refine k_11 hS.1 hh (by omega) en1 (by omega) (fun r2 hr2 => ?_)
  dsimp only [Option.toList, List.cons_append, List.nil_append]
  rcases hr2 with ⟨rfl, k3, hk3, rfl⟩ | ⟨rfl, hnok3⟩
  · skip
    refine w_ieq 20 8 (by decide +kernel) (fun hz => absurd hz (by decide)) (fun _ => ?_)
    refine w_load (.aload_n 0) 9 (by decide +kernel) rfl rfl ?_
    refine w_getR (k := 0) (r := h + 1) 12 (by decide +kernel) hh.1.1 rfl ?_
    refine w_pushN 5 13 (by decide +kernel) ?_
    refine w_load (.iload_n 1) 14 (by decide +kernel) rfl rfl ?_
    refine w_addN (5 + k3) 15 (by decide +kernel) (by omega) ?_
    refine w_pure .dup2 16 (by decide +kernel) rfl rfl ?_
    refine w_ialdN 17 (by decide +kernel) hh.1.2.1 (by omega) (by omega) ?_
    refine w_pushN 1 18 (by decide +kernel) ?_
    refine w_pure .isub 19 (by decide +kernel) rfl rfl ?_
    refine w_iastE 20 (by decide +kernel) hh.1.2.1 (by omega) (by omega) hS (Rg.free (by simp only [Hs, Tl, Sc, isScr, isHs, isTs] at *; omega)) (by first | exact rfl | omega | (dsimp only; omega) | (simp only [Hs, Tl, Sc, isHs, isScr, isTs] at *; omega)) (fun Nq5 hS hq5 oq5 mq5 => ?_)
    have kn6 := (oq5 (h) 2 (by first | omega | (simp only [Hs, Tl, Sc, isHs, isScr, isTs] at *; omega))).trans en1
    exact w_retV (by decide +kernel) (hq Nq5 hS trivial)
  · skip
    refine w_ieq 20 8 (by decide +kernel) (fun _ => ?_) (fun hz => absurd hz (by decide))
    exact w_retV (by decide +kernel) (hq N hS trivial)
-- X1_handCoin
set_option maxRecDepth 10000 in
theorem k_28 {d : Nat} {M : Mt} {L : Lt} {Q : Option Value → Mt → Lt → Prop} {h : Nat} {g : Int32} {o : Int32} (hI : Inv M) (hh : Hs h) (hd : 1 ≤ d) (hq : ∀ (r : Int32) (N : Mt), St (fun i _ => i = h + 1) M N → (r = 0 ∨ r = 1) → Q (some (.int r)) N L) : Wp d 28 0 [.ref h, .int g, .int o] [] M L Q := by
  refine (show ∀ N : Mt, N = M → St (fun i _ => i = h + 1) M N → Wp d 28 0 [.ref h, .int g, .int o] [] N L Q from ?_) M rfl (St.rf hI)
  intro N hNM hS
  refine w_load (.aload_n 0) 1 (by decide +kernel) rfl rfl ?_
  refine w_load (.iload_n 1) 2 (by decide +kernel) rfl rfl ?_
  refine w_callV1 11 1 2 5 (by decide +kernel) hh.1.1 (Nat.le_of_ble_eq_true rfl) rfl (by decide) (by omega) ?_
  obtain ⟨n1, hn1, en1⟩ := inv_h hS.1 hh
  refine k_11 hS.1 hh (by omega) en1 (by omega) (fun r2 hr2 => ?_)
  dsimp only [Option.toList, List.cons_append, List.nil_append]
  rcases hr2 with ⟨rfl, k3, hk3, rfl⟩ | ⟨rfl, hnok3⟩
  · skip
    refine w_ieq 27 8 (by decide +kernel) (fun hz => absurd hz (by decide)) (fun _ => ?_)
    refine w_load (.aload_n 0) 9 (by decide +kernel) rfl rfl ?_
    refine w_load (.iload_n 2) 10 (by decide +kernel) rfl rfl ?_
    refine w_callV1 11 1 2 13 (by decide +kernel) hh.1.1 (Nat.le_of_ble_eq_true rfl) rfl (by decide) (by omega) ?_
    refine k_11 hS.1 hh (by omega) en1 (by omega) (fun r5 hr5 => ?_)
    dsimp only [Option.toList, List.cons_append, List.nil_append]
    rcases hr5 with ⟨rfl, k6, hk6, rfl⟩ | ⟨rfl, hnok6⟩
    · skip
      refine w_ieq 27 16 (by decide +kernel) (fun hz => absurd hz (by decide)) (fun _ => ?_)
      refine w_load (.aload_n 0) 17 (by decide +kernel) rfl rfl ?_
      refine w_getR (k := 0) (r := h + 1) 20 (by decide +kernel) hh.1.1 rfl ?_
      refine w_pushN 5 21 (by decide +kernel) ?_
      refine w_load (.iload_n 1) 22 (by decide +kernel) rfl rfl ?_
      refine w_addN (5 + k3) 23 (by decide +kernel) (by omega) ?_
      refine w_ialdN 24 (by decide +kernel) hh.1.2.1 (by omega) (by omega) ?_
      refine w_igt 29 27 (by decide +kernel) (fun h8 => ?_) (fun h8 => ?_)
      · skip
        refine w_load (.aload_n 0) 30 (by decide +kernel) rfl rfl ?_
        refine w_getR (k := 0) (r := h + 1) 33 (by decide +kernel) hh.1.1 rfl ?_
        refine w_pushN 5 34 (by decide +kernel) ?_
        refine w_load (.iload_n 1) 35 (by decide +kernel) rfl rfl ?_
        refine w_addN (5 + k3) 36 (by decide +kernel) (by omega) ?_
        refine w_pure .dup2 37 (by decide +kernel) rfl rfl ?_
        refine w_ialdN 38 (by decide +kernel) hh.1.2.1 (by omega) (by omega) ?_
        refine w_pushN 1 39 (by decide +kernel) ?_
        refine w_pure .isub 40 (by decide +kernel) rfl rfl ?_
        refine w_iastE 41 (by decide +kernel) hh.1.2.1 (by omega) (by omega) hS (Rg.free (by simp only [Hs, Tl, Sc, isScr, isHs, isTs] at *; omega)) (by first | exact rfl | omega | (dsimp only; omega) | (simp only [Hs, Tl, Sc, isHs, isScr, isTs] at *; omega)) (fun Nq9 hS hq9 oq9 mq9 => ?_)
        have kn10 := (oq9 (h) 2 (by first | omega | (simp only [Hs, Tl, Sc, isHs, isScr, isTs] at *; omega))).trans en1
        refine w_load (.aload_n 0) 42 (by decide +kernel) rfl rfl ?_
        refine w_getR (k := 0) (r := h + 1) 45 (by decide +kernel) hh.1.1 rfl ?_
        refine w_pushN 5 46 (by decide +kernel) ?_
        refine w_load (.iload_n 2) 47 (by decide +kernel) rfl rfl ?_
        refine w_addN (5 + k6) 48 (by decide +kernel) (by omega) ?_
        refine w_pure .dup2 49 (by decide +kernel) rfl rfl ?_
        refine w_ialdN 50 (by decide +kernel) hh.1.2.1 (by omega) (by omega) ?_
        refine w_pushN 1 51 (by decide +kernel) ?_
        refine w_pure .iadd 52 (by decide +kernel) rfl rfl ?_
        refine w_iastE 53 (by decide +kernel) hh.1.2.1 (by omega) (by omega) hS (Rg.free (by simp only [Hs, Tl, Sc, isScr, isHs, isTs] at *; omega)) (by first | exact rfl | omega | (dsimp only; omega) | (simp only [Hs, Tl, Sc, isHs, isScr, isTs] at *; omega)) (fun Nq11 hS hq11 oq11 mq11 => ?_)
        have kn12 := (oq11 (h) 2 (by first | omega | (simp only [Hs, Tl, Sc, isHs, isScr, isTs] at *; omega))).trans kn10
        refine w_pushN 1 54 (by decide +kernel) ?_
        exact w_retZ (by decide +kernel) (Or.inr rfl) (hq _ Nq11 hS (Or.inr rfl))
      · skip
        refine w_pushN 0 28 (by decide +kernel) ?_
        exact w_retZ (by decide +kernel) (Or.inl rfl) (hq _ N hS (Or.inl rfl))
    · skip
      refine w_ieq 27 16 (by decide +kernel) (fun _ => ?_) (fun hz => absurd hz (by decide))
      refine w_pushN 0 28 (by decide +kernel) ?_
      exact w_retZ (by decide +kernel) (Or.inl rfl) (hq _ N hS (Or.inl rfl))
  · skip
    refine w_ieq 27 8 (by decide +kernel) (fun _ => ?_) (fun hz => absurd hz (by decide))
    refine w_pushN 0 28 (by decide +kernel) ?_
    exact w_retZ (by decide +kernel) (Or.inl rfl) (hq _ N hS (Or.inl rfl))
-- X1_join
set_option maxRecDepth 10000 in
theorem k_29 {d : Nat} {M : Mt} {L : Lt} {Q : Option Value → Mt → Lt → Prop} {h : Nat} {g : Int32} {o : Int32} (hI : Inv M) (hh : Hs h) (hd : 1 ≤ d) (hq : ∀ (r : Int32) (N : Mt), St (fun i _ => i = h + 1) M N → (r = 0 ∨ r = 1) → Q (some (.int r)) N L) : Wp d 29 0 [.ref h, .int g, .int o] [] M L Q := by
  refine (show ∀ N : Mt, N = M → St (fun i _ => i = h + 1) M N → Wp d 29 0 [.ref h, .int g, .int o] [] N L Q from ?_) M rfl (St.rf hI)
  intro N hNM hS
  refine w_load (.aload_n 0) 1 (by decide +kernel) rfl rfl ?_
  refine w_load (.iload_n 1) 2 (by decide +kernel) rfl rfl ?_
  refine w_callV1 11 1 2 5 (by decide +kernel) hh.1.1 (Nat.le_of_ble_eq_true rfl) rfl (by decide) (by omega) ?_
  obtain ⟨n1, hn1, en1⟩ := inv_h hS.1 hh
  refine k_11 hS.1 hh (by omega) en1 (by omega) (fun r2 hr2 => ?_)
  dsimp only [Option.toList, List.cons_append, List.nil_append]
  rcases hr2 with ⟨rfl, k3, hk3, rfl⟩ | ⟨rfl, hnok3⟩
  · skip
    refine w_ieq 44 8 (by decide +kernel) (fun hz => absurd hz (by decide)) (fun _ => ?_)
    refine w_load (.aload_n 0) 9 (by decide +kernel) rfl rfl ?_
    refine w_load (.iload_n 2) 10 (by decide +kernel) rfl rfl ?_
    refine w_callV1 11 1 2 13 (by decide +kernel) hh.1.1 (Nat.le_of_ble_eq_true rfl) rfl (by decide) (by omega) ?_
    refine k_11 hS.1 hh (by omega) en1 (by omega) (fun r5 hr5 => ?_)
    dsimp only [Option.toList, List.cons_append, List.nil_append]
    rcases hr5 with ⟨rfl, k6, hk6, rfl⟩ | ⟨rfl, hnok6⟩
    · skip
      refine w_ieq 44 16 (by decide +kernel) (fun hz => absurd hz (by decide)) (fun _ => ?_)
      refine w_load (.aload_n 0) 17 (by decide +kernel) rfl rfl ?_
      refine w_getR (k := 0) (r := h + 1) 20 (by decide +kernel) hh.1.1 rfl ?_
      refine w_pushN 10 22 (by decide +kernel) ?_
      refine w_load (.iload_n 1) 23 (by decide +kernel) rfl rfl ?_
      refine w_addN (10 + k3) 24 (by decide +kernel) (by omega) ?_
      refine w_ialdN 25 (by decide +kernel) hh.1.2.1 (by omega) (by omega) ?_
      refine w_push (-9) 27 (by decide +kernel) ?_
      refine w_cne 44 30 (by decide +kernel) (fun h8 => ?_) (fun h8 => ?_)
      · skip
        refine w_pushN 0 45 (by decide +kernel) ?_
        exact w_retZ (by decide +kernel) (Or.inl rfl) (hq _ N hS (Or.inl rfl))
      · skip
        refine w_load (.aload_n 0) 31 (by decide +kernel) rfl rfl ?_
        refine w_getR (k := 0) (r := h + 1) 34 (by decide +kernel) hh.1.1 rfl ?_
        refine w_pushN 10 36 (by decide +kernel) ?_
        refine w_load (.iload_n 2) 37 (by decide +kernel) rfl rfl ?_
        refine w_addN (10 + k6) 38 (by decide +kernel) (by omega) ?_
        refine w_ialdN 39 (by decide +kernel) hh.1.2.1 (by omega) (by omega) ?_
        refine w_push (-9) 41 (by decide +kernel) ?_
        refine w_ceq 46 44 (by decide +kernel) (fun h9 => ?_) (fun h9 => ?_)
        · skip
          refine w_load (.aload_n 0) 47 (by decide +kernel) rfl rfl ?_
          refine w_getR (k := 0) (r := h + 1) 50 (by decide +kernel) hh.1.1 rfl ?_
          refine w_pushN 10 52 (by decide +kernel) ?_
          refine w_load (.iload_n 1) 53 (by decide +kernel) rfl rfl ?_
          refine w_addN (10 + k3) 54 (by decide +kernel) (by omega) ?_
          refine w_load (.iload_n 2) 55 (by decide +kernel) rfl rfl ?_
          refine w_iastE 56 (by decide +kernel) hh.1.2.1 (by omega) (by omega) hS (Rg.free (by simp only [Hs, Tl, Sc, isScr, isHs, isTs] at *; omega)) (by first | exact rfl | omega | (dsimp only; omega) | (simp only [Hs, Tl, Sc, isHs, isScr, isTs] at *; omega)) (fun Nq10 hS hq10 oq10 mq10 => ?_)
          have kn11 := (oq10 (h) 2 (by first | omega | (simp only [Hs, Tl, Sc, isHs, isScr, isTs] at *; omega))).trans en1
          refine w_load (.aload_n 0) 57 (by decide +kernel) rfl rfl ?_
          refine w_getR (k := 0) (r := h + 1) 60 (by decide +kernel) hh.1.1 rfl ?_
          refine w_pushN 10 62 (by decide +kernel) ?_
          refine w_load (.iload_n 2) 63 (by decide +kernel) rfl rfl ?_
          refine w_addN (10 + k6) 64 (by decide +kernel) (by omega) ?_
          refine w_load (.iload_n 1) 65 (by decide +kernel) rfl rfl ?_
          refine w_iastE 66 (by decide +kernel) hh.1.2.1 (by omega) (by omega) hS (Rg.free (by simp only [Hs, Tl, Sc, isScr, isHs, isTs] at *; omega)) (by first | exact rfl | omega | (dsimp only; omega) | (simp only [Hs, Tl, Sc, isHs, isScr, isTs] at *; omega)) (fun Nq12 hS hq12 oq12 mq12 => ?_)
          have kn13 := (oq12 (h) 2 (by first | omega | (simp only [Hs, Tl, Sc, isHs, isScr, isTs] at *; omega))).trans kn11
          refine w_pushN 1 67 (by decide +kernel) ?_
          exact w_retZ (by decide +kernel) (Or.inr rfl) (hq _ Nq12 hS (Or.inr rfl))
        · skip
          refine w_pushN 0 45 (by decide +kernel) ?_
          exact w_retZ (by decide +kernel) (Or.inl rfl) (hq _ N hS (Or.inl rfl))
    · skip
      refine w_ieq 44 16 (by decide +kernel) (fun _ => ?_) (fun hz => absurd hz (by decide))
      refine w_pushN 0 45 (by decide +kernel) ?_
      exact w_retZ (by decide +kernel) (Or.inl rfl) (hq _ N hS (Or.inl rfl))
  · skip
    refine w_ieq 44 8 (by decide +kernel) (fun _ => ?_) (fun hz => absurd hz (by decide))
    refine w_pushN 0 45 (by decide +kernel) ?_
    exact w_retZ (by decide +kernel) (Or.inl rfl) (hq _ N hS (Or.inl rfl))
-- X1_bury
set_option maxRecDepth 10000 in
theorem k_30 {d : Nat} {M : Mt} {L : Lt} {Q : Option Value → Mt → Lt → Prop} {h : Nat} {g : Int32} (hI : Inv M) (hh : Hs h) (hd : 1 ≤ d) (hq : ∀ (N : Mt), St (fun i _ => i = h + 1) M N → True → Q none N L) : Wp d 30 0 [.ref h, .int g, .null] [] M L Q := by
  refine (show ∀ N : Mt, N = M → St (fun i _ => i = h + 1) M N → Wp d 30 0 [.ref h, .int g, .null] [] N L Q from ?_) M rfl (St.rf hI)
  intro N hNM hS
  refine w_load (.aload_n 0) 1 (by decide +kernel) rfl rfl ?_
  refine w_load (.iload_n 1) 2 (by decide +kernel) rfl rfl ?_
  refine w_callV1 11 1 2 5 (by decide +kernel) hh.1.1 (Nat.le_of_ble_eq_true rfl) rfl (by decide) (by omega) ?_
  obtain ⟨n1, hn1, en1⟩ := inv_h hS.1 hh
  refine k_11 hS.1 hh (by omega) en1 (by omega) (fun r2 hr2 => ?_)
  dsimp only [Option.toList, List.cons_append, List.nil_append]
  rcases hr2 with ⟨rfl, k3, hk3, rfl⟩ | ⟨rfl, hnok3⟩
  · skip
    refine w_ine 9 8 (by decide +kernel) (fun _ => ?_) (fun hz => absurd hz (by decide))
    refine w_load (.aload_n 0) 10 (by decide +kernel) rfl rfl ?_
    refine w_getR (k := 0) (r := h + 1) 13 (by decide +kernel) hh.1.1 rfl ?_
    refine w_pushN 10 15 (by decide +kernel) ?_
    refine w_load (.iload_n 1) 16 (by decide +kernel) rfl rfl ?_
    refine w_addN (10 + k3) 17 (by decide +kernel) (by omega) ?_
    refine w_ialdN 18 (by decide +kernel) hh.1.2.1 (by omega) (by omega) ?_
    refine w_topi (fun v5 ev5 => ?_)
    refine w_store (ls' := [.ref h, .int (nI k3), .int v5]) (.istore_n 2) 19 (by decide +kernel) rfl rfl ?_
    refine w_load (.aload_n 0) 20 (by decide +kernel) rfl rfl ?_
    refine w_load (.iload_n 2) 21 (by decide +kernel) rfl rfl ?_
    refine w_callV1 11 1 2 24 (by decide +kernel) hh.1.1 (Nat.le_of_ble_eq_true rfl) rfl (by decide) (by omega) ?_
    refine k_11 hS.1 hh (by omega) en1 (by omega) (fun r6 hr6 => ?_)
    dsimp only [Option.toList, List.cons_append, List.nil_append]
    rcases hr6 with ⟨rfl, k7, hk7, rfl⟩ | ⟨rfl, hnok7⟩
    · skip
      refine w_ieq 38 27 (by decide +kernel) (fun hz => absurd hz (by decide)) (fun _ => ?_)
      refine w_load (.aload_n 0) 28 (by decide +kernel) rfl rfl ?_
      refine w_getR (k := 0) (r := h + 1) 31 (by decide +kernel) hh.1.1 rfl ?_
      refine w_pushN 10 33 (by decide +kernel) ?_
      refine w_load (.iload_n 2) 34 (by decide +kernel) rfl rfl ?_
      refine w_addN (10 + k7) 35 (by decide +kernel) (by omega) ?_
      refine w_push (-9) 37 (by decide +kernel) ?_
      refine w_iastE 38 (by decide +kernel) hh.1.2.1 (by omega) (by omega) hS (Rg.free (by simp only [Hs, Tl, Sc, isScr, isHs, isTs] at *; omega)) (by first | exact rfl | omega | (dsimp only; omega) | (simp only [Hs, Tl, Sc, isHs, isScr, isTs] at *; omega)) (fun Nq9 hS hq9 oq9 mq9 => ?_)
      have kn10 := (oq9 (h) 2 (by first | omega | (simp only [Hs, Tl, Sc, isHs, isScr, isTs] at *; omega))).trans en1
      refine w_load (.aload_n 0) 39 (by decide +kernel) rfl rfl ?_
      refine w_getR (k := 0) (r := h + 1) 42 (by decide +kernel) hh.1.1 rfl ?_
      refine w_pushN 10 44 (by decide +kernel) ?_
      refine w_load (.iload_n 1) 45 (by decide +kernel) rfl rfl ?_
      refine w_addN (10 + k3) 46 (by decide +kernel) (by omega) ?_
      refine w_push (-9) 48 (by decide +kernel) ?_
      refine w_iastE 49 (by decide +kernel) hh.1.2.1 (by omega) (by omega) hS (Rg.free (by simp only [Hs, Tl, Sc, isScr, isHs, isTs] at *; omega)) (by first | exact rfl | omega | (dsimp only; omega) | (simp only [Hs, Tl, Sc, isHs, isScr, isTs] at *; omega)) (fun Nq11 hS hq11 oq11 mq11 => ?_)
      have kn12 := (oq11 (h) 2 (by first | omega | (simp only [Hs, Tl, Sc, isHs, isScr, isTs] at *; omega))).trans kn10
      refine w_load (.aload_n 0) 50 (by decide +kernel) rfl rfl ?_
      refine w_getR (k := 0) (r := h + 1) 53 (by decide +kernel) hh.1.1 rfl ?_
      refine w_pushN 15 55 (by decide +kernel) ?_
      refine w_pure .dup2 56 (by decide +kernel) rfl rfl ?_
      refine w_ialdN 57 (by decide +kernel) hh.1.2.1 (by omega) (by omega) ?_
      refine w_pushN 1 58 (by decide +kernel) ?_
      refine w_load (.iload_n 1) 59 (by decide +kernel) rfl rfl ?_
      refine w_pure .ishl 60 (by decide +kernel) rfl rfl ?_
      refine w_push (-1) 61 (by decide +kernel) ?_
      refine w_pure .ixor 62 (by decide +kernel) rfl rfl ?_
      refine w_pure .iand 63 (by decide +kernel) rfl rfl ?_
      refine w_iastE 64 (by decide +kernel) hh.1.2.1 (by omega) (by omega) hS (Rg.free (by simp only [Hs, Tl, Sc, isScr, isHs, isTs] at *; omega)) (by first | exact rfl | omega | (dsimp only; omega) | (simp only [Hs, Tl, Sc, isHs, isScr, isTs] at *; omega)) (fun Nq13 hS hq13 oq13 mq13 => ?_)
      have kn14 := (oq13 (h) 2 (by first | omega | (simp only [Hs, Tl, Sc, isHs, isScr, isTs] at *; omega))).trans kn12
      exact w_retV (by decide +kernel) (hq Nq13 hS trivial)
    · skip
      refine w_ieq 38 27 (by decide +kernel) (fun _ => ?_) (fun hz => absurd hz (by decide))
      refine w_load (.aload_n 0) 39 (by decide +kernel) rfl rfl ?_
      refine w_getR (k := 0) (r := h + 1) 42 (by decide +kernel) hh.1.1 rfl ?_
      refine w_pushN 10 44 (by decide +kernel) ?_
      refine w_load (.iload_n 1) 45 (by decide +kernel) rfl rfl ?_
      refine w_addN (10 + k3) 46 (by decide +kernel) (by omega) ?_
      refine w_push (-9) 48 (by decide +kernel) ?_
      refine w_iastE 49 (by decide +kernel) hh.1.2.1 (by omega) (by omega) hS (Rg.free (by simp only [Hs, Tl, Sc, isScr, isHs, isTs] at *; omega)) (by first | exact rfl | omega | (dsimp only; omega) | (simp only [Hs, Tl, Sc, isHs, isScr, isTs] at *; omega)) (fun Nq16 hS hq16 oq16 mq16 => ?_)
      have kn17 := (oq16 (h) 2 (by first | omega | (simp only [Hs, Tl, Sc, isHs, isScr, isTs] at *; omega))).trans en1
      refine w_load (.aload_n 0) 50 (by decide +kernel) rfl rfl ?_
      refine w_getR (k := 0) (r := h + 1) 53 (by decide +kernel) hh.1.1 rfl ?_
      refine w_pushN 15 55 (by decide +kernel) ?_
      refine w_pure .dup2 56 (by decide +kernel) rfl rfl ?_
      refine w_ialdN 57 (by decide +kernel) hh.1.2.1 (by omega) (by omega) ?_
      refine w_pushN 1 58 (by decide +kernel) ?_
      refine w_load (.iload_n 1) 59 (by decide +kernel) rfl rfl ?_
      refine w_pure .ishl 60 (by decide +kernel) rfl rfl ?_
      refine w_push (-1) 61 (by decide +kernel) ?_
      refine w_pure .ixor 62 (by decide +kernel) rfl rfl ?_
      refine w_pure .iand 63 (by decide +kernel) rfl rfl ?_
      refine w_iastE 64 (by decide +kernel) hh.1.2.1 (by omega) (by omega) hS (Rg.free (by simp only [Hs, Tl, Sc, isScr, isHs, isTs] at *; omega)) (by first | exact rfl | omega | (dsimp only; omega) | (simp only [Hs, Tl, Sc, isHs, isScr, isTs] at *; omega)) (fun Nq18 hS hq18 oq18 mq18 => ?_)
      have kn19 := (oq18 (h) 2 (by first | omega | (simp only [Hs, Tl, Sc, isHs, isScr, isTs] at *; omega))).trans kn17
      exact w_retV (by decide +kernel) (hq Nq18 hS trivial)
  · skip
    refine w_ine 9 8 (by decide +kernel) (fun hz => absurd hz (by decide)) (fun _ => ?_)
    exact w_retV (by decide +kernel) (hq N hS trivial)
