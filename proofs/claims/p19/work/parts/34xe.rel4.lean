/-! ANSWERS over cut, kinds, round, chosen, shortest; coins stay bounded between the calls -/
theorem tale_same2 {r1 r2 a : Int32} {P : Nat → Int32 → Prop} (hs : ∀ t r r', P t r → P t r' → r = r') (h1 : (r1 = -1 ∧ ¬ (∃ k, k < 3 ∧ a = nI k)) ∨ (∃ t, t < 3 ∧ a = nI t ∧ P t r1)) (h2 : (r2 = -1 ∧ ¬ (∃ k, k < 3 ∧ a = nI k)) ∨ (∃ t, t < 3 ∧ a = nI t ∧ P t r2)) : r1 = r2 := by
  rcases h1 with ⟨rfl, a1⟩ | ⟨t, ht, rfl, h1⟩
  · rcases h2 with ⟨rfl, b1⟩ | ⟨t', ht', rfl, _⟩
    · rfl
    · exact absurd ⟨t', ht', rfl⟩ a1
  · rcases h2 with ⟨rfl, b1⟩ | ⟨t', ht', et, h2⟩
    · exact absurd ⟨t, ht, rfl⟩ b1
    · obtain rfl := nI_same et (by omega) (by omega)
      exact hs t _ _ h1 h2
theorem cho_same {r1 r2 a : Int32} {nd : Nat → Nat} {P : Nat → Int32 → Prop} (hs : ∀ t r r', P t r → P t r' → r = r') (h1 : (r1 = -1 ∧ ¬ (∃ k, k < 3 ∧ a = nI k)) ∨ (∃ t, t < 3 ∧ a = nI t ∧ ((r1 = -3 ∧ 4 < nd t) ∨ (nd t ≤ 4 ∧ P t r1)))) (h2 : (r2 = -1 ∧ ¬ (∃ k, k < 3 ∧ a = nI k)) ∨ (∃ t, t < 3 ∧ a = nI t ∧ ((r2 = -3 ∧ 4 < nd t) ∨ (nd t ≤ 4 ∧ P t r2)))) : r1 = r2 := by
  refine tale_same2 (P := fun t r => (r = -3 ∧ 4 < nd t) ∨ (nd t ≤ 4 ∧ P t r)) (fun t r r' => ?_) h1 h2
  rintro (⟨rfl, z1⟩ | ⟨z1, z2⟩) (⟨rfl, y1⟩ | ⟨y1, y2⟩)
  · rfl
  · omega
  · omega
  · exact hs t _ _ z2 y2
/-! coins -/
def BdH (b : Nat) (M : Mt) : Prop := ∀ n, n ≤ 5 → M 4 2 = nI n → bdC b n (M 5) ∧ (∀ na, na ≤ 12 → M 0 14 = nI na → ∀ i, i < na → bdC b n (rowS M 59 i)) ∧ ∀ s, s < 2 → tb (M 0 15) s = true → bdC b n (rowS M 61 s)
def coreB (i k : Nat) : Prop := (i = 4 ∧ k = 2) ∨ i = 5 ∨ i = 59 ∨ i = 61 ∨ (i = 0 ∧ (k = 14 ∨ k = 15))
theorem BdH.keep {b : Nat} {M N : Mt} (h : BdH b M) (e : ∀ i k, coreB i k → N i k = M i k) : BdH b N := by
  intro n hn en
  rw [e 4 2 (by unfold coreB; omega)] at en
  obtain ⟨h1, h2, h3⟩ := h n hn en
  refine ⟨by rw [rowk (fun k => e 5 k (by unfold coreB; omega))]; exact h1, fun na hna ena i hi => ?_, fun s hs ht => ?_⟩
  · rw [rowS_keep (rowk (fun k => e 59 k (by unfold coreB; omega)))]
    rw [e 0 14 (by unfold coreB; omega)] at ena
    exact h2 na hna ena i hi
  · rw [rowS_keep (rowk (fun k => e 61 k (by unfold coreB; omega)))]
    rw [e 0 15 (by unfold coreB; omega)] at ht
    exact h3 s hs ht
theorem BdH.mono {b b' : Nat} {M : Mt} (h : BdH b M) (hb : b ≤ b') : BdH b' M := fun n hn en => ⟨(h n hn en).1.mono hb, fun na hna ena i hi => ((h n hn en).2.1 na hna ena i hi).mono hb, fun s hs ht => ((h n hn en).2.2 s hs ht).mono hb⟩
theorem bd_start : BdH 9 M0 := by
  intro n hn en
  have e : nI 0 = nI n := en
  have h0 : n = 0 := (nI_same e (by omega) (by omega)).symm
  subst h0
  exact ⟨fun g hg => by omega, fun _ _ _ _ _ g hg => by omega, fun _ _ _ g hg => by omega⟩
/-- of what is kept between the calls -/
theorem bd_row {b n : Nat} {c pw : Row} {M : Mt} (h : BdH b M) (hH : RH n c pw M) : bdC b n c := (h n hH.1 hH.2.1).1.he hH.2.2.2.1
theorem bd_acts {b n na nx : Nat} {c pw : Row} {ra : Nat → Row} {M : Mt} (h : BdH b M) (hH : RH n c pw M) (hA : RAc n na nx ra M) : ∀ i, i < na → bdC b n (ra i) := fun i hi => ((h n hH.1 hH.2.1).2.1 na hA.1 hA.2.1.1 i hi).he (hA.2.1.2 i hi)
theorem bd_slots {b n : Nat} {c pw : Row} {hk : Nat → Bool} {rk : Nat → Row} {M : Mt} (h : BdH b M) (hH : RH n c pw M) (hS : RSl n hk rk M) : ∀ s, s < 2 → hk s = true → bdC b n (rk s) := fun s hs ht => ((h n hH.1 hH.2.1).2.2 s hs ((hS.1 s hs).1.trans ht)).he ((hS.1 s hs).2 ht)
theorem bd_new {b n na : Nat} {c : Row} {ra : Nat → Row} {hk : Nat → Bool} {rk : Nat → Row} {N : Mt} (hn : n ≤ 5) (en : N 4 2 = nI n) (h5 : HE n (N 5) c) (hc : bdC b n c) (hna : na ≤ 12) (hA : acX n na ra N) (ha : ∀ i, i < na → bdC b n (ra i)) (hS : slX n hk rk N) (hs : ∀ s, s < 2 → hk s = true → bdC b n (rk s)) : BdH b N := by
  intro n' hn' en'
  obtain rfl := nI_same (en'.symm.trans en) (by omega) (by omega)
  refine ⟨hc.he h5.sy, fun na' hna' ena' i hi => ?_, fun s hs2 ht => ?_⟩
  · obtain rfl := nI_same (ena'.symm.trans hA.1) (by omega) (by omega)
    exact (ha i hi).he (hA.2 i hi).sy
  · have hb := (hS s hs2).1.symm.trans ht
    exact (hs s hs2 hb).he ((hS s hs2).2 hb).sy
theorem push_bd {b n na : Nat} {ra : Nat → Row} {c : Row} (h : ∀ i, i < na → bdC b n (ra i)) (hc : bdC b n c) (hna : na ≤ 12) : ∀ i, i < pushN na → bdC b n (pushR na ra c i) := by
  intro i hi
  unfold pushN at hi
  unfold pushR
  by_cases h12 : na = 12
  · rw [if_pos h12]
    split
    · exact hc
    · exact h (i + 1) (by rw [if_pos h12] at hi; omega)
  · rw [if_neg h12] at hi ⊢
    split
    · exact hc
    · exact h i (by omega)
theorem te_bd {M N1 : Mt} {r1 a : Int32} {b n na nx : Nat} {c pw : Row} {ra : Nat → Row} {hk : Nat → Bool} {rk : Nat → Row} (hB : BdH b M) (hb : b < 5000) (hH : RH n c pw M) (hA : RAc n na nx ra M) (hS : RSl n hk rk M)
    (f1 : ∀ i k, ¬ ((4 ≤ i ∧ i ≤ 6) ∨ (10 ≤ i ∧ i ≤ 14) ∨ i = 59 ∨ (i = 0 ∧ k = 14)) → N1 i k = M i k)
    (h1 : (r1 = -1 ∧ ¬ (∃ k, k < 3 ∧ a = nI k) ∧ N1 = M) ∨ (∃ t z k, t < 3 ∧ a = nI t ∧ z ≤ 24 ∧ M (70 + 2 * t) 1 = nI z ∧ sndT (M (70 + 2 * t + 1)) z k ∧ HE n (N1 5) (dawnS (runF n (deedV (M (70 + 2 * t + 1))) (nI 0) (k / 3) (c, pw, nI 0, nI 0))).1 ∧ LQ n (N1 6) pw ∧ N1 4 2 = nI n ∧ r1 = (runF n (deedV (M (70 + 2 * t + 1))) (nI 0) (k / 3) (c, pw, nI 0, nI 0)).2.2.2 ∧ acX n (pushN na) (pushR na ra c) N1)) : BdH (b + 8) N1 := by
  have hc := bd_row hB hH
  have ha := bd_acts hB hH hA
  have hs := bd_slots hB hH hS
  have ok := hH.2.2.2.2.2.2.2
  rcases h1 with ⟨-, -, rfl⟩ | ⟨t, z, k, ht, -, hz, -, hsn, x1, x2, x3, -, x4⟩
  · exact hB.mono (by omega)
  · have hk3 : k / 3 ≤ 8 := by have := hsn.1; omega
    have hr := bdC.run (dv := deedV (M (70 + 2 * t + 1))) (w := nI 0) (s := (c, pw, nI 0, nI 0)) hc hH.1 (by omega) ok.1 (k / 3) hk3
    refine bd_new hH.1 x3 x1 ((hr.mono (by omega : b + k / 3 ≤ b + 8)).dawn hH.1) (pushN_le hA.1) x4 (push_bd (fun i hi => (ha i hi).mono (by omega)) (hc.mono (by omega)) hA.1) (hS.1.keep (f1 0 15 (by omega)) (rowk (fun k => f1 61 k (by omega)))) (fun s h2 h3 => (hs s h2 h3).mono (by omega))
theorem gi_bd {M N1 : Mt} {r1 g a : Int32} {b n na nx : Nat} {c pw : Row} {ra : Nat → Row} {hk : Nat → Bool} {rk : Nat → Row} (hB : BdH b M) (hH : RH n c pw M) (hA : RAc n na nx ra M) (hS : RSl n hk rk M)
    (f1 : ∀ i k, ¬ (i = 5 ∨ i = 59 ∨ (i = 0 ∧ k = 14)) → N1 i k = M i k)
    (h1 : (r1 = -1 ∧ ¬ (∃ k, k < n ∧ g = nI k) ∧ N1 = M) ∨ (∃ k, k < n ∧ g = nI k ∧ ((r1 = -2 ∧ ¬ (∃ k, k < 4 ∧ a = nI k) ∧ N1 = M) ∨ (∃ b, b < 4 ∧ a = nI b ∧ ((r1 = -3 ∧ ¬ (tb (c 15) k = true ∧ ¬ c k = nI b) ∧ N1 = M) ∨ ((tb (c 15) k = true ∧ ¬ c k = nI b) ∧ r1 = c k ∧ HE n (N1 5) (up1 c k (nI b)) ∧ acX n (pushN na) (pushR na ra c) N1)))))) : BdH (b + 8) N1 := by
  have hc := bd_row hB hH
  have ha := bd_acts hB hH hA
  have hs := bd_slots hB hH hS
  rcases h1 with ⟨-, -, rfl⟩ | ⟨k, hk1, -, ⟨-, -, rfl⟩ | ⟨b', hb', -, ⟨-, -, rfl⟩ | ⟨-, -, x1, x2⟩⟩⟩
  · exact hB.mono (by omega)
  · exact hB.mono (by omega)
  · exact hB.mono (by omega)
  · have hn := hH.1
    have hu : bdC b n (up1 c k (nI b')) := hc.up (fun z hz ez => by omega)
    exact (bd_new hn ((f1 4 2 (by omega)).trans hH.2.1) x1 hu (pushN_le hA.1) x2 (push_bd ha hc hA.1) (hS.1.keep (f1 0 15 (by omega)) (rowk (fun k => f1 61 k (by omega)))) hs).mono (by omega)
theorem un_bd {M N1 : Mt} {r1 : Int32} {b n na nx : Nat} {c pw : Row} {ra : Nat → Row} {hk : Nat → Bool} {rk : Nat → Row} (hB : BdH b M) (hH : RH n c pw M) (hA : RAc n na nx ra M) (hS : RSl n hk rk M)
    (f1 : ∀ i k, ¬ (i = 5 ∨ (i = 0 ∧ k = 14)) → N1 i k = M i k)
    (h1 : (r1 = -3 ∧ na = 0 ∧ N1 = M) ∨ (0 < na ∧ r1 = nI (na - 1) ∧ HE n (N1 5) (ra (na - 1)) ∧ acX n (na - 1) ra N1)) : BdH (b + 8) N1 := by
  have ha := bd_acts hB hH hA
  have hs := bd_slots hB hH hS
  have hna := hA.1
  rcases h1 with ⟨-, -, rfl⟩ | ⟨h0, -, x1, x2⟩
  · exact hB.mono (by omega)
  · exact (bd_new hH.1 ((f1 4 2 (by omega)).trans hH.2.1) x1 (ha (na - 1) (by omega)) (by omega : na - 1 ≤ 12) x2 (fun i hi => ha i (by omega)) (hS.1.keep (f1 0 15 (by omega)) (rowk (fun k => f1 61 k (by omega)))) hs).mono (by omega)
theorem ke_bd {M N1 : Mt} {r1 a : Int32} {b n na nx : Nat} {c pw : Row} {ra : Nat → Row} {hk : Nat → Bool} {rk : Nat → Row} (hB : BdH b M) (hH : RH n c pw M) (hA : RAc n na nx ra M) (hS : RSl n hk rk M)
    (f1 : ∀ i k, ¬ (i = 61 ∨ (i = 0 ∧ k = 15)) → N1 i k = M i k)
    (h1 : (r1 = -1 ∧ ¬ (∃ k, k < 2 ∧ a = nI k) ∧ N1 = M) ∨ (∃ s, s < 2 ∧ a = nI s ∧ r1 = bcI (c 15) ∧ slX n (upB hk s) (upK rk s c) N1)) : BdH (b + 8) N1 := by
  have hc := bd_row hB hH
  have ha := bd_acts hB hH hA
  have hs := bd_slots hB hH hS
  rcases h1 with ⟨-, -, rfl⟩ | ⟨s, hs2, -, -, x1⟩
  · exact hB.mono (by omega)
  · refine (bd_new hH.1 ((f1 4 2 (by omega)).trans hH.2.1) (by rw [rowk (fun k => f1 5 k (by omega))]; exact hH.2.2.2.1) hc hA.1 (hA.2.1.keep (f1 0 14 (by omega)) (rowk (fun k => f1 59 k (by omega)))) ha x1 (fun i hi ht => ?_)).mono (by omega)
    unfold upB at ht
    unfold upK
    by_cases he : i = s
    · rw [if_pos he]; exact hc
    · rw [if_neg he] at ht ⊢; exact hs i hi ht
theorem ag_bd {M N1 : Mt} {r1 a : Int32} {b n na nx : Nat} {c pw : Row} {ra : Nat → Row} {hk : Nat → Bool} {rk : Nat → Row} (hB : BdH b M) (hH : RH n c pw M) (hA : RAc n na nx ra M) (hS : RSl n hk rk M)
    (f1 : ∀ i k, ¬ (i = 5 ∨ (i = 0 ∧ k = 14)) → N1 i k = M i k)
    (h1 : (r1 = -1 ∧ ¬ (∃ k, k < 2 ∧ a = nI k) ∧ N1 = M) ∨ (∃ s, s < 2 ∧ a = nI s ∧ ((r1 = -3 ∧ hk s = false ∧ N1 = M) ∨ (hk s = true ∧ HE n (N1 5) (rk s) ∧ r1 = bcI (rk s 15) ∧ N1 0 14 = nI 0)))) : BdH (b + 8) N1 := by
  have hs := bd_slots hB hH hS
  rcases h1 with ⟨-, -, rfl⟩ | ⟨s, hs2, -, ⟨-, -, rfl⟩ | ⟨ht, x1, -, x2⟩⟩
  · exact hB.mono (by omega)
  · exact hB.mono (by omega)
  · exact (bd_new (na := 0) (ra := ra) hH.1 ((f1 4 2 (by omega)).trans hH.2.1) x1 (hs s hs2 ht) (by omega) ⟨x2, fun i hi => by omega⟩ (fun i hi => by omega) (hS.1.keep (f1 0 15 (by omega)) (rowk (fun k => f1 61 k (by omega)))) hs).mono (by omega)
theorem inR_48 {x : Int32} (h : inR x 48 57) : -9 ≤ (x - nI 48).toInt ∧ (x - nI 48).toInt ≤ 9 := by
  obtain ⟨h1, h2⟩ := h
  rw [Int32.toInt_sub]
  have e : (nI 48).toInt = 48 := by decide
  rw [e]
  rw [Int.bmod_eq_of_le] <;> omega
theorem in_bd {M N1 : Mt} {r1 : Int32} {b z : Nat} (hB : BdH b M) (hb : 9 ≤ b) (hz : z ≤ 24)
    (h1 : (r1 = -3 ∧ ¬ OkI (M 2) z ∧ N1 = M) ∨ (OkI (M 2) z ∧ r1 = nI ((z - 1) / 4) ∧ N1 4 2 = nI ((z - 1) / 4) ∧ HE ((z - 1) / 4) (N1 5) (innC (M 2) ((z - 1) / 4)) ∧ LQ ((z - 1) / 4) (N1 6) (innP (M 2)) ∧ N1 0 14 = nI 0 ∧ N1 0 15 = nI 0)) : BdH (b + 8) N1 := by
  rcases h1 with ⟨-, -, rfl⟩ | ⟨ok, -, x1, x2, -, x4, x5⟩
  · exact hB.mono (by omega)
  · have hl := ok.lt
    have hc : bdC 9 ((z - 1) / 4) (innC (M 2) ((z - 1) / 4)) := fun g hg => by
      unfold innC
      rw [if_neg (by omega), if_pos (by omega), show 5 + g - 5 = g by omega]
      have h2 := ok.1 (4 * g + 3) (by omega)
      unfold fitI at h2
      rw [if_neg (by omega), if_neg (by omega), if_neg (by omega), if_neg (by omega), if_pos (by omega)] at h2
      have h3 := inR_48 h2
      omega
    refine (bd_new (na := 0) (ra := fun _ => fun _ => 0) (hk := fun _ => false) (rk := fun _ => fun _ => 0) (by omega) x1 x2 (hc.mono hb) (by omega) ⟨x4, fun i hi => by omega⟩ (fun i hi => by omega) (fun s hs => ⟨?_, fun h => by cases h⟩) (fun s hs h => by cases h)).mono (by omega)
    rw [x5]; exact tb_0
def RelD (b : Nat) (M : Mt) (L : Lt) : Prop := RelC M L ∧ BdH b M ∧ 9 ≤ b
