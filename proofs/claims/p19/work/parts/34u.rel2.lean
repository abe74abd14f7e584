/-! WHAT HOLDS BETWEEN THE CALLS, the house too -/
def core2 (i k : Nat) : Prop := (i = 4 ∧ k = 2) ∨ i = 5 ∨ i = 6 ∨ i = 59 ∨ i = 61 ∨ (i = 0 ∧ (k = 14 ∨ k = 15)) ∨ (i = 76 ∧ (k = 0 ∨ k = 8 ∨ k = 9)) ∨ (i = 78 ∧ k < 22) ∨ i = 77 ∨ i = 82 ∨ i = 88 ∨ i = 89
def RH (n : Nat) (c pw : Row) (M : Mt) : Prop := n ≤ 5 ∧ M 4 2 = nI n ∧ M 76 0 = nI n ∧ HE n (M 5) c ∧ HE n (lvC M 0) c ∧ LQ n (M 6) pw ∧ LQ n (M 77) pw ∧ okC n c
def RAc (n na nx : Nat) (ra : Nat → Row) (M : Mt) : Prop := na ≤ 12 ∧ acX n na ra M ∧ acM n na nx ra M ∧ ∀ i, i < na → okC n (ra i)
def RSl (n : Nat) (hk : Nat → Bool) (rk : Nat → Row) (M : Mt) : Prop := slX n hk rk M ∧ slM n hk rk M ∧ ∀ s, s < 2 → hk s = true → okC n (rk s)
def RelH (M : Mt) : Prop := ∃ n c pw, RH n c pw M ∧ (∃ na nx ra, RAc n na nx ra M) ∧ ∃ hk rk, RSl n hk rk M
def RelB (M : Mt) (L : Lt) : Prop := Inv M ∧ RelA M ∧ RelH M ∧ L 0 = L 76
theorem rowk {M N : Mt} {i : Nat} (h : ∀ k, N i k = M i k) : N i = M i := funext h
theorem lv_keep {n : Nat} {c : Row} {M N : Mt} (hn : n ≤ 5) (h : HE n (lvC M 0) c) (e : ∀ k, k < 22 → N 78 k = M 78 k) : HE n (lvC N 0) c := h.rw1 hn (fun k hk => by
  show N 78 (22 * 0 + k) = M 78 (22 * 0 + k)
  rw [Nat.mul_zero, Nat.zero_add]; exact e k (by omega))
theorem RH.keep {n : Nat} {c pw : Row} {M N : Mt} (h : RH n c pw M) (hk : ∀ i k, core2 i k → N i k = M i k) : RH n c pw N := by
  obtain ⟨h1, h2, h3, h4, h5, h6, h7, h8⟩ := h
  exact ⟨h1, (hk 4 2 (by unfold core2; omega)).trans h2, (hk 76 0 (by unfold core2; omega)).trans h3, by rw [rowk (fun k => hk 5 k (by unfold core2; omega))]; exact h4, lv_keep h1 h5 (fun k hk2 => hk 78 k (by unfold core2; omega)), by rw [rowk (fun k => hk 6 k (by unfold core2; omega))]; exact h6, by rw [rowk (fun k => hk 77 k (by unfold core2; omega))]; exact h7, h8⟩
theorem RAc.keep {n na nx : Nat} {ra : Nat → Row} {M N : Mt} (h : RAc n na nx ra M) (hk : ∀ i k, core2 i k → N i k = M i k) : RAc n na nx ra N := ⟨h.1, h.2.1.keep (hk 0 14 (by unfold core2; omega)) (rowk (fun k => hk 59 k (by unfold core2; omega))), h.2.2.1.keep (hk 76 8 (by unfold core2; omega)) (hk 76 9 (by unfold core2; omega)) (rowk (fun k => hk 82 k (by unfold core2; omega))), h.2.2.2⟩
theorem RSl.keep {n : Nat} {hk : Nat → Bool} {rk : Nat → Row} {M N : Mt} (h : RSl n hk rk M) (e : ∀ i k, core2 i k → N i k = M i k) : RSl n hk rk N := ⟨h.1.keep (e 0 15 (by unfold core2; omega)) (rowk (fun k => e 61 k (by unfold core2; omega))), h.2.1.keep (rowk (fun k => e 88 k (by unfold core2; omega))) (rowk (fun k => e 89 k (by unfold core2; omega))), h.2.2⟩
theorem RelH.keep {M N : Mt} (h : RelH M) (hk : ∀ i k, core2 i k → N i k = M i k) : RelH N := by
  obtain ⟨n, c, pw, h1, ⟨na, nx, ra, h2⟩, hk2, rk, h3⟩ := h
  exact ⟨n, c, pw, h1.keep hk, ⟨na, nx, ra, h2.keep hk⟩, hk2, rk, h3.keep hk⟩
theorem relH_start : RelH M0 := by
  have z : ∀ a i, (rowS M0 a i) = rowS M0 a i := fun _ _ => rfl
  refine ⟨0, fun _ => 0, fun _ => 0, ⟨by omega, rfl, rfl, ⟨fun g hg => by omega, rfl, rfl⟩, ⟨fun g hg => by omega, rfl, rfl⟩, fun g hg => by omega, fun g hg => by omega, fun g hg => by omega, fun i hi => ?_, fun g hg => by omega⟩, ⟨0, 0, fun _ => fun _ => 0, by omega, ⟨rfl, fun i hi => by omega⟩, ⟨rfl, rfl, by omega, fun i hi => by omega⟩, fun i hi => by omega⟩, fun _ => false, fun _ => fun _ => 0, fun s hs => ⟨?_, fun h => (by cases h)⟩, fun s hs => ⟨?_, fun h => (by cases h)⟩, fun s hs h => by cases h⟩
  · exact tb_0
  · exact tb_0
  · show M0 88 s = _
    unfold M0
    rw [if_neg (by omega)]
    rfl
/-! tales -/
theorem run_cg {n : Nat} {dv dv' : Nat → Int32} {w : Int32} {s : TSt} : ∀ m, (∀ p, p < m → dv p = dv' p) → runF n dv w m s = runF n dv' w m s
  | 0, _ => rfl
  | m + 1, h => by
    unfold runF
    rw [run_cg m (fun p hp => h p (by omega)), h m (by omega)]
theorem tale_same {M : Mt} {t z z' k k' : Nat} (hT : RTl M) (ht : t < 3) (hz : z ≤ 24) (hz' : z' ≤ 24) (e : M (70 + 2 * t) 1 = nI z) (e' : M 81 t = nI z') (h : sndT (M (70 + 2 * t + 1)) z k) (h' : sndT (fun i => M 80 (24 * t + i)) z' k') : k = k' ∧ ∀ n w s, runF n (deedV (fun i => M 80 (24 * t + i))) w (k' / 3) s = runF n (deedV (M (70 + 2 * t + 1))) w (k / 3) s := by
  obtain rfl := nI_same (e.symm.trans ((hT t ht).1.trans e')) (by omega) (by omega)
  have hl : ∀ i, i < 24 → M (70 + 2 * t + 1) i = M 80 (24 * t + i) := (hT t ht).2
  obtain rfl := h.same h' (fun i hi => hl i (by omega))
  refine ⟨rfl, fun n w s => run_cg _ (fun p hp => ?_)⟩
  have hk := h.1
  unfold deedV
  rw [hl (3 * p) (by omega), hl (3 * p + 1) (by omega), hl (3 * p + 2) (by omega)]
theorem tell_ok {n z k : Nat} {l c pw : Row} (hn : n ≤ 5) (h : okC n c) (hs : sndT l z k) : okC n (dawnS (runF n (deedV l) (nI 0) (k / 3) (c, pw, nI 0, nI 0))).1 := (okC.run (s := (c, pw, nI 0, nI 0)) h hn (k / 3) (fun p hp => deed_snd hs hp)).dawn hn
theorem push_ok {n na : Nat} {ra : Nat → Row} {c : Row} (h : ∀ i, i < na → okC n (ra i)) (hc : okC n c) (hna : na ≤ 12) : ∀ i, i < pushN na → okC n (pushR na ra c i) := by
  intro i hi
  unfold pushN at hi
  unfold pushR
  by_cases h12 : na = 12
  · rw [if_pos h12]
    split
    · exact hc
    · exact h (i + 1) (by rw [if_pos h12] at hi; omega)
  · rw [if_neg h12] at hi ⊢
    split
    · exact hc
    · exact h i (by omega)
theorem pushN_le {na : Nat} (h : na ≤ 12) : pushN na ≤ 12 := by unfold pushN; split <;> omega
/-! the cases -/
theorem te_step {M N1 N2 : Mt} {r1 r2 a : Int32} {n na nx : Nat} {c pw : Row} {ra : Nat → Row} {hk : Nat → Bool} {rk : Nat → Row} (hT : RTl M) (hH : RH n c pw M) (hA : RAc n na nx ra M) (hS : RSl n hk rk M)
    (f1 : ∀ i k, ¬ ((4 ≤ i ∧ i ≤ 6) ∨ (10 ≤ i ∧ i ≤ 14) ∨ i = 59 ∨ (i = 0 ∧ k = 14)) → N1 i k = M i k) (f2 : ∀ i k, ¬ ((i = 78 ∧ k < 22) ∨ i = 82 ∨ (i = 76 ∧ (k = 7 ∨ k = 8 ∨ k = 9))) → N2 i k = N1 i k)
    (h1 : (r1 = -1 ∧ ¬ (∃ k, k < 3 ∧ a = nI k) ∧ N1 = M) ∨ (∃ t z k, t < 3 ∧ a = nI t ∧ z ≤ 24 ∧ M (70 + 2 * t) 1 = nI z ∧ sndT (M (70 + 2 * t + 1)) z k ∧ HE n (N1 5) (dawnS (runF n (deedV (M (70 + 2 * t + 1))) (nI 0) (k / 3) (c, pw, nI 0, nI 0))).1 ∧ LQ n (N1 6) pw ∧ N1 4 2 = nI n ∧ r1 = (runF n (deedV (M (70 + 2 * t + 1))) (nI 0) (k / 3) (c, pw, nI 0, nI 0)).2.2.2 ∧ acX n (pushN na) (pushR na ra c) N1))
    (h2 : (r2 = -1 ∧ ¬ (∃ k, k < 3 ∧ a = nI k) ∧ N2 = N1) ∨ (∃ t z k, t < 3 ∧ a = nI t ∧ z ≤ 24 ∧ N1 81 t = nI z ∧ sndT (fun i => N1 80 (24 * t + i)) z k ∧ HE n (lvC N2 0) (dawnS (runF n (deedV (fun i => N1 80 (24 * t + i))) (nI 0) (k / 3) (c, pw, nI 0, nI 0))).1 ∧ r2 = (runF n (deedV (fun i => N1 80 (24 * t + i))) (nI 0) (k / 3) (c, pw, nI 0, nI 0)).2.2.2 ∧ acM n (pushN na) ((nx + 1) % 12) (pushR na ra c) N2)) : RelH N2 ∧ r1 = r2 := by
  rcases h1 with ⟨rfl, a1, rfl⟩ | ⟨t, z, k, ht, rfl, hz, ez, hs, x1, x2, x3, rfl, x4⟩
  · rcases h2 with ⟨rfl, b1, rfl⟩ | ⟨t', _, _, ht', rfl, _⟩
    · exact ⟨⟨n, c, pw, hH, ⟨na, nx, ra, hA⟩, hk, rk, hS⟩, rfl⟩
    · exact absurd ⟨t', ht', rfl⟩ a1
  · rcases h2 with ⟨rfl, b1, rfl⟩ | ⟨t', z', k', ht', et, hz', ez', hs', y1, rfl, y2⟩
    · exact absurd ⟨t, ht, rfl⟩ b1
    · obtain rfl := nI_same et (by omega) (by omega)
      have e80 : N1 80 = M 80 := rowk (fun k => f1 80 k (by omega))
      rw [f1 81 t (by omega)] at ez'
      rw [e80] at hs' y1
      obtain ⟨rfl, er⟩ := tale_same hT ht hz hz' ez ez' hs hs'
      rw [er] at y1
      obtain ⟨g1, g2, g3, g4, g5, g6, g7, g8⟩ := hH
      refine ⟨⟨n, _, pw, ⟨g1, (f2 4 2 (by omega)).trans x3, ((f2 76 0 (by omega)).trans (f1 76 0 (by omega))).trans g3, by rw [rowk (fun k => f2 5 k (by omega))]; exact x1, y1, by rw [rowk (fun k => f2 6 k (by omega))]; exact x2, ?_, tell_ok g1 g8 hs⟩, ⟨pushN na, (nx + 1) % 12, pushR na ra c, pushN_le hA.1, x4.keep (f2 0 14 (by omega)) (rowk (fun k => f2 59 k (by omega))), y2, push_ok hA.2.2.2 g8 hA.1⟩, hk, rk, hS.1.keep ((f2 0 15 (by omega)).trans (f1 0 15 (by omega))) (rowk (fun k => (f2 61 k (by omega)).trans (f1 61 k (by omega)))), hS.2.1.keep (rowk (fun k => (f2 88 k (by omega)).trans (f1 88 k (by omega)))) (rowk (fun k => (f2 89 k (by omega)).trans (f1 89 k (by omega)))), hS.2.2⟩, ?_⟩
      · rw [rowk (fun k => (f2 77 k (by omega)).trans (f1 77 k (by omega)))]; exact g7
      · rw [e80, er]
theorem gi_step {M N1 N2 : Mt} {r1 r2 g a : Int32} {n na nx : Nat} {c pw : Row} {ra : Nat → Row} {hk : Nat → Bool} {rk : Nat → Row} (hH : RH n c pw M) (hA : RAc n na nx ra M) (hS : RSl n hk rk M)
    (f1 : ∀ i k, ¬ (i = 5 ∨ i = 59 ∨ (i = 0 ∧ k = 14)) → N1 i k = M i k) (f2 : ∀ i k, ¬ ((i = 78 ∧ k < 22) ∨ i = 82 ∨ (i = 76 ∧ (k = 8 ∨ k = 9))) → N2 i k = N1 i k)
    (h1 : (r1 = -1 ∧ ¬ (∃ k, k < n ∧ g = nI k) ∧ N1 = M) ∨ (∃ k, k < n ∧ g = nI k ∧ ((r1 = -2 ∧ ¬ (∃ k, k < 4 ∧ a = nI k) ∧ N1 = M) ∨ (∃ b, b < 4 ∧ a = nI b ∧ ((r1 = -3 ∧ ¬ (tb (c 15) k = true ∧ ¬ c k = nI b) ∧ N1 = M) ∨ ((tb (c 15) k = true ∧ ¬ c k = nI b) ∧ r1 = c k ∧ HE n (N1 5) (up1 c k (nI b)) ∧ acX n (pushN na) (pushR na ra c) N1))))))
    (h2 : (r2 = -1 ∧ ¬ (∃ k, k < n ∧ g = nI k) ∧ N2 = N1) ∨ (∃ k, k < n ∧ g = nI k ∧ ((r2 = -2 ∧ ¬ (∃ k, k < 4 ∧ a = nI k) ∧ N2 = N1) ∨ (∃ b, b < 4 ∧ a = nI b ∧ ((r2 = -3 ∧ ¬ (tb (c 15) k = true ∧ ¬ c k = nI b) ∧ N2 = N1) ∨ ((tb (c 15) k = true ∧ ¬ c k = nI b) ∧ r2 = c k ∧ HE n (lvC N2 0) (up1 c k (nI b)) ∧ acM n (pushN na) ((nx + 1) % 12) (pushR na ra c) N2)))))) : RelH N2 ∧ r1 = r2 := by
  have same : RelH M := ⟨n, c, pw, hH, ⟨na, nx, ra, hA⟩, hk, rk, hS⟩
  have hn := hH.1
  rcases h1 with ⟨rfl, a1, rfl⟩ | ⟨k, hk1, rfl, h1⟩
  · rcases h2 with ⟨rfl, b1, rfl⟩ | ⟨k', hk', rfl, _⟩
    · exact ⟨same, rfl⟩
    · exact absurd ⟨k', hk', rfl⟩ a1
  · rcases h2 with ⟨rfl, b1, rfl⟩ | ⟨k', hk', ek, h2⟩
    · exact absurd ⟨k, hk1, rfl⟩ b1
    · obtain rfl := nI_same ek (by omega) (by omega)
      rcases h1 with ⟨rfl, a1, rfl⟩ | ⟨b, hb, rfl, h1⟩
      · rcases h2 with ⟨rfl, b1, rfl⟩ | ⟨b', hb', rfl, _⟩
        · exact ⟨same, rfl⟩
        · exact absurd ⟨b', hb', rfl⟩ a1
      · rcases h2 with ⟨rfl, b1, rfl⟩ | ⟨b', hb', eb, h2⟩
        · exact absurd ⟨b, hb, rfl⟩ b1
        · obtain rfl := nI_same eb (by omega) (by omega)
          rcases h1 with ⟨rfl, a1, rfl⟩ | ⟨a1, rfl, x1, x2⟩
          · rcases h2 with ⟨rfl, b1, rfl⟩ | ⟨b1, _⟩
            · exact ⟨same, rfl⟩
            · exact absurd b1 a1
          · rcases h2 with ⟨rfl, b1, rfl⟩ | ⟨b1, rfl, y1, y2⟩
            · exact absurd a1 b1
            · obtain ⟨g1, g2, g3, g4, g5, g6, g7, g8⟩ := hH
              refine ⟨⟨n, _, pw, ⟨g1, ((f2 4 2 (by omega)).trans (f1 4 2 (by omega))).trans g2, ((f2 76 0 (by omega)).trans (f1 76 0 (by omega))).trans g3, by rw [rowk (fun k => f2 5 k (by omega))]; exact x1, y1, by rw [rowk (fun k => (f2 6 k (by omega)).trans (f1 6 k (by omega)))]; exact g6, by rw [rowk (fun k => (f2 77 k (by omega)).trans (f1 77 k (by omega)))]; exact g7, ?_⟩, ⟨pushN na, (nx + 1) % 12, pushR na ra c, pushN_le hA.1, x2.keep (f2 0 14 (by omega)) (rowk (fun k => f2 59 k (by omega))), y2, push_ok hA.2.2.2 g8 hA.1⟩, hk, rk, hS.1.keep ((f2 0 15 (by omega)).trans (f1 0 15 (by omega))) (rowk (fun k => (f2 61 k (by omega)).trans (f1 61 k (by omega)))), hS.2.1.keep (rowk (fun k => (f2 88 k (by omega)).trans (f1 88 k (by omega)))) (rowk (fun k => (f2 89 k (by omega)).trans (f1 89 k (by omega)))), hS.2.2⟩, rfl⟩
              refine ⟨g8.1.up (Or.inr (Or.inr (Or.inl (by omega)))) g1, fun i hi => ?_, nm_up g8.2.2 (Or.inr ⟨b, hb, rfl⟩)⟩
              rw [up1_ne (by omega)]; exact g8.2.1 i hi
theorem un_step2 {M N1 N2 : Mt} {r1 r2 : Int32} {n na nx : Nat} {c pw : Row} {ra : Nat → Row} {hk : Nat → Bool} {rk : Nat → Row} (hH : RH n c pw M) (hA : RAc n na nx ra M) (hS : RSl n hk rk M)
    (f1 : ∀ i k, ¬ (i = 5 ∨ (i = 0 ∧ k = 14)) → N1 i k = M i k) (f2 : ∀ i k, ¬ ((i = 78 ∧ k < 22) ∨ (i = 76 ∧ (k = 8 ∨ k = 9))) → N2 i k = N1 i k)
    (h1 : (r1 = -3 ∧ na = 0 ∧ N1 = M) ∨ (0 < na ∧ r1 = nI (na - 1) ∧ HE n (N1 5) (ra (na - 1)) ∧ acX n (na - 1) ra N1))
    (h2 : (r2 = -3 ∧ na = 0 ∧ N2 = N1) ∨ (0 < na ∧ r2 = nI (na - 1) ∧ HE n (lvC N2 0) (ra (na - 1)) ∧ acM n (na - 1) ((nx + 11) % 12) ra N2)) : RelH N2 ∧ r1 = r2 := by
  rcases h1 with ⟨rfl, a1, rfl⟩ | ⟨a1, rfl, x1, x2⟩
  · rcases h2 with ⟨rfl, b1, rfl⟩ | ⟨b1, _⟩
    · exact ⟨⟨n, c, pw, hH, ⟨na, nx, ra, hA⟩, hk, rk, hS⟩, rfl⟩
    · omega
  · rcases h2 with ⟨rfl, b1, rfl⟩ | ⟨b1, rfl, y1, y2⟩
    · omega
    · obtain ⟨g1, g2, g3, g4, g5, g6, g7, g8⟩ := hH
      exact ⟨⟨n, _, pw, ⟨g1, ((f2 4 2 (by omega)).trans (f1 4 2 (by omega))).trans g2, ((f2 76 0 (by omega)).trans (f1 76 0 (by omega))).trans g3, by rw [rowk (fun k => f2 5 k (by omega))]; exact x1, y1, by rw [rowk (fun k => (f2 6 k (by omega)).trans (f1 6 k (by omega)))]; exact g6, by rw [rowk (fun k => (f2 77 k (by omega)).trans (f1 77 k (by omega)))]; exact g7, hA.2.2.2 (na - 1) (by omega)⟩, ⟨na - 1, (nx + 11) % 12, ra, by have := hA.1; omega, x2.keep (f2 0 14 (by omega)) (rowk (fun k => f2 59 k (by omega))), y2, fun i hi => hA.2.2.2 i (by omega)⟩, hk, rk, hS.1.keep ((f2 0 15 (by omega)).trans (f1 0 15 (by omega))) (rowk (fun k => (f2 61 k (by omega)).trans (f1 61 k (by omega)))), hS.2.1.keep (rowk (fun k => (f2 88 k (by omega)).trans (f1 88 k (by omega)))) (rowk (fun k => (f2 89 k (by omega)).trans (f1 89 k (by omega)))), hS.2.2⟩, rfl⟩
theorem ke_step {M N1 N2 : Mt} {r1 r2 a : Int32} {n na nx : Nat} {c pw : Row} {ra : Nat → Row} {hk : Nat → Bool} {rk : Nat → Row} (hH : RH n c pw M) (hA : RAc n na nx ra M) (hS : RSl n hk rk M)
    (f1 : ∀ i k, ¬ (i = 61 ∨ (i = 0 ∧ k = 15)) → N1 i k = M i k) (f2 : ∀ i k, ¬ (i = 88 ∨ i = 89) → N2 i k = N1 i k)
    (h1 : (r1 = -1 ∧ ¬ (∃ k, k < 2 ∧ a = nI k) ∧ N1 = M) ∨ (∃ s, s < 2 ∧ a = nI s ∧ r1 = bcI (c 15) ∧ slX n (upB hk s) (upK rk s c) N1))
    (h2 : (r2 = -1 ∧ ¬ (∃ k, k < 2 ∧ a = nI k) ∧ N2 = N1) ∨ (∃ s, s < 2 ∧ a = nI s ∧ r2 = sumI 8 (fun k => (c 15 >>> (nI k &&& 31)) &&& nI 1) ∧ slM n (upB hk s) (upK rk s c) N2)) : RelH N2 ∧ r1 = r2 := by
  rcases h1 with ⟨rfl, a1, rfl⟩ | ⟨s, hs, rfl, rfl, x1⟩
  · rcases h2 with ⟨rfl, b1, rfl⟩ | ⟨s', hs', rfl, _⟩
    · exact ⟨⟨n, c, pw, hH, ⟨na, nx, ra, hA⟩, hk, rk, hS⟩, rfl⟩
    · exact absurd ⟨s', hs', rfl⟩ a1
  · rcases h2 with ⟨rfl, b1, rfl⟩ | ⟨s', hs', es, rfl, y1⟩
    · exact absurd ⟨s, hs, rfl⟩ b1
    · obtain rfl := nI_same es (by omega) (by omega)
      have f : ∀ i k, ¬ (i = 61 ∨ i = 88 ∨ i = 89 ∨ (i = 0 ∧ k = 15)) → N2 i k = M i k := fun i k h => (f2 i k (by omega)).trans (f1 i k (by omega))
      have g8 := hH.2.2.2.2.2.2.2
      have hH' : RH n c pw N2 := by
        obtain ⟨g1, g2, g3, g4, g5, g6, g7, g8⟩ := hH
        exact ⟨g1, (f 4 2 (by omega)).trans g2, (f 76 0 (by omega)).trans g3, by rw [rowk (fun k => f 5 k (by omega))]; exact g4, lv_keep g1 g5 (fun k _ => f 78 k (by omega)), by rw [rowk (fun k => f 6 k (by omega))]; exact g6, by rw [rowk (fun k => f 77 k (by omega))]; exact g7, g8⟩
      refine ⟨⟨n, c, pw, hH', ⟨na, nx, ra, hA.1, hA.2.1.keep (f 0 14 (by omega)) (rowk (fun k => f 59 k (by omega))), hA.2.2.1.keep (f 76 8 (by omega)) (f 76 9 (by omega)) (rowk (fun k => f 82 k (by omega))), hA.2.2.2⟩, upB hk s, upK rk s c, x1.keep (f2 0 15 (by omega)) (rowk (fun k => f2 61 k (by omega))), y1, fun i hi h => ?_⟩, bc_ones hH.1 g8.2.1⟩
      unfold upB at h
      unfold upK
      by_cases he : i = s
      · rw [if_pos he]; exact g8
      · rw [if_neg he] at h ⊢; exact hS.2.2 i hi h
theorem ag_step {M N1 N2 : Mt} {r1 r2 a : Int32} {n na nx : Nat} {c pw : Row} {ra : Nat → Row} {hk : Nat → Bool} {rk : Nat → Row} (hH : RH n c pw M) (hA : RAc n na nx ra M) (hS : RSl n hk rk M)
    (f1 : ∀ i k, ¬ (i = 5 ∨ (i = 0 ∧ k = 14)) → N1 i k = M i k) (f2 : ∀ i k, ¬ ((i = 78 ∧ k < 22) ∨ (i = 76 ∧ k = 8)) → N2 i k = N1 i k)
    (h1 : (r1 = -1 ∧ ¬ (∃ k, k < 2 ∧ a = nI k) ∧ N1 = M) ∨ (∃ s, s < 2 ∧ a = nI s ∧ ((r1 = -3 ∧ hk s = false ∧ N1 = M) ∨ (hk s = true ∧ HE n (N1 5) (rk s) ∧ r1 = bcI (rk s 15) ∧ N1 0 14 = nI 0))))
    (h2 : (r2 = -1 ∧ ¬ (∃ k, k < 2 ∧ a = nI k) ∧ N2 = N1) ∨ (∃ s, s < 2 ∧ a = nI s ∧ ((r2 = -3 ∧ hk s = false ∧ N2 = N1) ∨ (hk s = true ∧ HE n (lvC N2 0) (rk s) ∧ r2 = sumI 8 (fun k => (rk s 15 >>> (nI k &&& 31)) &&& nI 1) ∧ N2 76 8 = nI 0)))) : RelH N2 ∧ r1 = r2 := by
  have same : RelH M := ⟨n, c, pw, hH, ⟨na, nx, ra, hA⟩, hk, rk, hS⟩
  rcases h1 with ⟨rfl, a1, rfl⟩ | ⟨s, hs, rfl, h1⟩
  · rcases h2 with ⟨rfl, b1, rfl⟩ | ⟨s', hs', rfl, _⟩
    · exact ⟨same, rfl⟩
    · exact absurd ⟨s', hs', rfl⟩ a1
  · rcases h2 with ⟨rfl, b1, rfl⟩ | ⟨s', hs', es, h2⟩
    · exact absurd ⟨s, hs, rfl⟩ b1
    · obtain rfl := nI_same es (by omega) (by omega)
      rcases h1 with ⟨rfl, a1, rfl⟩ | ⟨a1, x1, rfl, x2⟩
      · rcases h2 with ⟨rfl, b1, rfl⟩ | ⟨b1, _⟩
        · exact ⟨same, rfl⟩
        · rw [a1] at b1; cases b1
      · rcases h2 with ⟨rfl, b1, rfl⟩ | ⟨b1, y1, rfl, y2⟩
        · rw [a1] at b1; cases b1
        · have ok := hS.2.2 s hs a1
          obtain ⟨g1, g2, g3, g4, g5, g6, g7, g8⟩ := hH
          exact ⟨⟨n, _, pw, ⟨g1, ((f2 4 2 (by omega)).trans (f1 4 2 (by omega))).trans g2, ((f2 76 0 (by omega)).trans (f1 76 0 (by omega))).trans g3, by rw [rowk (fun k => f2 5 k (by omega))]; exact x1, y1, by rw [rowk (fun k => (f2 6 k (by omega)).trans (f1 6 k (by omega)))]; exact g6, by rw [rowk (fun k => (f2 77 k (by omega)).trans (f1 77 k (by omega)))]; exact g7, ok⟩, ⟨0, nx, ra, by omega, ⟨(f2 0 14 (by omega)).trans x2, fun i hi => by omega⟩, ⟨y2, ((f2 76 9 (by omega)).trans (f1 76 9 (by omega))).trans hA.2.2.1.2.1, hA.2.2.1.2.2.1, fun i hi => by omega⟩, fun i hi => by omega⟩, hk, rk, hS.1.keep ((f2 0 15 (by omega)).trans (f1 0 15 (by omega))) (rowk (fun k => (f2 61 k (by omega)).trans (f1 61 k (by omega)))), hS.2.1.keep (rowk (fun k => (f2 88 k (by omega)).trans (f1 88 k (by omega)))) (rowk (fun k => (f2 89 k (by omega)).trans (f1 89 k (by omega)))), hS.2.2⟩, bc_ones g1 ok.2.1⟩
theorem OkI.guest {l : Row} {z g : Nat} (h : OkI l z) (hg : g < (z - 1) / 4) : inR (l (4 * g + 2)) 97 100 := by
  have h1 := h.lt
  have h2 := h.1 (4 * g + 2) (by omega)
  unfold fitI at h2
  rw [if_neg (by omega), if_neg (by omega), if_neg (by omega), if_pos (by omega)] at h2
  exact h2
theorem ev_al {n : Nat} (hn : n ≤ 5) : ∀ i, n ≤ i → tb (evI n) i = false := by
  intro i hi
  by_cases h : i < 32
  · exact (by decide +kernel : ∀ n, n < 6 → ∀ i, i < 32 → n ≤ i → tb (evI n) i = false) n (by omega) i h hi
  · exact tb_ge (by omega)
theorem inn_ok {l : Row} {z : Nat} (h : OkI l z) : okC ((z - 1) / 4) (innC l ((z - 1) / 4)) := by
  have h1 := h.lt
  refine ⟨fun g hg => Or.inl ?_, fun i hi => ?_, fun g hg => ?_⟩
  · unfold innC
    rw [if_neg (by omega), if_neg (by omega), if_pos (by omega)]
  · show tb (innC l ((z - 1) / 4) 15) i = false
    exact ev_al (by omega) i hi
  · unfold innC
    rw [if_pos (by omega)]
    exact inR_sub (h.guest hg)
theorem inn_cg {l l' : Row} {z : Nat} (hz : z ≤ 21) (hl : ∀ i, i < z → l i = l' i) : HE ((z - 1) / 4) (innC l ((z - 1) / 4)) (innC l' ((z - 1) / 4)) ∧ LQ ((z - 1) / 4) (innP l) (innP l') := by
  refine ⟨⟨fun g hg => ⟨?_, ?_, ?_⟩, rfl, rfl⟩, fun g hg => ?_⟩
  · unfold innC
    rw [if_pos (by omega), if_pos (by omega), hl _ (by omega)]
  · unfold innC
    rw [if_neg (by omega), if_pos (by omega), if_neg (by omega), if_pos (by omega), hl _ (by omega)]
  · unfold innC
    (repeat (first | rw [if_neg (by omega)] | rw [if_pos (by omega)]))
  · unfold innP
    rw [hl _ (by omega)]
theorem in_step2 {M N1 N2 : Mt} {r1 r2 : Int32} {z : Nat} (hLt : RLt M) (hR : RelH M) (hz : z ≤ 24)
    (f1 : ∀ i k, ¬ ((4 ≤ i ∧ i ≤ 6) ∨ (i = 0 ∧ (k = 14 ∨ k = 15))) → N1 i k = M i k) (f2 : ∀ i k, ¬ (i = 77 ∨ i = 78 ∨ i = 88 ∨ (i = 76 ∧ (k = 0 ∨ k = 8))) → N2 i k = N1 i k)
    (h1 : (r1 = -3 ∧ ¬ OkI (M 2) z ∧ N1 = M) ∨ (OkI (M 2) z ∧ r1 = nI ((z - 1) / 4) ∧ N1 4 2 = nI ((z - 1) / 4) ∧ HE ((z - 1) / 4) (N1 5) (innC (M 2) ((z - 1) / 4)) ∧ LQ ((z - 1) / 4) (N1 6) (innP (M 2)) ∧ N1 0 14 = nI 0 ∧ N1 0 15 = nI 0))
    (h2 : (r2 = -3 ∧ ¬ OkI (N1 79) z ∧ N2 = N1) ∨ (OkI (N1 79) z ∧ r2 = nI ((z - 1) / 4) ∧ N2 76 0 = nI ((z - 1) / 4) ∧ HE ((z - 1) / 4) (lvC N2 0) (innC (N1 79) ((z - 1) / 4)) ∧ LQ ((z - 1) / 4) (N2 77) (innP (N1 79)) ∧ N2 76 8 = nI 0 ∧ ∀ s, s < 2 → N2 88 s = 0)) : RelH N2 ∧ r1 = r2 := by
  have e79 : N1 79 = M 79 := rowk (fun k => f1 79 k (by omega))
  rw [e79] at h2
  rcases h1 with ⟨rfl, a1, rfl⟩ | ⟨a0, rfl, x1, x2, x3, x4, x5⟩
  · rcases h2 with ⟨rfl, b1, rfl⟩ | ⟨b0, _⟩
    · exact ⟨hR, rfl⟩
    · exact absurd (b0.same (fun i hi => (hLt i (by omega)).symm)) a1
  · rcases h2 with ⟨rfl, b1, rfl⟩ | ⟨b0, rfl, y1, y2, y3, y4, y5⟩
    · exact absurd (a0.same (fun i hi => hLt i (by omega))) b1
    · obtain ⟨n, c, pw, hH, ⟨na, nx, ra, hA⟩, hk, rk, hS⟩ := hR
      have hl := a0.lt
      obtain ⟨c1, c2⟩ := inn_cg (l := M 2) (l' := M 79) hl.2 (fun i hi => hLt i (by omega))
      refine ⟨⟨(z - 1) / 4, innC (M 2) ((z - 1) / 4), innP (M 2), ⟨by omega, (f2 4 2 (by omega)).trans x1, y1, by rw [rowk (fun k => f2 5 k (by omega))]; exact x2, y2.tr c1.sy, by rw [rowk (fun k => f2 6 k (by omega))]; exact x3, fun g hg => (y3 g hg).trans (c2 g hg).symm, inn_ok a0⟩, ⟨0, nx, ra, by omega, ⟨(f2 0 14 (by omega)).trans x4, fun i hi => by omega⟩, ⟨y4, ((f2 76 9 (by omega)).trans (f1 76 9 (by omega))).trans hA.2.2.1.2.1, hA.2.2.1.2.2.1, fun i hi => by omega⟩, fun i hi => by omega⟩, fun _ => false, rk, fun s hs => ⟨?_, fun h => (by cases h)⟩, fun s hs => ⟨?_, fun h => (by cases h)⟩, fun s hs h => by cases h⟩, rfl⟩
      · rw [f2 0 15 (by omega), x5]; exact tb_0
      · rw [y5 s hs]; rfl
/-! the answers -/
