/-! WHAT HOLDS BETWEEN THE CALLS, what was seen too; answers over means, seen, nights -/
def core3 (i k : Nat) : Prop := i = 65 ∨ i = 66 ∨ i = 86 ∨ i = 87 ∨ (i = 64 ∧ k = 2) ∨ (i = 76 ∧ k = 15)
def snQ (m : Nat) (M : Mt) : Prop := ∀ i, i < m → M 86 i = M 65 i ∧ M 87 i = facM (M 66 i) ∧ okF (M 66 i)
def RelS (M : Mt) : Prop := ∃ m, m ≤ 6 ∧ M 64 2 = nI m ∧ M 76 15 = nI m ∧ snQ m M
def RelC (M : Mt) (L : Lt) : Prop := RelB M L ∧ RelS M
theorem snQ.keep {m : Nat} {M N : Mt} (h : snQ m M) (hk : ∀ i k, core3 i k → N i k = M i k) : snQ m N := fun i hi => by
  rw [hk 86 i (by unfold core3; omega), hk 65 i (by unfold core3; omega), hk 87 i (by unfold core3; omega), hk 66 i (by unfold core3; omega)]
  exact h i hi
theorem RelS.keep {M N : Mt} (h : RelS M) (hk : ∀ i k, core3 i k → N i k = M i k) : RelS N := by
  obtain ⟨m, h1, h2, h3, h4⟩ := h
  exact ⟨m, h1, (hk 64 2 (by unfold core3; omega)).trans h2, (hk 76 15 (by unfold core3; omega)).trans h3, h4.keep hk⟩
theorem relS_start : RelS M0 := ⟨0, by omega, rfl, rfl, fun i hi => by omega⟩
theorem sn_new {M : Mt} {m : Nat} {g x y : Int32} (h : snQ m M) (hm : m < 6) (hx : okF x) (hy : y = facM x) : RelS (up2 (up2 (up2 (up2 (up2 (up2 M 65 m g) 66 m x) 64 2 (nI (m + 1))) 86 m g) 87 m y) 76 15 (nI (m + 1))) := by
  refine ⟨m + 1, by omega, ?_, up2_eq, fun i hi => ?_⟩
  · rw [up2_ne (by omega), up2_ne (by omega), up2_ne (by omega), up2_eq]
  · by_cases he : i = m
    · subst he
      refine ⟨?_, ?_, ?_⟩
      · rw [up2_ne (by omega), up2_ne (by omega), up2_eq, up2_ne (by omega), up2_ne (by omega), up2_ne (by omega), up2_ne (by omega), up2_ne (by omega), up2_eq]
      · rw [up2_ne (by omega), up2_eq, up2_ne (by omega), up2_ne (by omega), up2_ne (by omega), up2_ne (by omega), up2_eq]
        exact hy
      · rw [up2_ne (by omega), up2_ne (by omega), up2_ne (by omega), up2_ne (by omega), up2_eq]
        exact hx
    · have e : ∀ a, (a = 65 ∨ a = 66 ∨ a = 86 ∨ a = 87) → up2 (up2 (up2 (up2 (up2 (up2 M 65 m g) 66 m x) 64 2 (nI (m + 1))) 86 m g) 87 m y) 76 15 (nI (m + 1)) a i = M a i := fun a ha => by
        rw [up2_ne (by omega), up2_ne (by omega), up2_ne (by omega), up2_ne (by omega), up2_ne (by omega), up2_ne (by omega)]
      rw [e 86 (by omega), e 65 (by omega), e 87 (by omega), e 66 (by omega)]
      exact h i (by omega)
theorem se_rel {M N1 N2 : Mt} {r1 r2 g x y : Int32} {m : Nat} {G : Prop} (hR : RelS M) (hs : snQ m M) (hx : okF x) (hy : y = facM x) (h1 : (r1 = -1 ∧ ¬ G ∧ N1 = M) ∨ (G ∧ ((r1 = -4 ∧ m = 6 ∧ N1 = M) ∨ (r1 = nI (m + 1) ∧ m < 6 ∧ N1 = up2 (up2 (up2 M 65 m g) 66 m x) 64 2 (nI (m + 1))))))
    (h2 : (r2 = -1 ∧ ¬ G ∧ N2 = N1) ∨ (G ∧ ((r2 = -4 ∧ m = 6 ∧ N2 = N1) ∨ (r2 = nI (m + 1) ∧ m < 6 ∧ N2 = up2 (up2 (up2 N1 86 m g) 87 m y) 76 15 (nI (m + 1)))))) : RelS N2 := by
  rcases h1 with ⟨rfl, a1, rfl⟩ | ⟨a0, ⟨rfl, a1, rfl⟩ | ⟨rfl, a1, rfl⟩⟩
  · rcases h2 with ⟨rfl, b1, rfl⟩ | ⟨b0, _⟩
    · exact hR
    · exact absurd b0 a1
  · rcases h2 with ⟨rfl, b1, rfl⟩ | ⟨b0, ⟨rfl, b1, rfl⟩ | ⟨rfl, b1, rfl⟩⟩
    · exact absurd a0 b1
    · exact hR
    · omega
  · rcases h2 with ⟨rfl, b1, rfl⟩ | ⟨b0, ⟨rfl, b1, rfl⟩ | ⟨rfl, b1, rfl⟩⟩
    · exact absurd a0 b1
    · omega
    · exact sn_new hs a1 hx hy
theorem sc_rel {M N1 N2 : Mt} {r1 r2 g x y : Int32} {m : Nat} {G : Prop} (hR : RelS M) (hs : snQ m M) (hy : inR x (-50) 50 → y = facM x) (h1 : (r1 = -1 ∧ ¬ G ∧ N1 = M) ∨ (G ∧ ((r1 = -2 ∧ ¬ inR x (-50) 50 ∧ N1 = M) ∨ (inR x (-50) 50 ∧ ((r1 = -4 ∧ m = 6 ∧ N1 = M) ∨ (r1 = nI (m + 1) ∧ m < 6 ∧ N1 = up2 (up2 (up2 M 65 m g) 66 m x) 64 2 (nI (m + 1))))))))
    (h2 : (r2 = -1 ∧ ¬ G ∧ N2 = N1) ∨ (G ∧ ((r2 = -2 ∧ ¬ inR x (-50) 50 ∧ N2 = N1) ∨ (inR x (-50) 50 ∧ ((r2 = -4 ∧ m = 6 ∧ N2 = N1) ∨ (r2 = nI (m + 1) ∧ m < 6 ∧ N2 = up2 (up2 (up2 N1 86 m g) 87 m y) 76 15 (nI (m + 1)))))))) : RelS N2 := by
  rcases h1 with ⟨rfl, a1, rfl⟩ | ⟨a0, ⟨rfl, a1, rfl⟩ | ⟨a2, h1⟩⟩
  · rcases h2 with ⟨rfl, b1, rfl⟩ | ⟨b0, _⟩
    · exact hR
    · exact absurd b0 a1
  · rcases h2 with ⟨rfl, b1, rfl⟩ | ⟨b0, ⟨rfl, b1, rfl⟩ | ⟨b2, _⟩⟩
    · exact absurd a0 b1
    · exact hR
    · exact absurd b2 a1
  · rcases h2 with ⟨rfl, b1, rfl⟩ | ⟨b0, ⟨rfl, b1, rfl⟩ | ⟨b2, h2⟩⟩
    · exact absurd a0 b1
    · exact absurd a2 b1
    · exact se_rel (G := True) hR hs (Or.inr (Or.inr a2)) (hy a2) (Or.inr ⟨trivial, h1⟩) (Or.inr ⟨trivial, h2⟩)
theorem un_rel {M N1 N2 : Mt} {r1 r2 : Int32} {n : Nat} (h1 : r1 = nI n ∧ N1 = up2 M 64 2 (nI 0)) (h2 : r2 = nI n ∧ N2 = up2 N1 76 15 (nI 0)) : RelS N2 := by
  obtain ⟨-, rfl⟩ := h1
  obtain ⟨-, rfl⟩ := h2
  exact ⟨0, by omega, by rw [up2_ne (by omega), up2_eq], up2_eq, fun i hi => by omega⟩
theorem fac_b {b : Int32} : okF (if b = 0 then nI 1001 else nI 1000) ∧ (if b = 0 then nI 0 else nI 1) = facM (if b = 0 then nI 1001 else nI 1000) := by
  by_cases h : b = 0
  · rw [if_pos h, if_pos h]; exact ⟨Or.inr (Or.inl rfl), by decide⟩
  · rw [if_neg h, if_neg h]; exact ⟨Or.inl rfl, by decide⟩
theorem fac_c {x : Int32} (h : inR x (-50) 50) : nI 100 + x = facM x := by
  obtain ⟨n1, n2, -⟩ := fa_v h
  unfold facM
  rw [if_neg n1, if_neg n2]
/-! answers -/
theorem lkR.same {on : Nat → Nat} {f : Nat → Bool} {t : Nat} {u r r' : Int32} (h : lkR on f t u r) (h' : lkR on f t u r') : r = r' := by
  rcases h with ⟨h1, rfl⟩ | ⟨h1, rfl⟩
  · rcases h' with ⟨-, rfl⟩ | ⟨g1, -⟩
    · rfl
    · omega
  · rcases h' with ⟨g1, -⟩ | ⟨-, rfl⟩
    · omega
    · rfl
theorem od_nat {M : Mt} (hI : Inv M) : ∃ on : Nat → Nat, (∀ t, t < 3 → M 85 t = nI (on t)) ∧ ∀ t, on t ≤ 10 := by
  have h : ∀ t : Nat, ∃ v, v ≤ 10 ∧ (t < 3 → M 85 t = nI v) := fun t => by
    obtain ⟨v, hv, e⟩ := inv_85 hI t
    exact ⟨v, hv, fun _ => e⟩
  obtain ⟨f, hf⟩ := Classical.axiomOfChoice h
  exact ⟨f, fun t ht => (hf t).2 ht, fun t => (hf t).1⟩
