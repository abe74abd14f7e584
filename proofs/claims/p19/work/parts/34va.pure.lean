/-! TALES AS THEY ARE, on both sides; means -/
theorem snd_ex (l : Row) : ∀ z : Nat, ∃ k, sndT l z k
  | 0 => ⟨0, Nat.le_refl _, fun i hi => absurd hi (Nat.not_lt_zero _), fun h => absurd h (Nat.not_lt_zero _)⟩
  | z + 1 => by
    obtain ⟨k, h1, h2, h3⟩ := snd_ex l z
    by_cases hk : k < z
    · exact ⟨k, by omega, h2, fun _ => h3 hk⟩
    · have e : k = z := by omega
      subst e
      by_cases hf : fitT k (l k)
      · refine ⟨k + 1, Nat.le_refl _, fun i hi => ?_, fun h => absurd h (Nat.lt_irrefl _)⟩
        by_cases he : i = k
        · rw [he]; exact hf
        · exact h2 i (by omega)
      · exact ⟨k, by omega, h2, fun _ => hf⟩
noncomputable def sndN (l : Row) (z : Nat) : Nat := Classical.choose (snd_ex l z)
theorem sndN_spec (l : Row) (z : Nat) : sndT l z (sndN l z) := Classical.choose_spec (snd_ex l z)
theorem sndN_eq {l l' : Row} {z k : Nat} (h : sndT l' z k) (hl : ∀ i, i < z → l' i = l i) : k = sndN l z := h.same (sndN_spec l z) hl
/-- tales: how long, their letters -/
abbrev TLs : Type := Nat → Nat × Row
def tlX (T : TLs) (M : Mt) : Prop := ∀ t, t < 3 → (T t).1 ≤ 24 ∧ M (70 + 2 * t) 1 = nI (T t).1 ∧ ∀ i, i < 24 → M (70 + 2 * t + 1) i = (T t).2 i
def tlM (T : TLs) (M : Mt) : Prop := ∀ t, t < 3 → (T t).1 ≤ 24 ∧ M 81 t = nI (T t).1 ∧ ∀ i, i < 24 → M 80 (24 * t + i) = (T t).2 i
noncomputable def nD (T : TLs) (t : Nat) : Nat := sndN (T t).2 (T t).1 / 3
noncomputable def TLw (n : Nat) (T : TLs) (pw : Row) (w : Int32) (t : Nat) (c : Row) : TSt := runF n (deedV (T t).2) w (nD T t) (c, pw, nI 0, nI 0)
noncomputable def TL (n : Nat) (T : TLs) (pw : Row) (t : Nat) (c : Row) : TSt := TLw n T pw (nI 0) t c
theorem tl_ex {M : Mt} (hI : Inv M) (h : RTl M) : ∃ T : TLs, tlX T M ∧ tlM T M := by
  have h1 : ∀ t : Nat, ∃ z, t < 3 → z ≤ 24 ∧ M (70 + 2 * t) 1 = nI z := fun t => by
    by_cases ht : t < 3
    · obtain ⟨z, hz, e⟩ := inv_s hI (sc_tale t ht)
      exact ⟨z, fun _ => ⟨hz, e⟩⟩
    · exact ⟨0, fun h => absurd h ht⟩
  obtain ⟨f, hf⟩ := Classical.axiomOfChoice h1
  refine ⟨fun t => (f t, M (70 + 2 * t + 1)), fun t ht => ⟨(hf t ht).1, (hf t ht).2, fun i _ => rfl⟩, fun t ht => ⟨(hf t ht).1, ((h t ht).1.symm.trans (hf t ht).2), fun i hi => ((h t ht).2 i hi).symm⟩⟩
theorem tlX.keep {T : TLs} {M N : Mt} (h : tlX T M) (e : ∀ i k, 70 ≤ i → i ≤ 75 → N i k = M i k) : tlX T N := fun t ht => ⟨(h t ht).1, (e _ _ (by omega) (by omega)).trans (h t ht).2.1, fun i hi => (e _ _ (by omega) (by omega)).trans ((h t ht).2.2 i hi)⟩
theorem tlM.keep {T : TLs} {M N : Mt} (h : tlM T M) (e0 : N 80 = M 80) (e1 : N 81 = M 81) : tlM T N := fun t ht => ⟨(h t ht).1, by rw [e1]; exact (h t ht).2.1, fun i hi => by rw [e0]; exact (h t ht).2.2 i hi⟩
theorem up1_up1 {c : Row} {k : Nat} {v w : Int32} : up1 (up1 c k v) k w = up1 c k w := by
  funext i
  unfold up1
  split
  · rfl
  · rfl
/-- like c but for the name of k -/
def HN (n k : Nat) (r c : Row) : Prop := HE n (up1 r k 0) (up1 c k 0)
theorem HN.set {n k : Nat} {r c : Row} {a : Int32} (h : HN n k r c) : HE n (up1 r k a) (up1 c k a) := by
  have := h.up k (rfl : a = a)
  rw [up1_up1, up1_up1] at this
  exact this
theorem HN.of {n k : Nat} {r c : Row} {a : Int32} (h : HE n r (up1 c k a)) : HN n k r c := by
  have := h.up k (rfl : (0 : Int32) = 0)
  rw [up1_up1] at this
  exact this
theorem HN.he {n k : Nat} {r c : Row} (h : HE n r c) : HN n k r c := h.up k rfl
/-- the first of the greatest of m numbers -/
def isMF (f : Nat → Int32) (m b : Nat) : Prop := b < m ∧ (∀ i, i < m → f i ≤ f b) ∧ ∀ i, i < b → f i < f b
theorem isMF.same {f : Nat → Int32} {m b b' : Nat} (h : isMF f m b) (h' : isMF f m b') : b = b' := by
  obtain ⟨h1, h2, h3⟩ := h
  obtain ⟨g1, g2, g3⟩ := h'
  rcases Nat.lt_trichotomy b b' with hl | hl | hl
  · exact absurd (h2 b' g1) (Int32.not_le.mpr (g3 b hl))
  · exact hl
  · exact absurd (g2 b h1) (Int32.not_le.mpr (h3 b' hl))
theorem isMF.one {f : Nat → Int32} : isMF f 1 0 := ⟨by omega, fun i hi => by rw [show i = 0 by omega]; exact Int32.le_refl _, fun i hi => by omega⟩
theorem isMF.up {f : Nat → Int32} {m b : Nat} (h : isMF f m b) (hg : f b < f m) : isMF f (m + 1) m := by
  obtain ⟨h1, h2, h3⟩ := h
  have key : ∀ i, i < m → f i < f m := fun i hi => by
    have a1 := Int32.le_iff_toInt_le.mp (h2 i hi)
    have a2 := Int32.lt_iff_toInt_lt.mp hg
    exact Int32.lt_iff_toInt_lt.mpr (by omega)
  refine ⟨by omega, fun i hi => ?_, key⟩
  by_cases he : i = m
  · rw [he]; exact Int32.le_refl _
  · exact Int32.le_of_lt (key i (by omega))
theorem isMF.stay {f : Nat → Int32} {m b : Nat} (h : isMF f m b) (hg : f m ≤ f b) : isMF f (m + 1) b := by
  obtain ⟨h1, h2, h3⟩ := h
  refine ⟨by omega, fun i hi => ?_, h3⟩
  by_cases he : i = m
  · rw [he]; exact hg
  · exact h2 i (by omega)
/-- which of the pairs rest; how many, which is the first -/
noncomputable def cntP (P : Nat → Prop) : Nat → Nat
  | 0 => 0
  | m + 1 => cntP P m + @ite Nat (P m) (Classical.propDecidable (P m)) 1 0
def fstP (P : Nat → Prop) (m : Nat) (r : Int32) : Prop := (∃ k, k < m ∧ P k ∧ (∀ i, i < k → ¬ P i) ∧ r = nI (10 * (k / 4) + k % 4)) ∨ ((∀ i, i < m → ¬ P i) ∧ r = -9)
theorem fstP.same {P : Nat → Prop} {m : Nat} {r r' : Int32} (h : fstP P m r) (h' : fstP P m r') : r = r' := by
  rcases h with ⟨k, h1, h2, h3, rfl⟩ | ⟨h1, rfl⟩
  · rcases h' with ⟨k', g1, g2, g3, rfl⟩ | ⟨g1, rfl⟩
    · rcases Nat.lt_trichotomy k k' with hl | hl | hl
      · exact absurd h2 (g3 k hl)
      · rw [hl]
      · exact absurd g2 (h3 k' hl)
    · exact absurd h2 (g1 k h1)
  · rcases h' with ⟨k', g1, g2, g3, rfl⟩ | ⟨g1, rfl⟩
    · exact absurd g2 (h1 k' g1)
    · rfl
/-- the pair p rests: f and k are the means of the first and of the other -/
def rstP (f h : Nat → Nat → Int32) (p : Nat) : Prop := ∀ z, z < 4 → f z (p % 4) ≤ f (p / 4) (p % 4) ∧ h (p / 4) z ≤ h (p / 4) (p % 4)
/-- the two rows of means -/
def mnQ (f : Nat → Nat → Int32) (m : Nat) (r : Row) : Prop := ∀ p, p < m → r p = f (p / 4) (p % 4)
theorem mnQ.at {f : Nat → Nat → Int32} {r : Row} (h : mnQ f 16 r) {x y p : Nat} (hx : x < 4) (hy : y < 4) (e : p = x * 4 + y) : r p = f x y := by
  rw [h p (by omega), show p / 4 = x by omega, show p % 4 = y by omega]
theorem mnQ.up {f : Nat → Nat → Int32} {r r' : Row} {m : Nat} {v : Int32} (h : mnQ f m r) (e : r' = up1 r m v) (hv : v = f (m / 4) (m % 4)) : mnQ f (m + 1) r' := by
  intro p hp
  rw [e]
  by_cases he : p = m
  · rw [he, up1_eq, hv]
  · rw [up1_ne he]; exact h p (by omega)
/-- like c but for the names of k and j -/
def HN2 (n k j : Nat) (r c : Row) : Prop := HE n (up1 (up1 r k 0) j 0) (up1 (up1 c k 0) j 0)
theorem up4 {c : Row} {k j : Nat} {a b u v : Int32} : up1 (up1 (up1 (up1 c k u) j v) k a) j b = up1 (up1 c k a) j b := by
  funext i
  unfold up1
  (repeat' split) <;> first | rfl | contradiction
theorem HN2.set {n k j : Nat} {r c : Row} {a b : Int32} (h : HN2 n k j r c) : HE n (up1 (up1 r k a) j b) (up1 (up1 c k a) j b) := by
  have := (h.up k (rfl : a = a)).up j (rfl : b = b)
  rw [up4, up4] at this
  exact this
theorem HN2.of {n k j : Nat} {r c : Row} {a b : Int32} (h : HE n r (up1 (up1 c k a) j b)) : HN2 n k j r c := by
  have := (h.up k (rfl : (0 : Int32) = 0)).up j (rfl : (0 : Int32) = 0)
  rw [up4] at this
  exact this
theorem HN2.he {n k j : Nat} {r c : Row} (h : HE n r c) : HN2 n k j r c := (h.up k rfl).up j rfl
/-- the pairs, in the reference's order -/
def rsI (f h : Nat → Nat → Int32) (p m g : Nat) : Prop := (g = 1 ∧ ∀ z, z < m → f z (p % 4) ≤ f (p / 4) (p % 4) ∧ h (p / 4) z ≤ h (p / 4) (p % 4)) ∨ (g = 0 ∧ ¬ rstP f h p)
def rsE (f h : Nat → Nat → Int32) (p g : Nat) : Prop := (g = 1 ∧ rstP f h p) ∨ (g = 0 ∧ ¬ rstP f h p)
theorem rsI.e4 {f h : Nat → Nat → Int32} {p m g : Nat} (hi : rsI f h p m g) (hm : m = 4) : rsE f h p g := by
  subst hm
  exact hi
theorem rsI.e0 {f h : Nat → Nat → Int32} {p m g : Nat} (hi : rsI f h p m g) (hm : g = 0) : rsE f h p g := by
  rcases hi with ⟨e, -⟩ | e
  · omega
  · exact Or.inr e
theorem rsI.up {f h : Nat → Nat → Int32} {p m g : Nat} {a b u v : Int32} (hi : rsI f h p m g) (hg : ¬ g = 0) (e1 : a = f m (p % 4)) (e2 : b = f (p / 4) (p % 4)) (e3 : u = h (p / 4) m) (e4 : v = h (p / 4) (p % 4)) (h1 : ¬ b < a) (h2 : ¬ v < u) : rsI f h p (m + 1) 1 := by
  rcases hi with ⟨-, e⟩ | ⟨e, -⟩
  · rw [e1, e2] at h1
    rw [e3, e4] at h2
    exact Or.inl ⟨rfl, lt_ext e ⟨Int32.not_lt.mp h1, Int32.not_lt.mp h2⟩⟩
  · exact absurd e hg
theorem rsE.c1 {f h : Nat → Nat → Int32} {p g : Nat} (hi : rsE f h p g) (hg : ¬ g = 0) : rstP f h p := by
  rcases hi with ⟨-, e⟩ | ⟨e, -⟩
  · exact e
  · exact absurd e hg
theorem rsE.c0 {f h : Nat → Nat → Int32} {p g : Nat} (hi : rsE f h p g) (hg : g = 0) : ¬ rstP f h p := by
  rcases hi with ⟨e, -⟩ | ⟨-, e⟩
  · omega
  · exact e
def rsR (P : Nat → Prop) (w r : Int32) : Prop := (w = nI 0 ∧ r = nI (cntP P 16)) ∨ (¬ w = nI 0 ∧ fstP P 16 r)
theorem rsR.same {P : Nat → Prop} {w r r' : Int32} (h : rsR P w r) (h' : rsR P w r') : r = r' := by
  rcases h with ⟨h1, rfl⟩ | ⟨h1, h2⟩
  · rcases h' with ⟨-, rfl⟩ | ⟨g1, -⟩
    · rfl
    · exact absurd h1 g1
  · rcases h' with ⟨g1, rfl⟩ | ⟨-, g2⟩
    · exact absurd g1 h1
    · exact h2.same g2
/-! nights -/
/-! what was seen -/
def facM (x : Int32) : Int32 := if x = nI 1000 then nI 1 else if x = nI 1001 then nI 0 else nI 100 + x
def okF (x : Int32) : Prop := x = nI 1000 ∨ x = nI 1001 ∨ inR x (-50) 50
def soP (c : Row) (k : Nat) (x : Int32) : Prop := if x = nI 1000 then tb (c 15) k = false else if x = nI 1001 then tb (c 15) k = true else c (5 + k) = x
def seP (n : Nat) (c : Row) (g x : Int32) : Prop := ∀ k, k < n → g = nI k → soP c k x
def fitP (n : Nat) (c : Row) (m : Nat) (sg sf : Row) : Prop := ∀ i, i < m → seP n c (sg i) (sf i)
theorem so_dawn {s : TSt} {k : Nat} {x : Int32} (hk : k < 5) : soP (dawnS s).1 k x ↔ soP s.1 k x := by
  show soP (up1 s.1 16 (s.1 16 + nI 1)) k x ↔ _
  unfold soP
  rw [up1_ne (by omega), up1_ne (by omega)]
theorem fit_dawn {n m : Nat} {s : TSt} {sg sf : Row} (hn : n ≤ 5) : fitP n (dawnS s).1 m sg sf ↔ fitP n s.1 m sg sf := ⟨fun h i hi k hk e => (so_dawn (by omega)).mp (h i hi k hk e), fun h i hi k hk e => (so_dawn (by omega)).mpr (h i hi k hk e)⟩
theorem fa_v {x : Int32} (h : inR x (-50) 50) : ¬ x = nI 1000 ∧ ¬ x = nI 1001 ∧ (facM x).toInt = 100 + x.toInt := by
  have n1 : ¬ x = nI 1000 := ne_nI (k := 1000) (by have := h.2; omega) (by decide)
  have n2 : ¬ x = nI 1001 := ne_nI (k := 1001) (by have := h.2; omega) (by decide)
  refine ⟨n1, n2, ?_⟩
  have h1 := h.1
  have h2 := h.2
  unfold facM
  rw [if_neg n1, if_neg n2, Int32.toInt_add, nI_toInt (by decide), Int.bmod_eq_of_le (by omega) (by omega)]
  omega
noncomputable def fitB (n : Nat) (T : TLs) (pw c : Row) (m : Nat) (sg sf : Row) (t : Nat) : Bool := @decide (fitP n (TL n T pw t c).1 m sg sf) (Classical.propDecidable _)
theorem fitB_t {n m t : Nat} {T : TLs} {pw c sg sf : Row} (h : fitP n (TL n T pw t c).1 m sg sf) : fitB n T pw c m sg sf t = true := by unfold fitB; exact @decide_eq_true _ (Classical.propDecidable _) h
theorem fitB_f {n m t : Nat} {T : TLs} {pw c sg sf : Row} (h : ¬ fitP n (TL n T pw t c).1 m sg sf) : fitB n T pw c m sg sf t = false := by unfold fitB; exact @decide_eq_false _ (Classical.propDecidable _) h
/-- odds together -/
def sumN : Nat → (Nat → Nat) → Nat
  | 0, _ => 0
  | m + 1, f => sumN m f + f m
def odF (on : Nat → Nat) (f : Nat → Bool) (t : Nat) : Nat := if f t = true then on t else 0
def lkR (on : Nat → Nat) (f : Nat → Bool) (t : Nat) (u r : Int32) : Prop := (sumN 3 (odF on f) = 0 ∧ r = -3) ∨ (0 < sumN 3 (odF on f) ∧ r = nI ((if u = 0 then sumN 3 (odF on f) else odF on f t) / Nat.gcd (odF on f t) (sumN 3 (odF on f))))
def seI (n : Nat) (c : Row) (m : Nat) (sg sf : Row) (p g : Nat) : Prop := (g = 1 ∧ ∀ i, i < p → seP n c (sg i) (sf i)) ∨ (g = 0 ∧ ¬ fitP n c m sg sf)
theorem seI.no {n m p g : Nat} {c sg sf : Row} (h : seI n c m sg sf p g) (hg : g = 0) : seI n c m sg sf (p + 1) 0 := by
  rcases h with ⟨e, -⟩ | ⟨-, e⟩
  · omega
  · exact Or.inr ⟨rfl, e⟩
theorem seI.fin {n m p g t : Nat} {T : TLs} {pw c sg sf : Row} (h : seI n (dawnS (TLw n T pw (nI 0) t c)).1 m sg sf p g) (hn : n ≤ 5) (hp : m ≤ p) : (nI g = 1 ∧ fitB n T pw c m sg sf t = true) ∨ (nI g = 0 ∧ fitB n T pw c m sg sf t = false) := by
  rcases h with ⟨rfl, e⟩ | ⟨rfl, e⟩
  · exact Or.inl ⟨rfl, fitB_t ((fit_dawn (s := TL n T pw t c) hn).mp (fun i hi => e i (by omega)))⟩
  · exact Or.inr ⟨rfl, fitB_f (fun hz => e ((fit_dawn (s := TL n T pw t c) hn).mpr hz))⟩
