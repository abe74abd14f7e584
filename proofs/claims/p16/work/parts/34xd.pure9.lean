/-! CHOSEN, the reference: choices by their number, one after another -/
def cntB (x : Int32) : Nat → Nat
  | 0 => 0
  | g + 1 => cntB x g + (if tb x g = true then 1 else 0)
theorem cb_t {x : Int32} {g : Nat} (h : tb x g = true) : cntB x (g + 1) = cntB x g + 1 := by
  show cntB x g + (if tb x g = true then 1 else 0) = _
  rw [if_pos h]
theorem cb_f {x : Int32} {g : Nat} (h : tb x g = false) : cntB x (g + 1) = cntB x g := by
  show cntB x g + (if tb x g = true then 1 else 0) = _
  rw [if_neg (by rw [h]; decide), Nat.add_zero]
theorem cb_s (x : Int32) (g : Nat) : cntB x g ≤ cntB x (g + 1) := by
  cases h : tb x g with
  | true => rw [cb_t h]; omega
  | false => rw [cb_f h]; exact Nat.le_refl _
theorem cb_le {x : Int32} : ∀ g, cntB x g ≤ g
  | 0 => Nat.le_refl _
  | g + 1 => by
    have ih := cb_le (x := x) g
    cases h : tb x g with
    | true => rw [cb_t h]; omega
    | false => rw [cb_f h]; omega
theorem cb_mono {x : Int32} {g : Nat} : ∀ k, cntB x g ≤ cntB x (g + k)
  | 0 => Nat.le_refl _
  | k + 1 => Nat.le_trans (cb_mono k) (cb_s x (g + k))
theorem cb_mono' {x : Int32} {g h : Nat} (hg : g ≤ h) : cntB x g ≤ cntB x h := by
  obtain ⟨k, rfl⟩ : ∃ k, h = g + k := ⟨h - g, by omega⟩
  exact cb_mono k
theorem cb_lt {x : Int32} {o h : Nat} (ho : tb x o = true) (hh : o < h) : cntB x o < cntB x h := by
  have h1 := cb_t ho
  have h2 := cb_mono' (x := x) (show o + 1 ≤ h by omega)
  omega
theorem cb_inj {x : Int32} {o o' : Nat} (h : tb x o = true) (h' : tb x o' = true) (e : cntB x o = cntB x o') : o = o' := by
  rcases Nat.lt_trichotomy o o' with hl | hl | hl
  · have := cb_lt h hl; omega
  · exact hl
  · have := cb_lt h' hl; omega
/-- how many choices doer d has; how many are ahead of it -/
def mnD (n : Nat) (a : Int32) (s : TSt) (d : Nat) : Nat := if tb (dorI n a s) d = true then (if othI n a s d = 0 then 1 else cntB (othI n a s d) 5) else 0
def ofD (n : Nat) (a : Int32) (s : TSt) : Nat → Nat
  | 0 => 0
  | d + 1 => ofD n a s d + mnD n a s d
theorem mn_le {n : Nat} {a : Int32} {s : TSt} {d : Nat} : mnD n a s d ≤ 5 := by
  unfold mnD
  split
  · split
    · omega
    · exact cb_le 5
  · omega
theorem of_le {n : Nat} {a : Int32} {s : TSt} : ∀ d, ofD n a s d ≤ 5 * d
  | 0 => Nat.le_refl _
  | d + 1 => by
    have h1 := of_le (n := n) (a := a) (s := s) d
    have h2 := mn_le (n := n) (a := a) (s := s) (d := d)
    show ofD n a s d + mnD n a s d ≤ _
    omega
theorem of_mono {n : Nat} {a : Int32} {s : TSt} {d : Nat} : ∀ k, ofD n a s d ≤ ofD n a s (d + k)
  | 0 => Nat.le_refl _
  | k + 1 => Nat.le_trans (of_mono k) (Nat.le_add_right _ _)
theorem of_lt {n : Nat} {a : Int32} {s : TSt} {d d' : Nat} (h : d < d') : ofD n a s d + mnD n a s d ≤ ofD n a s d' := by
  obtain ⟨k, rfl⟩ : ∃ k, d' = d + 1 + k := ⟨d' - (d + 1), by omega⟩
  exact of_mono (n := n) (a := a) (s := s) (d := d + 1) k
/-- s' is choice k -/
def chK (n : Nat) (a : Int32) (p : Nat) (s : TSt) (k : Nat) (s' : TSt) : Prop := (dorI n a s = 0 ∧ k = 0 ∧ s' = failS n a s) ∨ ∃ d, d < n ∧ tb (dorI n a s) d = true ∧ ofD n a s d ≤ k ∧ k < ofD n a s d + mnD n a s d ∧ ((othI n a s d = 0 ∧ s' = fineS s d) ∨ ∃ o, tb (othI n a s d) o = true ∧ cntB (othI n a s d) o = k - ofD n a s d ∧ s' = actS a p s d o)
theorem tb_z {i : Nat} : tb (0 : Int32) i = false := tb_0
theorem chK.nxt {n p k : Nat} {a : Int32} {s s' : TSt} (h : chK n a p s k s') : nxt n a p s s' := by
  rcases h with ⟨h0, -, rfl⟩ | ⟨d, -, hd, -, -, ⟨h1, rfl⟩ | ⟨o, ho, -, rfl⟩⟩
  · exact Or.inl ⟨h0, rfl⟩
  · exact Or.inr ⟨d, hd, Or.inl ⟨h1, rfl⟩⟩
  · exact Or.inr ⟨d, hd, Or.inr ⟨o, ho, rfl⟩⟩
theorem nxt.ch {n p : Nat} {a : Int32} {s s' : TSt} (h : nxt n a p s s') (hn : n ≤ 5) : ∃ k, chK n a p s k s' := by
  rcases h with ⟨h0, rfl⟩ | ⟨d, hd, ⟨h1, rfl⟩ | ⟨o, ho, rfl⟩⟩
  · exact ⟨0, Or.inl ⟨h0, rfl, rfl⟩⟩
  · refine ⟨ofD n a s d, Or.inr ⟨d, dor_lt hn hd, hd, Nat.le_refl _, ?_, Or.inl ⟨h1, rfl⟩⟩⟩
    unfold mnD
    rw [if_pos hd, if_pos h1]
    omega
  · have hz : ¬ othI n a s d = 0 := fun z => by rw [z, tb_z] at ho; cases ho
    have h5 := cb_lt ho (show o < 5 by have := oth_lt hn ho; omega)
    refine ⟨ofD n a s d + cntB (othI n a s d) o, Or.inr ⟨d, dor_lt hn hd, hd, by omega, ?_, Or.inr ⟨o, ho, by omega, rfl⟩⟩⟩
    unfold mnD
    rw [if_pos hd, if_neg hz]
    omega
theorem chK.lt {n p k : Nat} {a : Int32} {s s' : TSt} (h : chK n a p s k s') (hn : n ≤ 5) : k < 40 := by
  rcases h with ⟨-, rfl, -⟩ | ⟨d, hd, -, -, h2, -⟩
  · omega
  · have h3 := of_le (n := n) (a := a) (s := s) d
    have h4 := mn_le (n := n) (a := a) (s := s) (d := d)
    omega
theorem chK.one {n p k : Nat} {a : Int32} {s s' s'' : TSt} (h : chK n a p s k s') (h' : chK n a p s k s'') : s' = s'' := by
  rcases h with ⟨h0, -, rfl⟩ | ⟨d, -, hd, a1, a2, h⟩
  · rcases h' with ⟨-, -, rfl⟩ | ⟨d, -, hd, -⟩
    · rfl
    · rw [h0, tb_z] at hd; cases hd
  · rcases h' with ⟨h0, -, rfl⟩ | ⟨d', -, hd', b1, b2, h'⟩
    · rw [h0, tb_z] at hd; cases hd
    · have e : d = d' := by
        rcases Nat.lt_trichotomy d d' with hl | hl | hl
        · have := of_lt (n := n) (a := a) (s := s) hl; omega
        · exact hl
        · have := of_lt (n := n) (a := a) (s := s) hl; omega
      subst e
      rcases h with ⟨h1, rfl⟩ | ⟨o, ho, e1, rfl⟩
      · rcases h' with ⟨-, rfl⟩ | ⟨o', ho', -⟩
        · rfl
        · rw [h1, tb_z] at ho'; cases ho'
      · rcases h' with ⟨h1, -⟩ | ⟨o', ho', e2, rfl⟩
        · rw [h1, tb_z] at ho; cases ho
        · rw [cb_inj ho ho' (e1.trans e2.symm)]
/-- the other of choice q: counted down -/
def inQ (x : Int32) (q g : Nat) (x6 x10 : Int32) : Prop := x6.toInt = (q : Int) - cntB x g ∧ (q < cntB x g → ∃ o, o < g ∧ tb x o = true ∧ cntB x o = q ∧ x10 = nI o) ∧ (cntB x g ≤ q → x10 = -9)
theorem inQ.start {x : Int32} {q : Nat} (hq : q ≤ 40) : inQ x q 0 (nI q) (-9) := ⟨by rw [nI_toInt (by omega)]; show (q : Int) = q - (0 : Nat); omega, fun h => absurd h (Nat.not_lt_zero _), fun _ => rfl⟩
theorem inQ.f {x : Int32} {q g : Nat} {x6 x10 : Int32} (h : inQ x q g x6 x10) (ht : tb x g = false) : inQ x q (g + 1) x6 x10 := by
  unfold inQ
  rw [cb_f ht]
  refine ⟨h.1, fun z => ?_, h.2.2⟩
  obtain ⟨o, h1, h2⟩ := h.2.1 z
  exact ⟨o, by omega, h2⟩
/-! the search through all choices -/
def rst (n : Nat) (dv : Nat → Int32) (m : Nat) (st : Nat → TSt) (tr : Nat → Nat) (g : Nat) (l : TSt) : Prop := ∃ d, 1 ≤ d ∧ d ≤ g ∧ ((d = m + 1 ∧ l = st d) ∨ (d ≤ m ∧ ∃ k s', tr d ≤ k ∧ chK n (dv (d - 1)) (d - 1) (st d) k s' ∧ lf n dv (m - d) d s' l))
def stL (n : Nat) (N : Mt) (st : Nat → TSt) (g : Nat) : Prop := ∀ d, 1 ≤ d → d ≤ g → HE n (lvC N d) (st d).1 ∧ LQ n (lvL N d) (st d).2.1 ∧ wedOk n (st d).1
def trL (m : Nat) (r : Row) (tr : Nat → Nat) (g : Nat) : Prop := ∀ d, 1 ≤ d → d ≤ g → d ≤ m → r d = nI (tr d) ∧ tr d ≤ 40
def accZ (n : Nat) (A R : TSt → Prop) (x y : Int32) : Prop := (∀ i, i < 32 → ((∃ l, A l ∧ tb (deadI n l.1) i = true) ↔ (tb x i = true ∨ ∃ l, R l ∧ tb (deadI n l.1) i = true))) ∧ (∀ i, i < 32 → ((tb (evI n) i = true ∧ ∀ l, A l → tb (deadI n l.1) i = true) ↔ (tb y i = true ∧ ∀ l, R l → tb (deadI n l.1) i = true)))
def chZ (n : Nat) (dv : Nat → Int32) (m : Nat) (N : Mt) (g : Nat) (x y : Int32) (s1 : TSt) : Prop := ∃ st tr, stL n N st g ∧ trL m (N 83) tr g ∧ accZ n (lf n dv m 0 s1) (rst n dv m st tr g) x y
theorem accZ.cg {n : Nat} {A R R' : TSt → Prop} {x y : Int32} (h : accZ n A R x y) (e : ∀ l, R l ↔ R' l) : accZ n A R' x y := by
  have ep : R = R' := funext (fun l => propext (e l))
  rw [← ep]; exact h
/-- a level from which no choice was taken yet -/
theorem rs_lf {n m d : Nat} {dv : Nat → Int32} {s l : TSt} (hn : n ≤ 5) (h1 : 1 ≤ d) (h2 : d ≤ m + 1) : ((d = m + 1 ∧ l = s) ∨ (d ≤ m ∧ ∃ k s', 0 ≤ k ∧ chK n (dv (d - 1)) (d - 1) s k s' ∧ lf n dv (m - d) d s' l)) ↔ lf n dv (m + 1 - d) (d - 1) s l := by
  by_cases hd : d = m + 1
  · subst hd
    rw [show m + 1 - (m + 1) = 0 by omega]
    constructor
    · rintro (⟨-, z⟩ | ⟨z, -⟩)
      · exact z
      · omega
    · exact fun z => Or.inl ⟨rfl, z⟩
  · rw [show m + 1 - d = (m - d) + 1 by omega]
    constructor
    · rintro (⟨z, -⟩ | ⟨-, k, s', -, hc, hl⟩)
      · exact absurd z hd
      · refine ⟨s', hc.nxt, ?_⟩
        rw [show d - 1 + 1 = d by omega]; exact hl
    · rintro ⟨s', hx, hl⟩
      obtain ⟨k, hk⟩ := hx.ch hn
      rw [show d - 1 + 1 = d by omega] at hl
      exact Or.inr ⟨by omega, k, s', Nat.zero_le _, hk, hl⟩
theorem chZ.start {n m : Nat} {dv : Nat → Int32} {N : Mt} {s : TSt} {x y : Int32} (hn : n ≤ 5) (h1 : HE n (lvC N 1) s.1) (h2 : LQ n (lvL N 1) s.2.1) (hw : wedOk n s.1) (h3 : N 83 1 = nI 0) (hx : x = nI 0) (hy : y = evI n) : chZ n dv m N 1 x y s := by
  refine ⟨fun _ => s, fun _ => 0, fun d a1 a2 => ?_, fun d a1 a2 _ => ?_, ?_⟩
  · rw [show d = 1 by omega]; exact ⟨h1, h2, hw⟩
  · rw [show d = 1 by omega]; exact ⟨h3, Nat.zero_le _⟩
  · have e : ∀ l, lf n dv m 0 s l ↔ rst n dv m (fun _ => s) (fun _ => 0) 1 l := fun l => by
      have q := rs_lf (n := n) (m := m) (d := 1) (dv := dv) (s := s) (l := l) hn (by omega) (by omega)
      rw [show m + 1 - 1 = m by omega] at q
      rw [← q]
      constructor
      · exact fun z => ⟨1, by omega, by omega, z⟩
      · rintro ⟨d, a1, a2, z⟩
        have ed : d = 1 := by omega
        subst ed
        exact z
    subst hx hy
    refine accZ.cg ⟨fun i hi => ?_, fun i hi => Iff.rfl⟩ e
    rw [tb_0]
    exact ⟨Or.inr, fun z => z.elim (fun z => by cases z) (fun z => z)⟩
theorem rst.down {n m g : Nat} {dv : Nat → Int32} {st : Nat → TSt} {tr : Nat → Nat} {l : TSt} (hg : 1 ≤ g) : rst n dv m st tr g l ↔ ((g = m + 1 ∧ l = st g) ∨ (g ≤ m ∧ ∃ k s', tr g ≤ k ∧ chK n (dv (g - 1)) (g - 1) (st g) k s' ∧ lf n dv (m - g) g s' l)) ∨ rst n dv m st tr (g - 1) l := by
  constructor
  · rintro ⟨d, a1, a2, z⟩
    by_cases e : d = g
    · rw [e] at z; exact Or.inl z
    · exact Or.inr ⟨d, a1, by omega, z⟩
  · rintro (z | ⟨d, a1, a2, z⟩)
    · exact ⟨g, hg, Nat.le_refl _, z⟩
    · exact ⟨d, a1, by omega, z⟩
theorem stL.keep {n g : Nat} {N N' : Mt} {st : Nat → TSt} (hn : n ≤ 5) (h : stL n N st g) (e : ∀ k, k < 22 * (g + 1) → N' 78 k = N 78 k) : stL n N' st g := fun d a1 a2 => by
  obtain ⟨h1, h2, h3⟩ := h d a1 a2
  refine ⟨h1.rw1 hn (fun k hk => e _ (by omega)), fun j hj => ?_, h3⟩
  show N' 78 (22 * d + 17 + j) = _
  rw [e _ (by omega)]
  exact h2 j hj
theorem chZ.fin {n m g : Nat} {dv : Nat → Int32} {N : Mt} {x y : Int32} {s1 : TSt} {b r : Int32} (hn : n ≤ 5) (h : chZ n dv m N g x y s1) (hg : g = 0) (h0 : b = 0 → r = x) (h1 : ¬ b = 0 → r = y) : chR n dv m s1 b r := by
  obtain ⟨st, tr, -, -, hz⟩ := h
  have no : ∀ l, ¬ rst n dv m st tr g l := fun l ⟨d, a1, a2, _⟩ => by omega
  obtain ⟨l0, hl0⟩ := lf_ex (dv := dv) hn m 0 s1
  refine ⟨fun hb i hi => ?_, fun hb i hi => ?_⟩
  · rw [h0 hb, hz.1 i hi]
    exact ⟨Or.inl, fun z => z.elim (fun z => z) (fun ⟨l, hl, _⟩ => absurd hl (no l))⟩
  · rw [h1 hb]
    have q := hz.2 i hi
    exact ⟨fun z => (q.mpr ⟨z, fun l hl => absurd hl (no l)⟩).2, fun z => (q.mp ⟨dead_ev (z l0 hl0), z⟩).1⟩
