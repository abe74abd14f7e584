/-! CHOSEN, the reference: choices by their number, one after another -/
def cntB (x : Int32) : Nat → Nat
  | 0 => 0
  | g + 1 => cntB x g + (if tb x g = true then 1 else 0)
theorem cb_t {x : Int32} {g : Nat} (h : tb x g = true) : cntB x (g + 1) = cntB x g + 1 := by
  show cntB x g + (if tb x g = true then 1 else 0) = _
  rw [if_pos h]
theorem cb_f {x : Int32} {g : Nat} (h : tb x g = false) : cntB x (g + 1) = cntB x g := by
  show cntB x g + (if tb x g = true then 1 else 0) = _
  rw [if_neg (by rw [h]; decide), Nat.add_zero]
theorem cb_s (x : Int32) (g : Nat) : cntB x g ≤ cntB x (g + 1) := by
  cases h : tb x g with
  | true => rw [cb_t h]; omega
  | false => rw [cb_f h]; exact Nat.le_refl _
theorem cb_le {x : Int32} : ∀ g, cntB x g ≤ g
  | 0 => Nat.le_refl _
  | g + 1 => by
    have ih := cb_le (x := x) g
    cases h : tb x g with
    | true => rw [cb_t h]; omega
    | false => rw [cb_f h]; omega
theorem cb_mono {x : Int32} {g : Nat} : ∀ k, cntB x g ≤ cntB x (g + k)
  | 0 => Nat.le_refl _
  | k + 1 => Nat.le_trans (cb_mono k) (cb_s x (g + k))
theorem cb_mono' {x : Int32} {g h : Nat} (hg : g ≤ h) : cntB x g ≤ cntB x h := by
  obtain ⟨k, rfl⟩ : ∃ k, h = g + k := ⟨h - g, by omega⟩
  exact cb_mono k
theorem cb_lt {x : Int32} {o h : Nat} (ho : tb x o = true) (hh : o < h) : cntB x o < cntB x h := by
  have h1 := cb_t ho
  have h2 := cb_mono' (x := x) (show o + 1 ≤ h by omega)
  omega
theorem cb_inj {x : Int32} {o o' : Nat} (h : tb x o = true) (h' : tb x o' = true) (e : cntB x o = cntB x o') : o = o' := by
  rcases Nat.lt_trichotomy o o' with hl | hl | hl
  · have := cb_lt h hl; omega
  · exact hl
  · have := cb_lt h' hl; omega
theorem cb_top {x : Int32} {n : Nat} (hx : ∀ i, n ≤ i → tb x i = false) : ∀ k, cntB x (n + k) = cntB x n
  | 0 => rfl
  | k + 1 => (cb_f (hx (n + k) (by omega))).trans (cb_top hx k)
theorem cb_0 {g : Nat} : cntB (0 : Int32) g = 0 := by
  induction g with
  | zero => rfl
  | succ g ih => rw [cb_f (show tb (0 : Int32) g = false from tb_0)]; exact ih
theorem ones_5 {x : Int32} (h : is5 x) : sumI 8 (fun k => (x >>> (nI k &&& 31)) &&& nI 1) = nI (cntB x 5) := by
  obtain ⟨m, hm, rfl⟩ := is5_nI h
  exact (by decide +kernel : ∀ m, m < 32 → sumI 8 (fun k => (nI m >>> (nI k &&& 31)) &&& nI 1) = nI (cntB (nI m) 5)) m hm
theorem s_ones5 {d : Nat} {M : Mt} {L : Lt} {Q : Option Value → Mt → Lt → Prop} {a : Int32} (hI : Inv M) (ha : is5 a) (hd : 0 ≤ d) (hq : ∀ r : Int32, r = nI (cntB a 5) → Q (some (.int r)) M L) : Wp d 136 0 [.int a, .null, .null] [] M L Q := s_ones hI hd (fun r hr => hq r (hr.trans (ones_5 ha)))
/-- how many choices doer d has; how many are ahead of it -/
def mnD (n : Nat) (a : Int32) (s : TSt) (d : Nat) : Nat := if tb (dorI n a s) d = true then (if othI n a s d = 0 then 1 else cntB (othI n a s d) 5) else 0
def ofD (n : Nat) (a : Int32) (s : TSt) : Nat → Nat
  | 0 => 0
  | d + 1 => ofD n a s d + mnD n a s d
theorem mn_le {n : Nat} {a : Int32} {s : TSt} {d : Nat} : mnD n a s d ≤ 5 := by
  unfold mnD
  split
  · split
    · omega
    · exact cb_le 5
  · omega
theorem of_le {n : Nat} {a : Int32} {s : TSt} : ∀ d, ofD n a s d ≤ 5 * d
  | 0 => Nat.le_refl _
  | d + 1 => by
    have h1 := of_le (n := n) (a := a) (s := s) d
    have h2 := mn_le (n := n) (a := a) (s := s) (d := d)
    show ofD n a s d + mnD n a s d ≤ _
    omega
theorem of_mono {n : Nat} {a : Int32} {s : TSt} {d : Nat} : ∀ k, ofD n a s d ≤ ofD n a s (d + k)
  | 0 => Nat.le_refl _
  | k + 1 => Nat.le_trans (of_mono k) (Nat.le_add_right _ _)
theorem of_lt {n : Nat} {a : Int32} {s : TSt} {d d' : Nat} (h : d < d') : ofD n a s d + mnD n a s d ≤ ofD n a s d' := by
  obtain ⟨k, rfl⟩ : ∃ k, d' = d + 1 + k := ⟨d' - (d + 1), by omega⟩
  exact of_mono (n := n) (a := a) (s := s) (d := d + 1) k
/-- s' is choice k -/
def chK (n : Nat) (a : Int32) (p : Nat) (s : TSt) (k : Nat) (s' : TSt) : Prop := (dorI n a s = 0 ∧ k = 0 ∧ s' = failS n a s) ∨ ∃ d, d < n ∧ tb (dorI n a s) d = true ∧ ofD n a s d ≤ k ∧ k < ofD n a s d + mnD n a s d ∧ ((othI n a s d = 0 ∧ s' = fineS s d) ∨ ∃ o, tb (othI n a s d) o = true ∧ cntB (othI n a s d) o = k - ofD n a s d ∧ s' = actS a p s d o)
theorem tb_z {i : Nat} : tb (0 : Int32) i = false := tb_0
theorem chK.nxt {n p k : Nat} {a : Int32} {s s' : TSt} (h : chK n a p s k s') : nxt n a p s s' := by
  rcases h with ⟨h0, -, rfl⟩ | ⟨d, -, hd, -, -, ⟨h1, rfl⟩ | ⟨o, ho, -, rfl⟩⟩
  · exact Or.inl ⟨h0, rfl⟩
  · exact Or.inr ⟨d, hd, Or.inl ⟨h1, rfl⟩⟩
  · exact Or.inr ⟨d, hd, Or.inr ⟨o, ho, rfl⟩⟩
theorem nxt.ch {n p : Nat} {a : Int32} {s s' : TSt} (h : nxt n a p s s') (hn : n ≤ 5) : ∃ k, chK n a p s k s' := by
  rcases h with ⟨h0, rfl⟩ | ⟨d, hd, ⟨h1, rfl⟩ | ⟨o, ho, rfl⟩⟩
  · exact ⟨0, Or.inl ⟨h0, rfl, rfl⟩⟩
  · refine ⟨ofD n a s d, Or.inr ⟨d, dor_lt hn hd, hd, Nat.le_refl _, ?_, Or.inl ⟨h1, rfl⟩⟩⟩
    unfold mnD
    rw [if_pos hd, if_pos h1]
    omega
  · have hz : ¬ othI n a s d = 0 := fun z => by rw [z, tb_z] at ho; cases ho
    have h5 := cb_lt ho (show o < 5 by have := oth_lt hn ho; omega)
    refine ⟨ofD n a s d + cntB (othI n a s d) o, Or.inr ⟨d, dor_lt hn hd, hd, by omega, ?_, Or.inr ⟨o, ho, by omega, rfl⟩⟩⟩
    unfold mnD
    rw [if_pos hd, if_neg hz]
    omega
theorem chK.lt {n p k : Nat} {a : Int32} {s s' : TSt} (h : chK n a p s k s') (hn : n ≤ 5) : k < 40 := by
  rcases h with ⟨-, rfl, -⟩ | ⟨d, hd, -, -, h2, -⟩
  · omega
  · have h3 := of_le (n := n) (a := a) (s := s) d
    have h4 := mn_le (n := n) (a := a) (s := s) (d := d)
    omega
theorem chK.one {n p k : Nat} {a : Int32} {s s' s'' : TSt} (h : chK n a p s k s') (h' : chK n a p s k s'') : s' = s'' := by
  rcases h with ⟨h0, -, rfl⟩ | ⟨d, -, hd, a1, a2, h⟩
  · rcases h' with ⟨-, -, rfl⟩ | ⟨d, -, hd, -⟩
    · rfl
    · rw [h0, tb_z] at hd; cases hd
  · rcases h' with ⟨h0, -, rfl⟩ | ⟨d', -, hd', b1, b2, h'⟩
    · rw [h0, tb_z] at hd; cases hd
    · have e : d = d' := by
        rcases Nat.lt_trichotomy d d' with hl | hl | hl
        · have := of_lt (n := n) (a := a) (s := s) hl; omega
        · exact hl
        · have := of_lt (n := n) (a := a) (s := s) hl; omega
      subst e
      rcases h with ⟨h1, rfl⟩ | ⟨o, ho, e1, rfl⟩
      · rcases h' with ⟨-, rfl⟩ | ⟨o', ho', -⟩
        · rfl
        · rw [h1, tb_z] at ho'; cases ho'
      · rcases h' with ⟨h1, -⟩ | ⟨o', ho', e2, rfl⟩
        · rw [h1, tb_z] at ho; cases ho
        · rw [cb_inj ho ho' (e1.trans e2.symm)]
theorem ch_no {n p k : Nat} {a : Int32} {s : TSt} (h0 : ¬ dorI n a s = 0) (hk : ofD n a s n ≤ k) : ∀ k', k ≤ k' → ∀ s', ¬ chK n a p s k' s' := by
  rintro k' hk' s' (⟨z, -⟩ | ⟨d, hd, -, -, h2, -⟩)
  · exact h0 z
  · have := of_lt (n := n) (a := a) (s := s) hd; omega
theorem ch_no0 {n p k : Nat} {a : Int32} {s : TSt} (h0 : dorI n a s = 0) (hk : ¬ k = 0) : ∀ k', k ≤ k' → ∀ s', ¬ chK n a p s k' s' := by
  rintro k' hk' s' (⟨-, z, -⟩ | ⟨d, -, hd, -⟩)
  · omega
  · rw [h0, tb_z] at hd; cases hd
/-- the other of choice q: counted down -/
def inQ (x : Int32) (q g : Nat) (x6 x10 : Int32) : Prop := x6.toInt = (q : Int) - cntB x g ∧ (q < cntB x g → ∃ o, o < g ∧ tb x o = true ∧ cntB x o = q ∧ x10 = nI o) ∧ (cntB x g ≤ q → x10 = -9)
theorem decT {x : Int32} (h : -1000 < x.toInt) : (x + Int32.ofInt (-1)).toInt = x.toInt - 1 := by
  rw [Int32.toInt_add]
  have e : (Int32.ofInt (-1)).toInt = -1 := by decide
  have h1 := Int32.toInt_lt x
  rw [e]
  rw [Int.bmod_eq_of_le] <;> omega
theorem inQ.start {x : Int32} {q : Nat} (hq : q ≤ 40) : inQ x q 0 (nI q) (-9) := ⟨by rw [nI_toInt (by omega)]; show (q : Int) = q - (0 : Nat); omega, fun h => absurd h (Nat.not_lt_zero _), fun _ => rfl⟩
theorem inQ.f {x : Int32} {q g : Nat} {x6 x10 : Int32} (h : inQ x q g x6 x10) (ht : tb x g = false) : inQ x q (g + 1) x6 x10 := by
  unfold inQ
  rw [cb_f ht]
  refine ⟨h.1, fun z => ?_, h.2.2⟩
  obtain ⟨o, h1, h2⟩ := h.2.1 z
  exact ⟨o, by omega, h2⟩
theorem inQ.hit {x : Int32} {q g : Nat} {x6 x10 y : Int32} (h : inQ x q g x6 x10) (hg : g < 5) (ht : tb x g = true) (h0 : x6 = 0) (hy : y = x6 + Int32.ofInt (-1)) : inQ x q (g + 1) y (nI g) := by
  have a1 := h.1
  rw [h0] at a1
  have e0 : (0 : Int32).toInt = 0 := by decide
  unfold inQ
  rw [cb_t ht]
  refine ⟨?_, fun _ => ⟨g, by omega, ht, by omega, rfl⟩, fun z => by omega⟩
  rw [hy, h0, decT (by rw [e0]; omega), e0]
  omega
theorem inQ.miss {x : Int32} {q g : Nat} {x6 x10 y : Int32} (h : inQ x q g x6 x10) (hg : g < 5) (hq : q ≤ 40) (ht : tb x g = true) (h0 : ¬ x6 = 0) (hy : y = x6 + Int32.ofInt (-1)) : inQ x q (g + 1) y x10 := by
  have a1 := h.1
  have a2 := cb_le (x := x) g
  have hne : ¬ q = cntB x g := fun z => h0 (by
    apply Int32.toInt_inj.mp
    rw [a1, z]
    have e0 : (0 : Int32).toInt = 0 := by decide
    rw [e0]
    omega)
  unfold inQ
  rw [cb_t ht]
  refine ⟨?_, fun z => ?_, fun z => h.2.2 (by omega)⟩
  · rw [hy, decT (by rw [a1]; omega), a1]
    omega
  · obtain ⟨o, h1, h2⟩ := h.2.1 (by omega)
    exact ⟨o, by omega, h2⟩
theorem ch_pick {n p k q d g : Nat} {a : Int32} {s : TSt} {x6 x10 : Int32} (hn : n ≤ 5) (hd : tb (dorI n a s) d = true) (hk : ofD n a s d + q = k) (hq : q < mnD n a s d) (h : inQ (othI n a s d) q g x6 x10) (hg : n ≤ g) (hg5 : g ≤ 5) : ∃ s', ((x10 = -9 ∧ s' = fineS s d) ∨ ∃ z, z < n ∧ x10 = nI z ∧ s' = actS a p s d z) ∧ chK n a p s k s' := by
  have hdn := dor_lt hn hd
  have top : cntB (othI n a s d) g = cntB (othI n a s d) 5 := by
    have hx : ∀ i, n ≤ i → tb (othI n a s d) i = false := fun i hi => by
      cases hb : tb (othI n a s d) i with
      | false => rfl
      | true => have := oth_lt hn hb; omega
    have e1 := cb_top hx (g - n)
    have e2 := cb_top hx (5 - n)
    rw [show n + (g - n) = g by omega] at e1
    rw [show n + (5 - n) = 5 by omega] at e2
    rw [e1, e2]
  by_cases hz : othI n a s d = 0
  · have hm : mnD n a s d = 1 := by unfold mnD; rw [if_pos hd, if_pos hz]
    have hx : x10 = -9 := h.2.2 (by rw [hz, cb_0]; omega)
    exact ⟨_, Or.inl ⟨hx, rfl⟩, Or.inr ⟨d, hdn, hd, by omega, by omega, Or.inl ⟨hz, rfl⟩⟩⟩
  · have hm : mnD n a s d = cntB (othI n a s d) 5 := by unfold mnD; rw [if_pos hd, if_neg hz]
    obtain ⟨o, h1, h2, h3, h4⟩ := h.2.1 (by rw [top]; omega)
    exact ⟨_, Or.inr ⟨o, oth_lt hn h2, h4, rfl⟩, Or.inr ⟨d, hdn, hd, by omega, by omega, Or.inr ⟨o, h2, by omega, rfl⟩⟩⟩
theorem fst_num {x : Nat} (hx : x < 64) : fstD (nI x) = nI (x / 4 % 4) := (by decide +kernel : ∀ x, x < 64 → fstD (nI x) = nI (x / 4 % 4)) x hx
theorem snd_num2 {x : Nat} (hx : x < 64) : sndD (nI x) = nI (x % 4) := (by decide +kernel : ∀ x, x < 64 → sndD (nI x) = nI (x % 4)) x hx
theorem mn_t1 {n : Nat} {a : Int32} {s : TSt} {d : Nat} (h : tb (dorI n a s) d = true) (h2 : othI n a s d = 0) : mnD n a s d = 1 := by unfold mnD; rw [if_pos h, if_pos h2]
theorem mn_t {n : Nat} {a : Int32} {s : TSt} {d : Nat} (h : tb (dorI n a s) d = true) (h2 : ¬ othI n a s d = 0) : mnD n a s d = cntB (othI n a s d) 5 := by unfold mnD; rw [if_pos h, if_neg h2]
theorem mn_f {n : Nat} {a : Int32} {s : TSt} {d : Nat} (h : tb (dorI n a s) d = false) : mnD n a s d = 0 := by unfold mnD; rw [if_neg (by rw [h]; decide)]
/-! the search through all choices -/
def rst (n : Nat) (dv : Nat → Int32) (m : Nat) (st : Nat → TSt) (tr : Nat → Nat) (g : Nat) (l : TSt) : Prop := ∃ d, 1 ≤ d ∧ d ≤ g ∧ ((d = m + 1 ∧ l = st d) ∨ (d ≤ m ∧ ∃ k s', tr d ≤ k ∧ chK n (dv (d - 1)) (d - 1) (st d) k s' ∧ lf n dv (m - d) d s' l))
def stL (n : Nat) (N : Mt) (st : Nat → TSt) (g : Nat) : Prop := ∀ d, 1 ≤ d → d ≤ g → HE n (lvC N d) (st d).1 ∧ LQ n (lvL N d) (st d).2.1 ∧ wedOk n (st d).1
def trL (m : Nat) (r : Row) (tr : Nat → Nat) (g : Nat) : Prop := ∀ d, 1 ≤ d → d ≤ g → d ≤ m → r d = nI (tr d) ∧ tr d ≤ 40
def accZ (n : Nat) (A R : TSt → Prop) (x y : Int32) : Prop := (∀ i, i < 32 → ((∃ l, A l ∧ tb (deadI n l.1) i = true) ↔ (tb x i = true ∨ ∃ l, R l ∧ tb (deadI n l.1) i = true))) ∧ (∀ i, i < 32 → ((tb (evI n) i = true ∧ ∀ l, A l → tb (deadI n l.1) i = true) ↔ (tb y i = true ∧ ∀ l, R l → tb (deadI n l.1) i = true)))
def chZ (n : Nat) (dv : Nat → Int32) (m : Nat) (N : Mt) (g : Nat) (x y : Int32) (s1 : TSt) : Prop := ∃ st tr, stL n N st g ∧ trL m (N 83) tr g ∧ accZ n (lf n dv m 0 s1) (rst n dv m st tr g) x y
theorem accZ.cg {n : Nat} {A R R' : TSt → Prop} {x y : Int32} (h : accZ n A R x y) (e : ∀ l, R l ↔ R' l) : accZ n A R' x y := by
  have ep : R = R' := funext (fun l => propext (e l))
  rw [← ep]; exact h
theorem accZ.leaf {n : Nat} {A R R' : TSt → Prop} {x y : Int32} {s : TSt} (h : accZ n A R x y) (e : ∀ l, R l ↔ l = s ∨ R' l) : accZ n A R' (x ||| deadI n s.1) (y &&& deadI n s.1) := by
  refine ⟨fun i hi => ?_, fun i hi => ?_⟩
  · rw [h.1 i hi, tb_or, Bool.or_eq_true]
    constructor
    · rintro (z | ⟨l, hl, z⟩)
      · exact Or.inl (Or.inl z)
      · rcases (e l).mp hl with rfl | hl
        · exact Or.inl (Or.inr z)
        · exact Or.inr ⟨l, hl, z⟩
    · rintro ((z | z) | ⟨l, hl, z⟩)
      · exact Or.inl z
      · exact Or.inr ⟨s, (e s).mpr (Or.inl rfl), z⟩
      · exact Or.inr ⟨l, (e l).mpr (Or.inr hl), z⟩
  · rw [h.2 i hi, tb_and, Bool.and_eq_true]
    constructor
    · rintro ⟨z, z1⟩
      exact ⟨⟨z, z1 s ((e s).mpr (Or.inl rfl))⟩, fun l hl => z1 l ((e l).mpr (Or.inr hl))⟩
    · rintro ⟨⟨z, z1⟩, z2⟩
      exact ⟨z, fun l hl => ((e l).mp hl).elim (fun q => q ▸ z1) (z2 l)⟩
/-- a level from which no choice was taken yet -/
theorem rs_lf {n m d : Nat} {dv : Nat → Int32} {s l : TSt} (hn : n ≤ 5) (h1 : 1 ≤ d) (h2 : d ≤ m + 1) : ((d = m + 1 ∧ l = s) ∨ (d ≤ m ∧ ∃ k s', 0 ≤ k ∧ chK n (dv (d - 1)) (d - 1) s k s' ∧ lf n dv (m - d) d s' l)) ↔ lf n dv (m + 1 - d) (d - 1) s l := by
  by_cases hd : d = m + 1
  · subst hd
    rw [show m + 1 - (m + 1) = 0 by omega]
    constructor
    · rintro (⟨-, z⟩ | ⟨z, -⟩)
      · exact z
      · omega
    · exact fun z => Or.inl ⟨rfl, z⟩
  · rw [show m + 1 - d = (m - d) + 1 by omega]
    constructor
    · rintro (⟨z, -⟩ | ⟨-, k, s', -, hc, hl⟩)
      · exact absurd z hd
      · refine ⟨s', hc.nxt, ?_⟩
        rw [show d - 1 + 1 = d by omega]; exact hl
    · rintro ⟨s', hx, hl⟩
      obtain ⟨k, hk⟩ := hx.ch hn
      rw [show d - 1 + 1 = d by omega] at hl
      exact Or.inr ⟨by omega, k, s', Nat.zero_le _, hk, hl⟩
theorem chZ.start {n m : Nat} {dv : Nat → Int32} {N : Mt} {s : TSt} {x y : Int32} (hn : n ≤ 5) (h1 : HE n (lvC N 1) s.1) (h2 : LQ n (lvL N 1) s.2.1) (hw : wedOk n s.1) (h3 : N 83 1 = nI 0) (hx : x = nI 0) (hy : y = evI n) : chZ n dv m N 1 x y s := by
  refine ⟨fun _ => s, fun _ => 0, fun d a1 a2 => ?_, fun d a1 a2 _ => ?_, ?_⟩
  · rw [show d = 1 by omega]; exact ⟨h1, h2, hw⟩
  · rw [show d = 1 by omega]; exact ⟨h3, Nat.zero_le _⟩
  · have e : ∀ l, lf n dv m 0 s l ↔ rst n dv m (fun _ => s) (fun _ => 0) 1 l := fun l => by
      have q := rs_lf (n := n) (m := m) (d := 1) (dv := dv) (s := s) (l := l) hn (by omega) (by omega)
      rw [show m + 1 - 1 = m by omega] at q
      rw [← q]
      constructor
      · exact fun z => ⟨1, by omega, by omega, z⟩
      · rintro ⟨d, a1, a2, z⟩
        have ed : d = 1 := by omega
        subst ed
        exact z
    subst hx hy
    refine accZ.cg ⟨fun i hi => ?_, fun i hi => Iff.rfl⟩ e
    rw [tb_0]
    exact ⟨Or.inr, fun z => z.elim (fun z => by cases z) (fun z => z)⟩
theorem rst.down {n m g : Nat} {dv : Nat → Int32} {st : Nat → TSt} {tr : Nat → Nat} {l : TSt} (hg : 1 ≤ g) : rst n dv m st tr g l ↔ ((g = m + 1 ∧ l = st g) ∨ (g ≤ m ∧ ∃ k s', tr g ≤ k ∧ chK n (dv (g - 1)) (g - 1) (st g) k s' ∧ lf n dv (m - g) g s' l)) ∨ rst n dv m st tr (g - 1) l := by
  constructor
  · rintro ⟨d, a1, a2, z⟩
    by_cases e : d = g
    · rw [e] at z; exact Or.inl z
    · exact Or.inr ⟨d, a1, by omega, z⟩
  · rintro (z | ⟨d, a1, a2, z⟩)
    · exact ⟨g, hg, Nat.le_refl _, z⟩
    · exact ⟨d, a1, by omega, z⟩
theorem chz_leaf {n m g : Nat} {dv : Nat → Int32} {N : Mt} {st : Nat → TSt} {tr : Nat → Nat} {x y : Int32} {s1 : TSt} (hs : stL n N st g) (ht : trL m (N 83) tr g) (h : accZ n (lf n dv m 0 s1) (rst n dv m st tr g) x y) (hg : g = m + 1) : chZ n dv m N (g - 1) (x ||| deadI n (st g).1) (y &&& deadI n (st g).1) s1 := by
  refine ⟨st, tr, fun d a1 a2 => hs d a1 (by omega), fun d a1 a2 a3 => ht d a1 (by omega) a3, h.leaf (fun l => ?_)⟩
  rw [rst.down (by omega)]
  constructor
  · rintro ((⟨-, z⟩ | ⟨z, -⟩) | z)
    · exact Or.inl z
    · omega
    · exact Or.inr z
  · rintro (z | z)
    · exact Or.inl (Or.inl ⟨hg, z⟩)
    · exact Or.inr z
theorem stL.keep {n g : Nat} {N N' : Mt} {st : Nat → TSt} (hn : n ≤ 5) (h : stL n N st g) (e : ∀ k, k < 22 * (g + 1) → N' 78 k = N 78 k) : stL n N' st g := fun d a1 a2 => by
  obtain ⟨h1, h2, h3⟩ := h d a1 a2
  refine ⟨h1.rw1 hn (fun k hk => e _ (by omega)), fun j hj => ?_, h3⟩
  show N' 78 (22 * d + 17 + j) = _
  rw [e _ (by omega)]
  exact h2 j hj
theorem chz_none {n m g : Nat} {dv : Nat → Int32} {N N' : Mt} {st : Nat → TSt} {tr : Nat → Nat} {x y : Int32} {s1 : TSt} (hn : n ≤ 5) (hg1 : 1 ≤ g) (hs : stL n N st g) (ht : trL m (N 83) tr g) (h : accZ n (lf n dv m 0 s1) (rst n dv m st tr g) x y) (hg : g ≤ m) (hno : ∀ k', tr g ≤ k' → ∀ s', ¬ chK n (dv (g - 1)) (g - 1) (st g) k' s') (e : ∀ k, k < 22 * (g + 1) → N' 78 k = N 78 k) (e2 : ∀ i, ¬ i = g → N' 83 i = N 83 i) : chZ n dv m N' (g - 1) x y s1 := by
  refine ⟨st, tr, fun d a1 a2 => hs.keep hn e d a1 (by omega), fun d a1 a2 a3 => ?_, h.cg (fun l => ?_)⟩
  · rw [e2 d (by omega)]; exact ht d a1 (by omega) a3
  · rw [rst.down hg1]
    constructor
    · rintro ((⟨z, -⟩ | ⟨-, k, s', z1, z2, -⟩) | z)
      · omega
      · exact absurd z2 (hno k z1 s')
      · exact z
    · exact Or.inr
def upS (st : Nat → TSt) (g : Nat) (s' : TSt) : Nat → TSt := fun d => if d = g + 1 then s' else st d
def upR (tr : Nat → Nat) (g : Nat) : Nat → Nat := fun d => if d = g + 1 then 0 else if d = g then tr g + 1 else tr d
theorem upS_e {st : Nat → TSt} {g : Nat} {s' : TSt} : upS st g s' (g + 1) = s' := if_pos rfl
theorem upS_n {st : Nat → TSt} {g d : Nat} {s' : TSt} (h : ¬ d = g + 1) : upS st g s' d = st d := if_neg h
theorem upR_e {tr : Nat → Nat} {g : Nat} : upR tr g (g + 1) = 0 := if_pos rfl
theorem upR_g {tr : Nat → Nat} {g : Nat} : upR tr g g = tr g + 1 := (if_neg (by omega)).trans (if_pos rfl)
theorem upR_n {tr : Nat → Nat} {g d : Nat} (h : ¬ d = g + 1) (h2 : ¬ d = g) : upR tr g d = tr d := (if_neg h).trans (if_neg h2)
theorem chz_push {n m g : Nat} {dv : Nat → Int32} {N N' : Mt} {st : Nat → TSt} {tr : Nat → Nat} {x y : Int32} {s1 s' : TSt} (hn : n ≤ 5) (hg1 : 1 ≤ g) (hs : stL n N st g) (ht : trL m (N 83) tr g) (h : accZ n (lf n dv m 0 s1) (rst n dv m st tr g) x y) (hg : g ≤ m) (hc : chK n (dv (g - 1)) (g - 1) (st g) (tr g) s') (h1 : HE n (lvC N' (g + 1)) s'.1) (h2 : LQ n (lvL N' (g + 1)) s'.2.1) (e : ∀ k, k < 22 * (g + 1) → N' 78 k = N 78 k) (e2 : ∀ i, ¬ i = g → ¬ i = g + 1 → N' 83 i = N 83 i) (e3 : N' 83 g = nI (tr g + 1)) (e4 : N' 83 (g + 1) = nI 0) : chZ n dv m N' (g + 1) x y s1 := by
  have hw := hc.nxt.wed hn (hs g hg1 (Nat.le_refl _)).2.2
  have hlt := hc.lt hn
  refine ⟨upS st g s', upR tr g, fun d a1 a2 => ?_, fun d a1 a2 a3 => ?_, h.cg (fun l => ?_)⟩
  · by_cases hd : d = g + 1
    · rw [hd, upS_e]; exact ⟨h1, h2, hw⟩
    · rw [upS_n hd]; exact hs.keep hn e d a1 (by omega)
  · by_cases hd : d = g + 1
    · rw [hd, upR_e]; exact ⟨e4, Nat.zero_le _⟩
    · by_cases hd2 : d = g
      · rw [hd2, upR_g]; exact ⟨e3, by omega⟩
      · rw [upR_n hd hd2, e2 d hd2 hd]; exact ht d a1 (by omega) a3
  · have up : ((g + 1 = m + 1 ∧ l = s') ∨ (g + 1 ≤ m ∧ ∃ k s'_1, 0 ≤ k ∧ chK n (dv (g + 1 - 1)) (g + 1 - 1) s' k s'_1 ∧ lf n dv (m - (g + 1)) (g + 1) s'_1 l)) ↔ lf n dv (m - g) g s' l := by
      have q := rs_lf (n := n) (m := m) (d := g + 1) (dv := dv) (s := s') (l := l) hn (by omega) (by omega)
      rw [show m + 1 - (g + 1) = m - g by omega] at q
      exact q
    constructor
    · rintro ⟨d, a1, a2, z⟩
      by_cases hd : d = g
      · subst hd
        rcases z with ⟨z, -⟩ | ⟨-, k, s2, z1, z2, z3⟩
        · omega
        · by_cases hk : k = tr d
          · subst hk
            rw [z2.one hc] at z3
            refine ⟨d + 1, by omega, by omega, ?_⟩
            rw [upS_e, upR_e]
            exact up.mpr z3
          · refine ⟨d, a1, by omega, Or.inr ⟨hg, k, s2, ?_, ?_, z3⟩⟩
            · rw [upR_g]; omega
            · rw [upS_n (by omega)]; exact z2
      · refine ⟨d, a1, by omega, ?_⟩
        rw [upS_n (by omega), upR_n (by omega) hd]
        exact z
    · rintro ⟨d, a1, a2, z⟩
      by_cases hd : d = g + 1
      · subst hd
        rw [upS_e, upR_e] at z
        exact ⟨g, hg1, Nat.le_refl _, Or.inr ⟨hg, tr g, s', Nat.le_refl _, hc, up.mp z⟩⟩
      · rw [upS_n hd] at z
        by_cases hd2 : d = g
        · subst hd2
          rw [upR_g] at z
          rcases z with ⟨z, -⟩ | ⟨-, k, s2, z1, z2, z3⟩
          · omega
          · exact ⟨d, a1, Nat.le_refl _, Or.inr ⟨hg, k, s2, by omega, z2, z3⟩⟩
        · rw [upR_n hd hd2] at z
          exact ⟨d, a1, by omega, z⟩
theorem chZ.fin {n m g : Nat} {dv : Nat → Int32} {N : Mt} {x y : Int32} {s1 : TSt} {b r : Int32} (hn : n ≤ 5) (h : chZ n dv m N g x y s1) (hg : g = 0) (h0 : b = 0 → r = x) (h1 : ¬ b = 0 → r = y) : chR n dv m s1 b r := by
  obtain ⟨st, tr, -, -, hz⟩ := h
  have no : ∀ l, ¬ rst n dv m st tr g l := fun l ⟨d, a1, a2, _⟩ => by omega
  obtain ⟨l0, hl0⟩ := lf_ex (dv := dv) hn m 0 s1
  refine ⟨fun hb i hi => ?_, fun hb i hi => ?_⟩
  · rw [h0 hb, hz.1 i hi]
    exact ⟨Or.inl, fun z => z.elim (fun z => z) (fun ⟨l, hl, _⟩ => absurd hl (no l))⟩
  · rw [h1 hb]
    have q := hz.2 i hi
    exact ⟨fun z => (q.mpr ⟨z, fun l hl => absurd hl (no l)⟩).2, fun z => (q.mp ⟨dead_ev (z l0 hl0), z⟩).1⟩
theorem lay_LQ {n f t : Nat} {M N : Mt} {c : Row} (hn : n ≤ 5) (h : ∀ k, k < 22 → N 78 (22 * t + k) = M 78 (22 * f + k)) (hc : LQ n (lvL M f) c) : LQ n (lvL N t) c := fun g hg => by
  have q := h (17 + g) (by omega)
  show N 78 (22 * t + 17 + g) = _
  rw [Nat.add_assoc, q, ← Nat.add_assoc]
  exact hc g hg
