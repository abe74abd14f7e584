/-! CHOSEN: what may come of a deed, of a tale; what is gathered over all ends -/
def nxt (n : Nat) (a : Int32) (p : Nat) (s s' : TSt) : Prop := (dorI n a s = 0 ∧ s' = failS n a s) ∨ ∃ d, tb (dorI n a s) d = true ∧ ((othI n a s d = 0 ∧ s' = fineS s d) ∨ ∃ o, tb (othI n a s d) o = true ∧ s' = actS a p s d o)
def lf (n : Nat) (dv : Nat → Int32) : Nat → Nat → TSt → TSt → Prop
  | 0, _, s, l => l = s
  | r + 1, k, s, l => ∃ s', nxt n (dv k) k s s' ∧ lf n dv r (k + 1) s' l
theorem fail_cells {n : Nat} {a : Int32} {s : TSt} (hn : n ≤ 5) : cellsOf n a s.1 (failS n a s).1 := by
  unfold failS
  split
  · exact Or.inl rfl
  · rename_i h2
    exact Or.inr (Or.inl ⟨_, (isL_lt hn (ls_ex (is5_set hn) h2).2).1, rfl⟩)
theorem nxt.cells {n p : Nat} {a : Int32} {s s' : TSt} (h : nxt n a p s s') (hn : n ≤ 5) : cellsOf n a s.1 s'.1 := by
  rcases h with ⟨-, rfl⟩ | ⟨d, hd, ⟨-, rfl⟩ | ⟨o, ho, rfl⟩⟩
  · exact fail_cells hn
  · exact Or.inr (Or.inl ⟨d, dor_lt hn hd, rfl⟩)
  · exact act_cells (dor_lt hn hd) (oth_lt hn ho) (oth_ne hn (dor_lt hn hd) ho)
theorem nxt.wed {n p : Nat} {a : Int32} {s s' : TSt} (h : nxt n a p s s') (hn : n ≤ 5) (hw : wedOk n s.1) : wedOk n s'.1 := hw.of hn (h.cells hn)
theorem nxt_ex {n p : Nat} {a : Int32} {s : TSt} (hn : n ≤ 5) : ∃ s', nxt n a p s s' := by
  by_cases h : dorI n a s = 0
  · exact ⟨_, Or.inl ⟨h, rfl⟩⟩
  · have hd := (ls_ex (is5_dor hn) h).2
    by_cases h2 : othI n a s (lsN (dorI n a s)) = 0
    · exact ⟨_, Or.inr ⟨_, hd, Or.inl ⟨h2, rfl⟩⟩⟩
    · exact ⟨_, Or.inr ⟨_, hd, Or.inr ⟨_, (ls_ex (is5_oth hn) h2).2, rfl⟩⟩⟩
/-- who is alive, by what becomes of the cells -/
theorem al_of {n : Nat} {a : Int32} {c c' : Row} (hn : n ≤ 5) (hc : cellsOf n a c c') : c' 15 = c 15 ∨ (kdD a = nI 0 ∧ ∃ o, c' 15 = clr (c 15) o) := by
  rcases hc with rfl | ⟨g, hg, rfl⟩ | ⟨o, ho, hk, rfl⟩ | ⟨d, o, hd, ho, -, -, rfl⟩ | ⟨d, o, hd, ho, -, -, rfl⟩ | ⟨d, hd, -, -, -, rfl⟩
  · exact Or.inl rfl
  · exact Or.inl (up1_ne (by omega))
  · exact Or.inr ⟨hk, o, up1_eq⟩
  · left; unfold joinC; rw [up1_ne (by omega), up1_ne (by omega)]
  · left; unfold giveC fineC; rw [up1_ne (by omega), up1_ne (by omega)]
  · exact Or.inl (up1_ne (by omega))
theorem ev_tb {n i : Nat} (hn : n ≤ 5) (hi : i < 32) : tb (evI n) i = decide (i < n) := (by decide +kernel : ∀ n, n < 6 → ∀ i, i < 32 → tb (evI n) i = decide (i < n)) n (by omega) i hi
theorem dead_tb {n i : Nat} {c : Row} (hn : n ≤ 5) (hi : i < 32) : tb (deadI n c) i = (decide (i < n) && !tb (c 15) i) := by
  unfold deadI
  rw [tb_and, tb_not hi, ev_tb hn hi]
theorem dead_ev {n i : Nat} {c : Row} (h : tb (deadI n c) i = true) : tb (evI n) i = true := by
  unfold deadI at h
  rw [tb_and] at h
  exact ((Bool.and_eq_true _ _).mp h).1
def subI (x y : Int32) : Prop := ∀ i, i < 32 → tb x i = true → tb y i = true
theorem nxt.dead {n p : Nat} {a : Int32} {s s' : TSt} (h : nxt n a p s s') (hn : n ≤ 5) : subI (deadI n s.1) (deadI n s'.1) := by
  intro i hi
  rw [dead_tb hn hi, dead_tb hn hi]
  rcases al_of hn (h.cells hn) with e | ⟨-, o, e⟩
  · rw [e]; exact fun z => z
  · rw [e]
    unfold clr
    rw [tb_and]
    cases tb (s.1 15) i <;> simp
theorem nxt.same {n p : Nat} {a : Int32} {s s' : TSt} (h : nxt n a p s s') (hn : n ≤ 5) (hk : ¬ kdD a = nI 0) : deadI n s'.1 = deadI n s.1 := by
  unfold deadI
  rcases al_of hn (h.cells hn) with e | ⟨z, -⟩
  · rw [e]
  · exact absurd z hk
theorem subI.tr {x y z : Int32} (h : subI x y) (h' : subI y z) : subI x z := fun i hi hx => h' i hi (h i hi hx)
theorem lf.dead {n : Nat} {dv : Nat → Int32} (hn : n ≤ 5) : ∀ (r k : Nat) (s l : TSt), lf n dv r k s l → subI (deadI n s.1) (deadI n l.1)
  | 0, _, s, l, h => by
    have e : l = s := h
    rw [e]; exact fun _ _ z => z
  | r + 1, k, s, l, h => by
    obtain ⟨s', h1, h2⟩ := h
    exact (h1.dead hn).tr (lf.dead hn r (k + 1) s' l h2)
theorem lf_ex {n : Nat} {dv : Nat → Int32} (hn : n ≤ 5) : ∀ (r k : Nat) (s : TSt), ∃ l, lf n dv r k s l
  | 0, _, s => ⟨s, rfl⟩
  | r + 1, k, s => by
    obtain ⟨s', h1⟩ := nxt_ex (a := dv k) (p := k) (s := s) hn
    obtain ⟨l, h2⟩ := lf_ex hn r (k + 1) s'
    exact ⟨l, s', h1, h2⟩
theorem lf_tail {n : Nat} {dv : Nat → Int32} (hn : n ≤ 5) : ∀ (r k : Nat) (s l : TSt), (∀ p, k ≤ p → p < k + r → ¬ kdD (dv p) = nI 0) → lf n dv r k s l → deadI n l.1 = deadI n s.1
  | 0, _, s, l, _, h => by
    have e : l = s := h
    rw [e]
  | r + 1, k, s, l, hk, h => by
    obtain ⟨s', h1, h2⟩ := h
    rw [lf_tail hn r (k + 1) s' l (fun p h3 h4 => hk p (by omega) (by omega)) h2]
    exact h1.same hn (hk k (by omega) (by omega))
theorem lf_split {n : Nat} {dv : Nat → Int32} : ∀ (r r2 k : Nat) (s l : TSt), lf n dv (r + r2) k s l ↔ ∃ s', lf n dv r k s s' ∧ lf n dv r2 (k + r) s' l
  | 0, r2, k, s, l => by
    rw [Nat.zero_add, Nat.add_zero]
    exact ⟨fun h => ⟨s, rfl, h⟩, fun ⟨s', h1, h2⟩ => by have e : s' = s := h1; rw [e] at h2; exact h2⟩
  | r + 1, r2, k, s, l => by
    rw [show r + 1 + r2 = r + r2 + 1 by omega, show k + (r + 1) = k + 1 + r by omega]
    constructor
    · rintro ⟨s1, h1, h2⟩
      obtain ⟨s', h3, h4⟩ := (lf_split r r2 (k + 1) s1 l).mp h2
      exact ⟨s', ⟨s1, h1, h3⟩, h4⟩
    · rintro ⟨s', ⟨s1, h1, h3⟩, h4⟩
      exact ⟨s1, h1, (lf_split r r2 (k + 1) s1 l).mpr ⟨s', h3, h4⟩⟩
/-- who is dead by some, by all of the ends in P, on top of x, of y -/
def accQ (n : Nat) (b : Int32) (P : TSt → Prop) (x y x' y' : Int32) : Prop := (b = 0 → ∀ i, i < 32 → (tb x' i = true ↔ tb x i = true ∨ ∃ l, P l ∧ tb (deadI n l.1) i = true)) ∧ (¬ b = 0 → ∀ i, i < 32 → (tb y' i = true ↔ tb y i = true ∧ ∀ l, P l → tb (deadI n l.1) i = true))
theorem accQ.cg {n : Nat} {b x y x' y' : Int32} {P P' : TSt → Prop} (h : accQ n b P x y x' y') (e : ∀ l, P l ↔ P' l) : accQ n b P' x y x' y' := by
  have ep : P = P' := funext (fun l => propext (e l))
  rw [← ep]; exact h
theorem accQ.emp {n : Nat} {b x y : Int32} {P : TSt → Prop} (h : ∀ l, ¬ P l) : accQ n b P x y x y := ⟨fun _ i _ => ⟨Or.inl, fun z => z.elim (fun z => z) (fun ⟨l, hl, _⟩ => absurd hl (h l))⟩, fun _ i _ => ⟨fun z => ⟨z, fun l hl => absurd hl (h l)⟩, fun z => z.1⟩⟩
theorem accQ.leaf {n : Nat} {b x y : Int32} {s : TSt} : accQ n b (fun l => l = s) x y (x ||| deadI n s.1) (y &&& deadI n s.1) := by
  refine ⟨fun _ i _ => ?_, fun _ i _ => ?_⟩
  · rw [tb_or, Bool.or_eq_true]
    exact ⟨fun z => z.elim Or.inl (fun z => Or.inr ⟨s, rfl, z⟩), fun z => z.elim Or.inl (fun ⟨l, hl, z⟩ => Or.inr (hl ▸ z))⟩
  · rw [tb_and, Bool.and_eq_true]
    exact ⟨fun z => ⟨z.1, fun l hl => hl ▸ z.2⟩, fun z => ⟨z.1, z.2 s rfl⟩⟩
theorem accQ.tr {n : Nat} {b x y x' y' x'' y'' : Int32} {P P' P'' : TSt → Prop} (h : accQ n b P x y x' y') (h' : accQ n b P' x' y' x'' y'') (e : ∀ l, P'' l ↔ P l ∨ P' l) : accQ n b P'' x y x'' y'' := by
  refine ⟨fun hb i hi => ?_, fun hb i hi => ?_⟩
  · rw [h'.1 hb i hi, h.1 hb i hi]
    constructor
    · rintro ((z | ⟨l, hl, z⟩) | ⟨l, hl, z⟩)
      · exact Or.inl z
      · exact Or.inr ⟨l, (e l).mpr (Or.inl hl), z⟩
      · exact Or.inr ⟨l, (e l).mpr (Or.inr hl), z⟩
    · rintro (z | ⟨l, hl, z⟩)
      · exact Or.inl (Or.inl z)
      · rcases (e l).mp hl with hl | hl
        · exact Or.inl (Or.inr ⟨l, hl, z⟩)
        · exact Or.inr ⟨l, hl, z⟩
  · rw [h'.2 hb i hi, h.2 hb i hi]
    constructor
    · rintro ⟨⟨z, z1⟩, z2⟩
      exact ⟨z, fun l hl => ((e l).mp hl).elim (z1 l) (z2 l)⟩
    · rintro ⟨z, z1⟩
      exact ⟨⟨z, fun l hl => z1 l ((e l).mpr (Or.inl hl))⟩, fun l hl => z1 l ((e l).mpr (Or.inr hl))⟩
def stQ (n : Nat) (b B x y : Int32) : Prop := (b = 0 → x = evI n) ∧ (¬ b = 0 → y = B)
/-- nothing can change any more: more ends may be taken along -/
theorem accQ.set {n : Nat} {b B x y x' y' : Int32} {P P' : TSt → Prop} (h : accQ n b P x y x' y') (hs : stQ n b B x' y') (e : ∀ l, P l → P' l) (hB : ∀ l, P' l → subI B (deadI n l.1)) : accQ n b P' x y x' y' := by
  refine ⟨fun hb i hi => ?_, fun hb i hi => ?_⟩
  · have h1 := h.1 hb i hi
    constructor
    · intro z
      rcases h1.mp z with z | ⟨l, hl, z⟩
      · exact Or.inl z
      · exact Or.inr ⟨l, e l hl, z⟩
    · rintro (z | ⟨l, hl, z⟩)
      · exact h1.mpr (Or.inl z)
      · rw [hs.1 hb]; exact dead_ev z
  · have h1 := h.2 hb i hi
    constructor
    · intro z
      refine ⟨(h1.mp z).1, fun l hl => ?_⟩
      rw [hs.2 hb] at z
      exact hB l hl i hi z
    · rintro ⟨z, z1⟩
      exact h1.mpr ⟨z, fun l hl => z1 l (e l hl)⟩
/-- the ends behind doer d -/
def pdQ (n : Nat) (dv : Nat → Int32) (r k : Nat) (s : TSt) (d : Nat) (l : TSt) : Prop := (othI n (dv k) s d = 0 ∧ lf n dv r (k + 1) (fineS s d) l) ∨ ∃ o, tb (othI n (dv k) s d) o = true ∧ lf n dv r (k + 1) (actS (dv k) k s d o) l
theorem lf_succ {n r k : Nat} {dv : Nat → Int32} {s l : TSt} : lf n dv (r + 1) k s l ↔ (dorI n (dv k) s = 0 ∧ lf n dv r (k + 1) (failS n (dv k) s) l) ∨ ∃ d, tb (dorI n (dv k) s) d = true ∧ pdQ n dv r k s d l := by
  constructor
  · rintro ⟨s', ⟨h0, rfl⟩ | ⟨d, hd, ⟨h1, rfl⟩ | ⟨o, ho, rfl⟩⟩, h2⟩
    · exact Or.inl ⟨h0, h2⟩
    · exact Or.inr ⟨d, hd, Or.inl ⟨h1, h2⟩⟩
    · exact Or.inr ⟨d, hd, Or.inr ⟨o, ho, h2⟩⟩
  · rintro (⟨h0, h2⟩ | ⟨d, hd, ⟨h1, h2⟩ | ⟨o, ho, h2⟩⟩)
    · exact ⟨_, Or.inl ⟨h0, rfl⟩, h2⟩
    · exact ⟨_, Or.inr ⟨d, hd, Or.inl ⟨h1, rfl⟩⟩, h2⟩
    · exact ⟨_, Or.inr ⟨d, hd, Or.inr ⟨o, ho, rfl⟩⟩, h2⟩
def foQ (n : Nat) (dv : Nat → Int32) (r k : Nat) (s : TSt) (g : Nat) (l : TSt) : Prop := (dorI n (dv k) s = 0 ∧ lf n dv r (k + 1) (failS n (dv k) s) l) ∨ ∃ d, d < g ∧ tb (dorI n (dv k) s) d = true ∧ pdQ n dv r k s d l
def fdQ (n : Nat) (dv : Nat → Int32) (r k : Nat) (s : TSt) (d g : Nat) (l : TSt) : Prop := (othI n (dv k) s d = 0 ∧ lf n dv r (k + 1) (fineS s d) l) ∨ ∃ o, o < g ∧ tb (othI n (dv k) s d) o = true ∧ lf n dv r (k + 1) (actS (dv k) k s d o) l
theorem foQ.le {n r k g : Nat} {dv : Nat → Int32} {s l : TSt} (h : foQ n dv r k s g l) : lf n dv (r + 1) k s l := lf_succ.mpr (h.imp (fun z => z) (fun ⟨d, _, h1, h2⟩ => ⟨d, h1, h2⟩))
theorem foQ.all {n r k g : Nat} {dv : Nat → Int32} {s l : TSt} (hn : n ≤ 5) (hg : 5 ≤ g) : foQ n dv r k s g l ↔ lf n dv (r + 1) k s l := ⟨foQ.le, fun h => (lf_succ.mp h).imp (fun z => z) (fun ⟨d, h1, h2⟩ => ⟨d, by have := dor_lt hn h1; omega, h1, h2⟩)⟩
theorem foQ.t {n r k g : Nat} {dv : Nat → Int32} {s l : TSt} (h : tb (dorI n (dv k) s) g = true) : foQ n dv r k s (g + 1) l ↔ foQ n dv r k s g l ∨ pdQ n dv r k s g l := by
  constructor
  · rintro (z | ⟨d, h1, h2, h3⟩)
    · exact Or.inl (Or.inl z)
    · by_cases e : d = g
      · rw [e] at h3; exact Or.inr h3
      · exact Or.inl (Or.inr ⟨d, by omega, h2, h3⟩)
  · rintro ((z | ⟨d, h1, h2, h3⟩) | z)
    · exact Or.inl z
    · exact Or.inr ⟨d, by omega, h2, h3⟩
    · exact Or.inr ⟨g, by omega, h, z⟩
theorem foQ.f {n r k g : Nat} {dv : Nat → Int32} {s l : TSt} (h : tb (dorI n (dv k) s) g = false) : foQ n dv r k s g l ↔ foQ n dv r k s (g + 1) l := by
  constructor
  · exact fun z => z.imp (fun z => z) (fun ⟨d, h1, h2⟩ => ⟨d, by omega, h2⟩)
  · refine fun z => z.imp (fun z => z) (fun ⟨d, h1, h2, h3⟩ => ⟨d, ?_, h2, h3⟩)
    by_cases e : d = g
    · rw [e, h] at h2; cases h2
    · omega
theorem foQ.z {n r k : Nat} {dv : Nat → Int32} {s l : TSt} (h : ¬ dorI n (dv k) s = 0) : ¬ foQ n dv r k s 0 l := by
  rintro (⟨z, -⟩ | ⟨d, h1, -⟩)
  · exact h z
  · omega
theorem foQ.a {n r k : Nat} {dv : Nat → Int32} {s l : TSt} (h : dorI n (dv k) s = 0) : lf n dv r (k + 1) (failS n (dv k) s) l ↔ foQ n dv r k s 0 l := by
  constructor
  · exact fun z => Or.inl ⟨h, z⟩
  · rintro (⟨-, z⟩ | ⟨d, h1, -⟩)
    · exact z
    · omega
theorem fdQ.le {n r k d g : Nat} {dv : Nat → Int32} {s l : TSt} (h : fdQ n dv r k s d g l) : pdQ n dv r k s d l := h.imp (fun z => z) (fun ⟨o, _, h1, h2⟩ => ⟨o, h1, h2⟩)
theorem fdQ.all {n r k d g : Nat} {dv : Nat → Int32} {s l : TSt} (hn : n ≤ 5) (hg : 5 ≤ g) : fdQ n dv r k s d g l ↔ pdQ n dv r k s d l := ⟨fdQ.le, fun h => h.imp (fun z => z) (fun ⟨o, h1, h2⟩ => ⟨o, by have := oth_lt hn h1; omega, h1, h2⟩)⟩
theorem fdQ.t {n r k d g : Nat} {dv : Nat → Int32} {s l : TSt} (h : tb (othI n (dv k) s d) g = true) : fdQ n dv r k s d (g + 1) l ↔ fdQ n dv r k s d g l ∨ lf n dv r (k + 1) (actS (dv k) k s d g) l := by
  constructor
  · rintro (z | ⟨o, h1, h2, h3⟩)
    · exact Or.inl (Or.inl z)
    · by_cases e : o = g
      · rw [e] at h3; exact Or.inr h3
      · exact Or.inl (Or.inr ⟨o, by omega, h2, h3⟩)
  · rintro ((z | ⟨o, h1, h2, h3⟩) | z)
    · exact Or.inl z
    · exact Or.inr ⟨o, by omega, h2, h3⟩
    · exact Or.inr ⟨g, by omega, h, z⟩
theorem fdQ.f {n r k d g : Nat} {dv : Nat → Int32} {s l : TSt} (h : tb (othI n (dv k) s d) g = false) : fdQ n dv r k s d g l ↔ fdQ n dv r k s d (g + 1) l := by
  constructor
  · exact fun z => z.imp (fun z => z) (fun ⟨o, h1, h2⟩ => ⟨o, by omega, h2⟩)
  · refine fun z => z.imp (fun z => z) (fun ⟨o, h1, h2, h3⟩ => ⟨o, ?_, h2, h3⟩)
    by_cases e : o = g
    · rw [e, h] at h2; cases h2
    · omega
theorem fdQ.z {n r k d : Nat} {dv : Nat → Int32} {s l : TSt} (h : ¬ othI n (dv k) s d = 0) : ¬ fdQ n dv r k s d 0 l := by
  rintro (⟨z, -⟩ | ⟨o, h1, -⟩)
  · exact h z
  · omega
theorem fdQ.a {n r k d : Nat} {dv : Nat → Int32} {s l : TSt} (h : othI n (dv k) s d = 0) : lf n dv r (k + 1) (fineS s d) l ↔ fdQ n dv r k s d 0 l := by
  constructor
  · exact fun z => Or.inl ⟨h, z⟩
  · rintro (⟨-, z⟩ | ⟨o, h1, -⟩)
    · exact z
    · omega
theorem pd_lf {n r k d : Nat} {dv : Nat → Int32} {s l : TSt} (hd : tb (dorI n (dv k) s) d = true) (h : pdQ n dv r k s d l) : lf n dv (r + 1) k s l := lf_succ.mpr (Or.inr ⟨d, hd, h⟩)
/-- the answer -/
def chR (n : Nat) (dv : Nat → Int32) (m : Nat) (s : TSt) (b r : Int32) : Prop := (b = 0 → ∀ i, i < 32 → (tb r i = true ↔ ∃ l, lf n dv m 0 s l ∧ tb (deadI n l.1) i = true)) ∧ (¬ b = 0 → ∀ i, i < 32 → (tb r i = true ↔ ∀ l, lf n dv m 0 s l → tb (deadI n l.1) i = true))
theorem chR.same {n m : Nat} {dv : Nat → Int32} {s : TSt} {b r r' : Int32} (h : chR n dv m s b r) (h' : chR n dv m s b r') : r = r' := by
  apply tb_ext
  intro i hi
  apply Bool.eq_iff_iff.mpr
  by_cases hb : b = 0
  · rw [h.1 hb i hi, h'.1 hb i hi]
  · rw [h.2 hb i hi, h'.2 hb i hi]
theorem ch_acc {n m : Nat} {dv : Nat → Int32} {s : TSt} {b r x y : Int32} (hn : n ≤ 5) (h : accQ n b (lf n dv m 0 s) (deadI n s.1) (evI n) x y) (h0 : b = 0 → r = x) (h1 : ¬ b = 0 → r = y) : chR n dv m s b r := by
  obtain ⟨l0, hl0⟩ := lf_ex (dv := dv) hn m 0 s
  refine ⟨fun hb i hi => ?_, fun hb i hi => ?_⟩
  · rw [h0 hb, h.1 hb i hi]
    exact ⟨fun z => z.elim (fun z => ⟨l0, hl0, lf.dead hn m 0 s l0 hl0 i hi z⟩) (fun z => z), Or.inr⟩
  · rw [h1 hb, h.2 hb i hi]
    exact ⟨fun z => z.2, fun z => ⟨dead_ev (z l0 hl0), z⟩⟩
theorem ch_cut {n m r2 : Nat} {dv : Nat → Int32} {s : TSt} {b r : Int32} (hn : n ≤ 5) (hk : ∀ p, m ≤ p → p < m + r2 → ¬ kdD (dv p) = nI 0) (h : chR n dv m s b r) : chR n dv (m + r2) s b r := by
  have tail : ∀ s' l, lf n dv r2 (0 + m) s' l → deadI n l.1 = deadI n s'.1 := fun s' l hl => lf_tail hn r2 (0 + m) s' l (fun p h1 h2 => hk p (by omega) (by omega)) hl
  refine ⟨fun hb i hi => ?_, fun hb i hi => ?_⟩
  · rw [h.1 hb i hi]
    constructor
    · rintro ⟨l, hl, z⟩
      obtain ⟨l2, hl2⟩ := lf_ex (dv := dv) hn r2 (0 + m) l
      exact ⟨l2, (lf_split m r2 0 s l2).mpr ⟨l, hl, hl2⟩, by rw [tail l l2 hl2]; exact z⟩
    · rintro ⟨l2, hl2, z⟩
      obtain ⟨l, hl, hl3⟩ := (lf_split m r2 0 s l2).mp hl2
      exact ⟨l, hl, by rw [← tail l l2 hl3]; exact z⟩
  · rw [h.2 hb i hi]
    constructor
    · intro z l2 hl2
      obtain ⟨l, hl, hl3⟩ := (lf_split m r2 0 s l2).mp hl2
      rw [tail l l2 hl3]; exact z l hl
    · intro z l hl
      obtain ⟨l2, hl2⟩ := lf_ex (dv := dv) hn r2 (0 + m) l
      rw [← tail l l2 hl2]
      exact z l2 ((lf_split m r2 0 s l2).mpr ⟨l, hl, hl2⟩)
def dvT (T : TLs) (t : Nat) : Nat → Int32 := fun p => nI (dnum T t p)
