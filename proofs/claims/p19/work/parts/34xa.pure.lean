/-! the least mask (cut): built clean by itself behind p9's parts (round 27, light); no walk uses it yet -/
/-- the least by o, then by its number, of those in S with D -/
def isLM (D : Nat → Prop) (o : Nat → Nat) (S : Nat → Prop) (b : Nat) : Prop := S b ∧ D b ∧ ∀ s, S s → D s → o b < o s ∨ (o b = o s ∧ b ≤ s)
theorem isLM.same {D : Nat → Prop} {o : Nat → Nat} {S : Nat → Prop} {b b' : Nat} (h : isLM D o S b) (h' : isLM D o S b') : b = b' := by
  have h1 := h.2.2 b' h'.1 h'.2.1
  have h2 := h'.2.2 b h.1 h.2.1
  omega
theorem isLM.cg {D : Nat → Prop} {o : Nat → Nat} {S S' : Nat → Prop} {b : Nat} (h : isLM D o S b) (e : ∀ s, S s ↔ S' s) : isLM D o S' b := ⟨(e b).mp h.1, h.2.1, fun s hs hd => h.2.2 s ((e s).mpr hs) hd⟩
/-- counting down, taken where it is no more; behind g all above g are through -/
theorem lm_dn {D : Nat → Prop} {o : Nat → Nat} {all g b : Nat} (h : isLM D o (fun s => (g < s ∧ s ≤ all) ∨ s = all) b) (hg : g ≤ all) (hd : D g) (ho : o g ≤ o b) : isLM D o (fun s => (g ≤ s ∧ s ≤ all) ∨ s = all) g := by
  refine ⟨Or.inl (by omega), hd, fun s hs hds => ?_⟩
  by_cases he : s = g
  · exact Or.inr ⟨by rw [he], by omega⟩
  · have := h.2.2 s (by rcases hs with h | h <;> omega) hds
    omega
/-! CUT, KINDS, ROUND as numbers; tales by their deeds' numbers -/
theorem tl_nd {T : TLs} {t k : Nat} {l : Row} (hz : (T t).1 ≤ 24) (hl : ∀ i, i < 24 → l i = (T t).2 i) (h : sndT l (T t).1 k) : k = sndN (T t).2 (T t).1 := sndN_eq h (fun i hi => hl i (by omega))
theorem nD_le8 {T : TLs} {t : Nat} (hz : (T t).1 ≤ 24) : nD T t ≤ 8 := by
  have := (sndN_spec (T t).2 (T t).1).1
  unfold nD
  omega
theorem nD_x {T : TLs} {M : Mt} {t : Nat} (h : tlX T M) (ht : t < 3) : nD T t ≤ 8 := nD_le8 (h t ht).1
theorem nD_m {T : TLs} {M : Mt} {t : Nat} (h : tlM T M) (ht : t < 3) : nD T t ≤ 8 := nD_le8 (h t ht).1
theorem nD_lt {T : TLs} {t p : Nat} (h : p < nD T t) : 3 * p + 2 < (T t).1 := by
  have := (sndN_spec (T t).2 (T t).1).1
  unfold nD at h
  omega
/-- the number of a whole deed -/
def dnum (T : TLs) (t p : Nat) : Nat := (deedV (T t).2 p).toNatClampNeg
theorem dn_num {T : TLs} {t p : Nat} (hp : p < nD T t) : deedV (T t).2 p = nI (dnum T t p) ∧ dnum T t p < 64 := by
  obtain ⟨x, y, z, hx, hy, hz, e⟩ := deed_num (sndN_spec (T t).2 (T t).1) hp
  unfold dnum
  rw [e, nI_clamp (by omega)]
  exact ⟨rfl, by omega⟩
theorem s_wholeT {d : Nat} {M : Mt} {L : Lt} {Q : Option Value → Mt → Lt → Prop} {t : Nat} {T : TLs} (hI : Inv M) (ht : t < 3) (hT : tlX T M) (hd : 3 ≤ d) (hq : ∀ r : Int32, r = nI (nD T t) → Q (some (.int r)) M L) : Wp d 43 0 [.ref (70 + 2 * t)] [] M L Q := by
  obtain ⟨h1, h2, h3⟩ := hT t ht
  refine k_43 hI (sc_tale t ht) h1 h2 hd (fun r hr => ?_)
  obtain ⟨k, hk, e⟩ := hr
  exact hq r (by rw [e, tl_nd h1 h3 hk]; rfl)
theorem s_deedAtT {d : Nat} {M : Mt} {L : Lt} {Q : Option Value → Mt → Lt → Prop} {t k : Nat} {T : TLs} (hI : Inv M) (ht : t < 3) (hT : tlX T M) (hk : k < nD T t) (hd : 1 ≤ d) (hq : ∀ r : Int32, r = nI (dnum T t k) → Q (some (.int r)) M L) : Wp d 44 0 [.ref (70 + 2 * t), .int (nI k), .null, .null] [] M L Q := by
  obtain ⟨h1, h2, h3⟩ := hT t ht
  have h4 := nD_lt hk
  refine s_deedAt hI (sc_tale t ht) h1 h2 h4 hd (fun r hr => ?_)
  refine hq r ?_
  rw [hr, ← (dn_num hk).1]
  unfold deedV
  rw [h3 (3 * k) (by omega), h3 (3 * k + 1) (by omega), h3 (3 * k + 2) (by omega)]
theorem s_deedsT {d : Nat} {M : Mt} {L : Lt} {Q : Option Value → Mt → Lt → Prop} {t : Nat} {T : TLs} (hI : Inv M) (ht : t < 3) (hT : tlM T M) (hd : 2 ≤ d) (hq : ∀ r : Int32, r = nI (nD T t) → Q (some (.int r)) M L) : Wp d 148 0 [.ref 76, .int (nI t), .null] [] M L Q := by
  obtain ⟨h1, h2, h3⟩ := hT t ht
  refine k_148 hI ht h1 h2 hd (fun r hr => ?_)
  obtain ⟨k, hk, e⟩ := hr
  exact hq r (by rw [e, tl_nd h1 h3 hk]; rfl)
theorem s_deedOfT {d : Nat} {M : Mt} {L : Lt} {Q : Option Value → Mt → Lt → Prop} {t k : Nat} {T : TLs} (hI : Inv M) (ht : t < 3) (hT : tlM T M) (hk : k < nD T t) (hd : 1 ≤ d) (hq : ∀ r : Int32, r = nI (dnum T t k) → Q (some (.int r)) M L) : Wp d 149 0 [.ref 76, .int (nI t), .int (nI k), .null] [] M L Q := by
  obtain ⟨h1, h2, h3⟩ := hT t ht
  have h4 := nD_lt hk
  refine s_deedOf hI ht (by omega) hd (fun r hr => ?_)
  refine hq r ?_
  rw [hr, ← (dn_num hk).1]
  unfold deedV
  rw [← h3 (3 * k) (by omega), ← h3 (3 * k + 1) (by omega), ← h3 (3 * k + 2) (by omega)]
/-! how many ones -/
/-! cut -/
def dnQ (D : Nat → Prop) (o : Nat → Nat) (all : Nat) (x : Int32) (b : Nat) : Prop := ∃ g, g ≤ all + 1 ∧ x = nI g + Int32.ofInt (-1) ∧ isLM D o (fun s => (g ≤ s ∧ s ≤ all) ∨ s = all) b
theorem dec_nI {g : Nat} (h : g < 2 ^ 31) : (nI g + Int32.ofInt (-1)).toInt = (g : Int) - 1 := by
  rw [Int32.toInt_add, nI_toInt h]
  have e : (Int32.ofInt (-1)).toInt = -1 := by decide
  rw [e]
  rw [Int.bmod_eq_of_le] <;> omega
theorem dnQ.lt {D : Nat → Prop} {o : Nat → Nat} {all b : Nat} {x : Int32} (h : dnQ D o all x b) (ha : all < 256) (hx : x < 0) : isLM D o (fun s => s ≤ all) b := by
  obtain ⟨g, h1, rfl, h3⟩ := h
  have a1 := Int32.lt_iff_toInt_lt.mp hx
  rw [dec_nI (by omega)] at a1
  have e : (0 : Int32).toInt = 0 := by decide
  have hg : g = 0 := by omega
  subst hg
  exact h3.cg (fun s => by omega)
theorem dnQ.ge {D : Nat → Prop} {o : Nat → Nat} {all b : Nat} {x : Int32} (h : dnQ D o all x b) (ha : all < 256) (hx : ¬ x < 0) : ∃ g, g ≤ all ∧ x = nI g ∧ isLM D o (fun s => (g < s ∧ s ≤ all) ∨ s = all) b := by
  obtain ⟨g, h1, rfl, h3⟩ := h
  have a1 := Int32.le_iff_toInt_le.mp (Int32.not_lt.mp hx)
  rw [dec_nI (by omega)] at a1
  have e : (0 : Int32).toInt = 0 := by decide
  refine ⟨g - 1, by omega, nI_of_toInt ?_ (by omega), h3.cg (fun s => by omega)⟩
  rw [dec_nI (by omega)]
  omega
theorem dnQ.new {D : Nat → Prop} {o : Nat → Nat} {all g b : Nat} {x : Int32} (h : isLM D o (fun s => (g < s ∧ s ≤ all) ∨ s = all) b) (hg : g ≤ all) (hx : x = nI g + Int32.ofInt (-1)) (hd : D g) (ho : o g ≤ o b) : dnQ D o all x g := ⟨g, by omega, hx, lm_dn h hg hd ho⟩
theorem dnQ.start {D : Nat → Prop} {o : Nat → Nat} {all : Nat} (hd : D all) : dnQ D o all (nI all) all := by
  refine ⟨all + 1, by omega, ?_, Or.inr rfl, hd, fun s hs _ => Or.inr ?_⟩
  · have e : Int32.ofInt (-1) = -1 := by decide
    rw [e, pk_m1]
  · have : s = all := by omega
    rw [this]
    exact ⟨rfl, Nat.le_refl _⟩
/-! kinds -/
def likeP (n : Nat) (c d : Row) : Prop := (∀ g, g < n → c g = d g ∧ c (5 + g) = d (5 + g) ∧ c (10 + g) = d (10 + g)) ∧ c 15 = d 15
def kndB (a b c d e : Bool) : Int32 := nI ((if a = true then 1 else 0) + (if b = true then 2 else 0) + (if c = true then 4 else 0) + (if d = true then 8 else 0) + (if e = true then 16 else 0))
def kndP (A B C D E : Prop) (r : Int32) : Prop := ∃ a b c d e : Bool, (a = true ↔ A) ∧ (b = true ↔ B) ∧ (c = true ↔ C) ∧ (d = true ↔ D) ∧ (e = true ↔ E) ∧ r = kndB a b c d e
theorem kndP.same {A B C D E : Prop} {r r' : Int32} (h : kndP A B C D E r) (h' : kndP A B C D E r') : r = r' := by
  obtain ⟨a, b, c, d, e, h1, h2, h3, h4, h5, rfl⟩ := h
  obtain ⟨a', b', c', d', e', g1, g2, g3, g4, g5, rfl⟩ := h'
  rw [Bool.eq_iff_iff.mpr (h1.trans g1.symm), Bool.eq_iff_iff.mpr (h2.trans g2.symm), Bool.eq_iff_iff.mpr (h3.trans g3.symm), Bool.eq_iff_iff.mpr (h4.trans g4.symm), Bool.eq_iff_iff.mpr (h5.trans g5.symm)]
/-- flag x: P of all below g; or not of one below m -/
def flQ (P : Nat → Prop) (m g x : Nat) : Prop := (x = 1 ∧ ∀ p, p < g → P p) ∨ (x = 0 ∧ ∃ p, p < m ∧ ¬ P p)
theorem flQ.t {P : Nat → Prop} {m g x : Nat} (h : flQ P m g x) (hx : ¬ x = 0) (hp : P g) : flQ P m (g + 1) 1 := by
  rcases h with ⟨-, h⟩ | ⟨h, -⟩
  · exact Or.inl ⟨rfl, lt_ext h hp⟩
  · exact absurd h hx
theorem flQ.f {P : Nat → Prop} {m g : Nat} (hg : g < m) (hp : ¬ P g) : flQ P m (g + 1) 0 := Or.inr ⟨rfl, g, hg, hp⟩
theorem flQ.k {P : Nat → Prop} {m g x : Nat} (h : flQ P m g x) (hx : x = 0) : flQ P m (g + 1) 0 := by
  rcases h with ⟨h, -⟩ | ⟨-, h⟩
  · omega
  · exact Or.inr ⟨rfl, h⟩
theorem flQ.y {P : Nat → Prop} {m g x : Nat} (h : flQ P m g x) (hg : m ≤ g) (hx : ¬ x = 0) : ∀ p, p < m → P p := by
  rcases h with ⟨-, h⟩ | ⟨h, -⟩
  · exact fun p hp => h p (by omega)
  · exact absurd h hx
theorem flQ.n {P : Nat → Prop} {m g x : Nat} (h : flQ P m g x) (hx : x = 0) : ¬ ∀ p, p < m → P p := by
  rcases h with ⟨h, -⟩ | ⟨-, p, h1, h2⟩
  · omega
  · exact fun z => h2 (z p h1)
theorem flQ.start {P : Nat → Prop} {m : Nat} : flQ P m 0 1 := Or.inl ⟨rfl, fun p hp => by omega⟩
/-- cells that a night can change, of the first sixteen -/
def tch (n k : Nat) : Prop := k < n ∨ (5 ≤ k ∧ k < 5 + n) ∨ (10 ≤ k ∧ k < 10 + n) ∨ k = 15
def unT (n : Nat) (M N : Mt) : Prop := ∀ k, k < 16 → ¬ tch n k → N 78 (22 + k) = M 78 k
/-- a row of sixteen: what is told of guests as in d, the rest as in M -/
def rwQ (n : Nat) (M : Mt) (r d : Row) : Prop := ∀ k, k < 16 → (tch n k → r k = d k) ∧ (¬ tch n k → r k = M 78 k)
theorem HE.tc {n k : Nat} {c d : Row} (h : HE n c d) (hn : n ≤ 5) (hk : tch n k) : c k = d k := by
  rcases hk with h1 | ⟨h1, h2⟩ | ⟨h1, h2⟩ | h1
  · exact (h.1 k h1).1
  · obtain ⟨g, rfl⟩ : ∃ g, k = 5 + g := ⟨k - 5, by omega⟩
    exact (h.1 g (by omega)).2.1
  · obtain ⟨g, rfl⟩ : ∃ g, k = 10 + g := ⟨k - 10, by omega⟩
    exact (h.1 g (by omega)).2.2
  · rw [h1]; exact h.2.1
theorem rwQ.of {n : Nat} {M N : Mt} {d : Row} (hn : n ≤ 5) (h : HE n (lvC N 1) d) (hu : unT n M N) : rwQ n M (fun k => N 78 (22 + k)) d := fun k hk => ⟨fun ht => h.tc hn ht, fun ht => hu k hk ht⟩
theorem rwQ.like {n : Nat} {M : Mt} {r r' d d' : Row} (hn : n ≤ 5) (h : rwQ n M r d) (h' : rwQ n M r' d') : (∀ k, k < 16 → r k = r' k) ↔ likeP n d d' := by
  constructor
  · intro e
    have key : ∀ k, k < 16 → tch n k → d k = d' k := fun k hk ht => ((h k hk).1 ht).symm.trans ((e k hk).trans ((h' k hk).1 ht))
    exact ⟨fun g hg => ⟨key _ (by omega) (Or.inl hg), key _ (by omega) (Or.inr (Or.inl (by omega))), key _ (by omega) (Or.inr (Or.inr (Or.inl (by omega))))⟩, key 15 (by omega) (Or.inr (Or.inr (Or.inr rfl)))⟩
  · intro e k hk
    by_cases ht : tch n k
    · rw [(h k hk).1 ht, (h' k hk).1 ht]
      rcases ht with h1 | ⟨h1, h2⟩ | ⟨h1, h2⟩ | h1
      · exact (e.1 k h1).1
      · obtain ⟨g, rfl⟩ : ∃ g, k = 5 + g := ⟨k - 5, by omega⟩
        exact (e.1 g (by omega)).2.1
      · obtain ⟨g, rfl⟩ : ∃ g, k = 10 + g := ⟨k - 10, by omega⟩
        exact (e.1 g (by omega)).2.2
      · rw [h1]; exact e.2
    · rw [(h k hk).2 ht, (h' k hk).2 ht]
theorem likeP.sy {n : Nat} {c d : Row} (h : likeP n c d) : likeP n d c := ⟨fun g hg => ⟨(h.1 g hg).1.symm, (h.1 g hg).2.1.symm, (h.1 g hg).2.2.symm⟩, h.2.symm⟩
/-! round -/
def frP (L : Nat → Nat → Prop) (r : Int32) : Prop := (∃ j i, j ≤ 60 ∧ i < j ∧ L i j ∧ (∀ i', i' < i → ¬ L i' j) ∧ (∀ j', j' < j → ∀ i', i' < j' → ¬ L i' j') ∧ r = nI (100 * i + j)) ∨ ((∀ j, j ≤ 60 → ∀ i, i < j → ¬ L i j) ∧ r = -9)
theorem frP.same {L : Nat → Nat → Prop} {r r' : Int32} (h : frP L r) (h' : frP L r') : r = r' := by
  rcases h with ⟨j, i, h1, h2, h3, h4, h5, rfl⟩ | ⟨h1, rfl⟩
  · rcases h' with ⟨j', i', g1, g2, g3, g4, g5, rfl⟩ | ⟨g1, rfl⟩
    · have hj : j = j' := by
        rcases Nat.lt_trichotomy j j' with hl | hl | hl
        · exact absurd h3 (g5 j hl i h2)
        · exact hl
        · exact absurd g3 (h5 j' hl i' g2)
      subst hj
      have hi : i = i' := by
        rcases Nat.lt_trichotomy i i' with hl | hl | hl
        · exact absurd h3 (g4 i hl)
        · exact hl
        · exact absurd g3 (h4 i' hl)
      rw [hi]
    · exact absurd h3 (g1 j h1 i h2)
  · rcases h' with ⟨j', i', g1, g2, g3, g4, g5, rfl⟩ | ⟨g1, rfl⟩
    · exact absurd g3 (h1 j' g1 i' g2)
    · rfl
theorem rowS_keep {M N : Mt} {a i : Nat} (h : N a = M a) : rowS N a i = rowS M a i := by unfold rowS; rw [h]
/-! the reference's rows of a round -/
theorem unT.up {n : Nat} {M N P : Mt} (h : unT n M P) (e : ∀ k, k < 16 → ¬ tch n k → N 78 (22 + k) = P 78 (22 + k)) : unT n M N := fun k hk ht => (e k hk ht).trans (h k hk ht)
