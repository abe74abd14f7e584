/-! the least mask (cut): built clean by itself behind p9's parts (round 27, light); no walk uses it yet -/
/-- the least by o, then by its number, of those in S with D -/
def isLM (D : Nat → Prop) (o : Nat → Nat) (S : Nat → Prop) (b : Nat) : Prop := S b ∧ D b ∧ ∀ s, S s → D s → o b < o s ∨ (o b = o s ∧ b ≤ s)
theorem isLM.same {D : Nat → Prop} {o : Nat → Nat} {S : Nat → Prop} {b b' : Nat} (h : isLM D o S b) (h' : isLM D o S b') : b = b' := by
  have h1 := h.2.2 b' h'.1 h'.2.1
  have h2 := h'.2.2 b h.1 h.2.1
  omega
theorem isLM.cg {D : Nat → Prop} {o : Nat → Nat} {S S' : Nat → Prop} {b : Nat} (h : isLM D o S b) (e : ∀ s, S s ↔ S' s) : isLM D o S' b := ⟨(e b).mp h.1, h.2.1, fun s hs hd => h.2.2 s ((e s).mpr hs) hd⟩
theorem lm_start {D : Nat → Prop} {o : Nat → Nat} {all g : Nat} (hd : D all) (hg : g = 0) : isLM D o (fun s => s < g ∨ s = all) all := ⟨Or.inr rfl, hd, fun s hs _ => Or.inr ⟨hs.elim (fun h => absurd h (by omega)) (fun h => by rw [h]), hs.elim (fun h => absurd h (by omega)) (fun h => by omega)⟩⟩
/-- counting up, taken where it is less -/
theorem lm_up {D : Nat → Prop} {o : Nat → Nat} {all g b : Nat} (h : isLM D o (fun s => s < g ∨ s = all) b) (hd : D g) (ho : o g < o b) : isLM D o (fun s => s < g + 1 ∨ s = all) g := by
  refine ⟨Or.inl (by omega), hd, fun s hs hds => ?_⟩
  by_cases he : s = g
  · exact Or.inr ⟨by rw [he], by omega⟩
  · have := h.2.2 s (by rcases hs with h | h <;> omega) hds
    omega
theorem lm_stay {D : Nat → Prop} {o : Nat → Nat} {all g b : Nat} (h : isLM D o (fun s => s < g ∨ s = all) b) (hg : g ≤ all) (hall : ∀ s, s < all → o s < o all) (hn : ¬ D g ∨ ¬ o g < o b) : isLM D o (fun s => s < g + 1 ∨ s = all) b := by
  refine ⟨h.1.elim (fun h1 => Or.inl (Nat.lt_succ_of_lt h1)) Or.inr, h.2.1, fun s hs hds => ?_⟩
  by_cases he : s = g
  · subst he
    have ho : ¬ o s < o b := hn.resolve_left (fun z => z hds)
    rcases h.1 with h1 | h1
    · rcases Nat.lt_or_ge (o b) (o s) with h2 | h2
      · exact Or.inl h2
      · exact Or.inr ⟨by omega, by omega⟩
    · by_cases hs2 : s = all
      · exact Or.inr ⟨by rw [h1, hs2], by omega⟩
      · have := hall s (by omega)
        rw [h1] at ho
        omega
  · exact h.2.2 s (by rcases hs with h | h <;> omega) hds
/-- counting down, taken where it is no more; behind g all above g are through -/
theorem lm_dn {D : Nat → Prop} {o : Nat → Nat} {all g b : Nat} (h : isLM D o (fun s => (g < s ∧ s ≤ all) ∨ s = all) b) (hg : g ≤ all) (hd : D g) (ho : o g ≤ o b) : isLM D o (fun s => (g ≤ s ∧ s ≤ all) ∨ s = all) g := by
  refine ⟨Or.inl (by omega), hd, fun s hs hds => ?_⟩
  by_cases he : s = g
  · exact Or.inr ⟨by rw [he], by omega⟩
  · have := h.2.2 s (by rcases hs with h | h <;> omega) hds
    omega
theorem lm_dn0 {D : Nat → Prop} {o : Nat → Nat} {all g b : Nat} (h : isLM D o (fun s => (g < s ∧ s ≤ all) ∨ s = all) b) (hn : ¬ D g ∨ ¬ o g ≤ o b) : isLM D o (fun s => (g ≤ s ∧ s ≤ all) ∨ s = all) b := by
  refine ⟨by rcases h.1 with h1 | h1 <;> omega, h.2.1, fun s hs hds => ?_⟩
  by_cases he : s = g
  · subst he
    have ho : ¬ o s ≤ o b := hn.resolve_left (fun z => z hds)
    omega
  · exact h.2.2 s (by rcases hs with h | h <;> omega) hds
/-! CUT, KINDS, ROUND as numbers; tales by their deeds' numbers -/
def pw2 (m p : Nat) : Prop := p = 2 ^ m
theorem w_shl1x {d j pc : Nat} {ls st : List Value} {M : Mt} {L : Lt} {Q : Option Value → Mt → Lt → Prop} {w : Nat} (pc' : Nat) (h : isI j pc .ishl pc' = true) (hw : w ≤ 8) (kk : ∀ p : Nat, 1 ≤ p ∧ p ≤ 256 → pw2 w p → Wp d j pc' ls (.int (nI p) :: st) M L Q) : Wp d j pc ls (.int (nI w) :: .int (nI 1) :: st) M L Q := by
  refine w_pure .ishl pc' h rfl rfl ?_
  have e : nI 1 <<< (nI w &&& 31) = nI (2 ^ w) := by
    rcases (by omega : w = 0 ∨ w = 1 ∨ w = 2 ∨ w = 3 ∨ w = 4 ∨ w = 5 ∨ w = 6 ∨ w = 7 ∨ w = 8) with rfl | rfl | rfl | rfl | rfl | rfl | rfl | rfl | rfl <;> decide
  rw [e]
  exact kk _ ⟨Nat.one_le_two_pow, Nat.le_trans (Nat.pow_le_pow_right (by decide) hw) (by decide)⟩ rfl
theorem tl_nd {T : TLs} {t k : Nat} {l : Row} (hz : (T t).1 ≤ 24) (hl : ∀ i, i < 24 → l i = (T t).2 i) (h : sndT l (T t).1 k) : k = sndN (T t).2 (T t).1 := sndN_eq h (fun i hi => hl i (by omega))
theorem nD_le8 {T : TLs} {t : Nat} (hz : (T t).1 ≤ 24) : nD T t ≤ 8 := by
  have := (sndN_spec (T t).2 (T t).1).1
  unfold nD
  omega
theorem nD_x {T : TLs} {M : Mt} {t : Nat} (h : tlX T M) (ht : t < 3) : nD T t ≤ 8 := nD_le8 (h t ht).1
theorem nD_m {T : TLs} {M : Mt} {t : Nat} (h : tlM T M) (ht : t < 3) : nD T t ≤ 8 := nD_le8 (h t ht).1
theorem nD_lt {T : TLs} {t p : Nat} (h : p < nD T t) : 3 * p + 2 < (T t).1 := by
  have := (sndN_spec (T t).2 (T t).1).1
  unfold nD at h
  omega
/-- the number of a whole deed -/
def dnum (T : TLs) (t p : Nat) : Nat := (deedV (T t).2 p).toNatClampNeg
theorem dn_num {T : TLs} {t p : Nat} (hp : p < nD T t) : deedV (T t).2 p = nI (dnum T t p) ∧ dnum T t p < 64 := by
  obtain ⟨x, y, z, hx, hy, hz, e⟩ := deed_num (sndN_spec (T t).2 (T t).1) hp
  unfold dnum
  rw [e, nI_clamp (by omega)]
  exact ⟨rfl, by omega⟩
theorem s_wholeT {d : Nat} {M : Mt} {L : Lt} {Q : Option Value → Mt → Lt → Prop} {t : Nat} {T : TLs} (hI : Inv M) (ht : t < 3) (hT : tlX T M) (hd : 3 ≤ d) (hq : ∀ r : Int32, r = nI (nD T t) → Q (some (.int r)) M L) : Wp d 43 0 [.ref (70 + 2 * t)] [] M L Q := by
  obtain ⟨h1, h2, h3⟩ := hT t ht
  refine k_43 hI (sc_tale t ht) h1 h2 hd (fun r hr => ?_)
  obtain ⟨k, hk, e⟩ := hr
  exact hq r (by rw [e, tl_nd h1 h3 hk]; rfl)
theorem s_deedAtT {d : Nat} {M : Mt} {L : Lt} {Q : Option Value → Mt → Lt → Prop} {t k : Nat} {T : TLs} (hI : Inv M) (ht : t < 3) (hT : tlX T M) (hk : k < nD T t) (hd : 1 ≤ d) (hq : ∀ r : Int32, r = nI (dnum T t k) → Q (some (.int r)) M L) : Wp d 44 0 [.ref (70 + 2 * t), .int (nI k), .null, .null] [] M L Q := by
  obtain ⟨h1, h2, h3⟩ := hT t ht
  have h4 := nD_lt hk
  refine s_deedAt hI (sc_tale t ht) h1 h2 h4 hd (fun r hr => ?_)
  refine hq r ?_
  rw [hr, ← (dn_num hk).1]
  unfold deedV
  rw [h3 (3 * k) (by omega), h3 (3 * k + 1) (by omega), h3 (3 * k + 2) (by omega)]
theorem s_deedsT {d : Nat} {M : Mt} {L : Lt} {Q : Option Value → Mt → Lt → Prop} {t : Nat} {T : TLs} (hI : Inv M) (ht : t < 3) (hT : tlM T M) (hd : 2 ≤ d) (hq : ∀ r : Int32, r = nI (nD T t) → Q (some (.int r)) M L) : Wp d 148 0 [.ref 76, .int (nI t), .null] [] M L Q := by
  obtain ⟨h1, h2, h3⟩ := hT t ht
  refine k_148 hI ht h1 h2 hd (fun r hr => ?_)
  obtain ⟨k, hk, e⟩ := hr
  exact hq r (by rw [e, tl_nd h1 h3 hk]; rfl)
/-! how many ones -/
def onN (s : Nat) : Nat := s % 2 + s / 2 % 2 + s / 4 % 2 + s / 8 % 2 + s / 16 % 2 + s / 32 % 2 + s / 64 % 2 + s / 128 % 2
theorem on_le (s : Nat) : onN s ≤ 8 := by unfold onN; omega
theorem bc_on {s : Nat} (h : s < 256) : bcI (nI s) = nI (onN s) := (by decide +kernel : ∀ s, s < 256 → bcI (nI s) = nI (onN s)) s h
theorem ones_on {s : Nat} (h : s < 256) : sumI 8 (fun k => (nI s >>> (nI k &&& 31)) &&& nI 1) = nI (onN s) := (by decide +kernel : ∀ s, s < 256 → sumI 8 (fun k => (nI s >>> (nI k &&& 31)) &&& nI 1) = nI (onN s)) s h
theorem on_all {m p : Nat} (hm : m ≤ 8) (h : pw2 m p) : ∀ s, s < p - 1 → onN s < onN (p - 1) := by
  rw [h]
  exact (by decide +kernel : ∀ m, m < 9 → ∀ s, s < 2 ^ m - 1 → onN s < onN (2 ^ m - 1)) m (by omega)
theorem s_bitCountN {d : Nat} {M : Mt} {L : Lt} {Q : Option Value → Mt → Lt → Prop} {a : Nat} (hI : Inv M) (ha : a < 256) (hd : 0 ≤ d) (hq : ∀ r : Int32, r = nI (onN a) → Q (some (.int r)) M L) : Wp d 200 0 [.int (nI a)] [] M L Q := s_bitCount hI hd (fun r hr => hq r (hr.trans (bc_on ha)))
theorem s_onesN {d : Nat} {M : Mt} {L : Lt} {Q : Option Value → Mt → Lt → Prop} {a : Nat} (hI : Inv M) (ha : a < 256) (hd : 0 ≤ d) (hq : ∀ r : Int32, r = nI (onN a) → Q (some (.int r)) M L) : Wp d 136 0 [.int (nI a), .null, .null] [] M L Q := s_ones hI hd (fun r hr => hq r (hr.trans (ones_on ha)))
/-! cut -/
def othW (m : Nat) (a : Int32) : Int32 := setI m (fun p => !tb a p)
theorem oth_all {m p : Nat} {a : Int32} (hm : m ≤ 8) (h : pw2 m p) : othW m a = nI (p - 1) &&& (a ^^^ (-1)) := by
  have key : ∀ m, m < 9 → ∀ i, i < 32 → tb (nI (2 ^ m - 1)) i = decide (i < m) := by decide +kernel
  unfold othW
  rw [h]
  apply tb_ext
  intro i hi
  rw [tb_setI m (by omega) i hi, tb_and, tb_not hi, key m (by omega) i hi]
theorem setI_s {g : Nat} {P : Nat → Bool} {x : Int32} (hx : x = setI g P) (h : P g = false) : x = setI (g + 1) P := by
  rw [← setI_f hx h, or_0]
theorem setI_z {P : Nat → Bool} : ∀ m, (∀ p, p < m → P p = false) → setI m P = nI 0
  | 0, _ => rfl
  | m + 1, h => by
    rw [← setI_s (x := setI m P) rfl (h m (by omega))]
    exact setI_z m (fun p hp => h p (by omega))
theorem run_all {n : Nat} {dv : Nat → Int32} {w : Int32} {s : TSt} : ∀ m, (∀ p, p < m → tb w p = true) → runF n dv w m s = s
  | 0, _ => rfl
  | m + 1, h => by
    show (if tb w m = true then _ else _) = _
    rw [if_pos (h m (by omega))]
    exact run_all m (fun p hp => h p (by omega))
theorem ru_t {n m : Nat} {dv : Nat → Int32} {w : Int32} {s : TSt} (ht : tb w m = true) : runF n dv w (m + 1) s = runF n dv w m s := by
  show (if tb w m = true then _ else _) = _
  rw [if_pos ht]
/-- without the deeds of s all others are done -/
noncomputable def dnW (n : Nat) (T : TLs) (pw : Row) (t : Nat) (c : Row) (s : Nat) : Prop := (TLw n T pw (nI s) t c).2.2.2 = othW (nD T t) (nI s)
theorem dn_all {n t p : Nat} {T : TLs} {pw c : Row} (hm : nD T t ≤ 8) (h : pw2 (nD T t) p) : dnW n T pw t c (p - 1) := by
  have key : ∀ m, m < 9 → ∀ i, i < m → tb (nI (2 ^ m - 1)) i = true := by decide +kernel
  have e : ∀ i, i < nD T t → tb (nI (p - 1)) i = true := fun i hi => by rw [h]; exact key _ (by omega) i hi
  unfold dnW TLw othW
  rw [run_all _ e, setI_z _ (fun p hp => by rw [e p hp]; rfl)]
theorem dn_1 {n t g : Nat} {T : TLs} {pw c : Row} {N : Mt} {q : Nat} {x : Int32} (h : shT n 10 N (runF n (deedV (T t).2) (nI q) g (c, pw, nI 0, nI 0))) (hg : g = nD T t) (hx : x = setI g (fun p => !tb (nI q) p)) : (N 10 2 = x) ↔ dnW n T pw t c q := by
  subst hg
  unfold dnW TLw othW
  rw [← hx, ← h.2.2.2]
theorem dn_8 {n t p q : Nat} {T : TLs} {pw c : Row} {v : Int32} (hm : nD T t ≤ 8) (h : pw2 (nD T t) p) (hv : v = (TLw n T pw (nI q) t c).2.2.2) : (v = nI (p - 1) &&& (nI q ^^^ (-1))) ↔ dnW n T pw t c q := by
  unfold dnW
  rw [← oth_all hm h, hv]
def dnQ (D : Nat → Prop) (o : Nat → Nat) (all : Nat) (x : Int32) (b : Nat) : Prop := ∃ g, g ≤ all + 1 ∧ x = nI g + Int32.ofInt (-1) ∧ isLM D o (fun s => (g ≤ s ∧ s ≤ all) ∨ s = all) b
theorem dec_nI {g : Nat} (h : g < 2 ^ 31) : (nI g + Int32.ofInt (-1)).toInt = (g : Int) - 1 := by
  rw [Int32.toInt_add, nI_toInt h]
  have e : (Int32.ofInt (-1)).toInt = -1 := by decide
  rw [e]
  rw [Int.bmod_eq_of_le] <;> omega
theorem dnQ.lt {D : Nat → Prop} {o : Nat → Nat} {all b : Nat} {x : Int32} (h : dnQ D o all x b) (ha : all < 256) (hx : x < 0) : isLM D o (fun s => s ≤ all) b := by
  obtain ⟨g, h1, rfl, h3⟩ := h
  have a1 := Int32.lt_iff_toInt_lt.mp hx
  rw [dec_nI (by omega)] at a1
  have e : (0 : Int32).toInt = 0 := by decide
  have hg : g = 0 := by omega
  subst hg
  exact h3.cg (fun s => by omega)
theorem dnQ.ge {D : Nat → Prop} {o : Nat → Nat} {all b : Nat} {x : Int32} (h : dnQ D o all x b) (ha : all < 256) (hx : ¬ x < 0) : ∃ g, g ≤ all ∧ x = nI g ∧ isLM D o (fun s => (g < s ∧ s ≤ all) ∨ s = all) b := by
  obtain ⟨g, h1, rfl, h3⟩ := h
  have a1 := Int32.le_iff_toInt_le.mp (Int32.not_lt.mp hx)
  rw [dec_nI (by omega)] at a1
  have e : (0 : Int32).toInt = 0 := by decide
  refine ⟨g - 1, by omega, nI_of_toInt ?_ (by omega), h3.cg (fun s => by omega)⟩
  rw [dec_nI (by omega)]
  omega
theorem dnQ.new {D : Nat → Prop} {o : Nat → Nat} {all g b : Nat} {x : Int32} (h : isLM D o (fun s => (g < s ∧ s ≤ all) ∨ s = all) b) (hg : g ≤ all) (hx : x = nI g + Int32.ofInt (-1)) (hd : D g) (ho : o g ≤ o b) : dnQ D o all x g := ⟨g, by omega, hx, lm_dn h hg hd ho⟩
theorem dnQ.old {D : Nat → Prop} {o : Nat → Nat} {all g b : Nat} {x : Int32} (h : isLM D o (fun s => (g < s ∧ s ≤ all) ∨ s = all) b) (hg : g ≤ all) (hx : x = nI g + Int32.ofInt (-1)) (hn : ¬ D g ∨ ¬ o g ≤ o b) : dnQ D o all x b := ⟨g, by omega, hx, lm_dn0 h hn⟩
theorem dnQ.start {D : Nat → Prop} {o : Nat → Nat} {all : Nat} (hd : D all) : dnQ D o all (nI all) all := by
  refine ⟨all + 1, by omega, ?_, Or.inr rfl, hd, fun s hs _ => Or.inr ?_⟩
  · have e : Int32.ofInt (-1) = -1 := by decide
    rw [e, pk_m1]
  · have : s = all := by omega
    rw [this]
    exact ⟨rfl, Nat.le_refl _⟩
theorem dn_mu {g k : Nat} {v : Int32} (hg : g < 256) (hv : v = nI g + Int32.ofInt (-1)) (h : ((nI g).toInt + 1).toNat < k + 1) : (v.toInt + 1).toNat < k := by
  rw [hv, dec_nI (by omega)]
  rw [nI_toInt (by omega)] at h
  omega
/-! kinds -/
def likeP (n : Nat) (c d : Row) : Prop := (∀ g, g < n → c g = d g ∧ c (5 + g) = d (5 + g) ∧ c (10 + g) = d (10 + g)) ∧ c 15 = d 15
def kndB (a b c d e : Bool) : Int32 := nI ((if a = true then 1 else 0) + (if b = true then 2 else 0) + (if c = true then 4 else 0) + (if d = true then 8 else 0) + (if e = true then 16 else 0))
def kndP (A B C D E : Prop) (r : Int32) : Prop := ∃ a b c d e : Bool, (a = true ↔ A) ∧ (b = true ↔ B) ∧ (c = true ↔ C) ∧ (d = true ↔ D) ∧ (e = true ↔ E) ∧ r = kndB a b c d e
theorem kndP.same {A B C D E : Prop} {r r' : Int32} (h : kndP A B C D E r) (h' : kndP A B C D E r') : r = r' := by
  obtain ⟨a, b, c, d, e, h1, h2, h3, h4, h5, rfl⟩ := h
  obtain ⟨a', b', c', d', e', g1, g2, g3, g4, g5, rfl⟩ := h'
  rw [Bool.eq_iff_iff.mpr (h1.trans g1.symm), Bool.eq_iff_iff.mpr (h2.trans g2.symm), Bool.eq_iff_iff.mpr (h3.trans g3.symm), Bool.eq_iff_iff.mpr (h4.trans g4.symm), Bool.eq_iff_iff.mpr (h5.trans g5.symm)]
/-- flag x: P of all below g; or not of one below m -/
def flQ (P : Nat → Prop) (m g x : Nat) : Prop := (x = 1 ∧ ∀ p, p < g → P p) ∨ (x = 0 ∧ ∃ p, p < m ∧ ¬ P p)
theorem flQ.t {P : Nat → Prop} {m g x : Nat} (h : flQ P m g x) (hx : ¬ x = 0) (hp : P g) : flQ P m (g + 1) 1 := by
  rcases h with ⟨-, h⟩ | ⟨h, -⟩
  · exact Or.inl ⟨rfl, lt_ext h hp⟩
  · exact absurd h hx
theorem flQ.f {P : Nat → Prop} {m g : Nat} (hg : g < m) (hp : ¬ P g) : flQ P m (g + 1) 0 := Or.inr ⟨rfl, g, hg, hp⟩
theorem flQ.k {P : Nat → Prop} {m g x : Nat} (h : flQ P m g x) (hx : x = 0) : flQ P m (g + 1) 0 := by
  rcases h with ⟨h, -⟩ | ⟨-, h⟩
  · omega
  · exact Or.inr ⟨rfl, h⟩
theorem flQ.y {P : Nat → Prop} {m g x : Nat} (h : flQ P m g x) (hg : m ≤ g) (hx : ¬ x = 0) : ∀ p, p < m → P p := by
  rcases h with ⟨-, h⟩ | ⟨h, -⟩
  · exact fun p hp => h p (by omega)
  · exact absurd h hx
theorem flQ.n {P : Nat → Prop} {m g x : Nat} (h : flQ P m g x) (hx : x = 0) : ¬ ∀ p, p < m → P p := by
  rcases h with ⟨h, -⟩ | ⟨-, p, h1, h2⟩
  · omega
  · exact fun z => h2 (z p h1)
theorem flQ.start {P : Nat → Prop} {m : Nat} : flQ P m 0 1 := Or.inl ⟨rfl, fun p hp => by omega⟩
/-- cells that a night can change, of the first sixteen -/
def tch (n k : Nat) : Prop := k < n ∨ (5 ≤ k ∧ k < 5 + n) ∨ (10 ≤ k ∧ k < 10 + n) ∨ k = 15
def unT (n : Nat) (M N : Mt) : Prop := ∀ k, k < 16 → ¬ tch n k → N 78 (22 + k) = M 78 k
/-- a row of sixteen: what is told of guests as in d, the rest as in M -/
def rwQ (n : Nat) (M : Mt) (r d : Row) : Prop := ∀ k, k < 16 → (tch n k → r k = d k) ∧ (¬ tch n k → r k = M 78 k)
theorem HE.tc {n k : Nat} {c d : Row} (h : HE n c d) (hn : n ≤ 5) (hk : tch n k) : c k = d k := by
  rcases hk with h1 | ⟨h1, h2⟩ | ⟨h1, h2⟩ | h1
  · exact (h.1 k h1).1
  · obtain ⟨g, rfl⟩ : ∃ g, k = 5 + g := ⟨k - 5, by omega⟩
    exact (h.1 g (by omega)).2.1
  · obtain ⟨g, rfl⟩ : ∃ g, k = 10 + g := ⟨k - 10, by omega⟩
    exact (h.1 g (by omega)).2.2
  · rw [h1]; exact h.2.1
theorem rwQ.of {n : Nat} {M N : Mt} {d : Row} (hn : n ≤ 5) (h : HE n (lvC N 1) d) (hu : unT n M N) : rwQ n M (fun k => N 78 (22 + k)) d := fun k hk => ⟨fun ht => h.tc hn ht, fun ht => hu k hk ht⟩
theorem rwQ.like {n : Nat} {M : Mt} {r r' d d' : Row} (hn : n ≤ 5) (h : rwQ n M r d) (h' : rwQ n M r' d') : (∀ k, k < 16 → r k = r' k) ↔ likeP n d d' := by
  constructor
  · intro e
    have key : ∀ k, k < 16 → tch n k → d k = d' k := fun k hk ht => ((h k hk).1 ht).symm.trans ((e k hk).trans ((h' k hk).1 ht))
    exact ⟨fun g hg => ⟨key _ (by omega) (Or.inl hg), key _ (by omega) (Or.inr (Or.inl (by omega))), key _ (by omega) (Or.inr (Or.inr (Or.inl (by omega))))⟩, key 15 (by omega) (Or.inr (Or.inr (Or.inr rfl)))⟩
  · intro e k hk
    by_cases ht : tch n k
    · rw [(h k hk).1 ht, (h' k hk).1 ht]
      rcases ht with h1 | ⟨h1, h2⟩ | ⟨h1, h2⟩ | h1
      · exact (e.1 k h1).1
      · obtain ⟨g, rfl⟩ : ∃ g, k = 5 + g := ⟨k - 5, by omega⟩
        exact (e.1 g (by omega)).2.1
      · obtain ⟨g, rfl⟩ : ∃ g, k = 10 + g := ⟨k - 10, by omega⟩
        exact (e.1 g (by omega)).2.2
      · rw [h1]; exact e.2
    · rw [(h k hk).2 ht, (h' k hk).2 ht]
theorem likeP.sy {n : Nat} {c d : Row} (h : likeP n c d) : likeP n d c := ⟨fun g hg => ⟨(h.1 g hg).1.symm, (h.1 g hg).2.1.symm, (h.1 g hg).2.2.symm⟩, h.2.symm⟩
/-! round -/
def frP (L : Nat → Nat → Prop) (r : Int32) : Prop := (∃ j i, j ≤ 60 ∧ i < j ∧ L i j ∧ (∀ i', i' < i → ¬ L i' j) ∧ (∀ j', j' < j → ∀ i', i' < j' → ¬ L i' j') ∧ r = nI (100 * i + j)) ∨ ((∀ j, j ≤ 60 → ∀ i, i < j → ¬ L i j) ∧ r = -9)
theorem frP.same {L : Nat → Nat → Prop} {r r' : Int32} (h : frP L r) (h' : frP L r') : r = r' := by
  rcases h with ⟨j, i, h1, h2, h3, h4, h5, rfl⟩ | ⟨h1, rfl⟩
  · rcases h' with ⟨j', i', g1, g2, g3, g4, g5, rfl⟩ | ⟨g1, rfl⟩
    · have hj : j = j' := by
        rcases Nat.lt_trichotomy j j' with hl | hl | hl
        · exact absurd h3 (g5 j hl i h2)
        · exact hl
        · exact absurd g3 (h5 j' hl i' g2)
      subst hj
      have hi : i = i' := by
        rcases Nat.lt_trichotomy i i' with hl | hl | hl
        · exact absurd h3 (g4 i hl)
        · exact hl
        · exact absurd g3 (h4 i' hl)
      rw [hi]
    · exact absurd h3 (g1 j h1 i h2)
  · rcases h' with ⟨j', i', g1, g2, g3, g4, g5, rfl⟩ | ⟨g1, rfl⟩
    · exact absurd g3 (h1 j' g1 i' g2)
    · rfl
theorem rowS_keep {M N : Mt} {a i : Nat} (h : N a = M a) : rowS N a i = rowS M a i := by unfold rowS; rw [h]
/-! the reference's rows of a round -/
theorem unT.up {n : Nat} {M N P : Mt} (h : unT n M P) (e : ∀ k, k < 16 → ¬ tch n k → N 78 (22 + k) = P 78 (22 + k)) : unT n M N := fun k hk ht => (e k hk ht).trans (h k hk ht)
