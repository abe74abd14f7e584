/-! PURE WORDS: ranges, fits, faults, kinds; the seed's course; rules that tell the memory as it is -/
def inR (x : Int32) (lo hi : Int) : Prop := lo ≤ x.toInt ∧ x.toInt ≤ hi
theorem inR_of {a x y : Int32} {lo hi : Int} (h1 : ¬ a < x) (h2 : ¬ y < a) (hx : x.toInt = lo) (hy : y.toInt = hi) : inR a lo hi := by
  have a1 := Int32.le_iff_toInt_le.mp (Int32.not_lt.mp h1)
  have a2 := Int32.le_iff_toInt_le.mp (Int32.not_lt.mp h2)
  exact ⟨by omega, by omega⟩
theorem inR_ofle {a x y : Int32} {lo hi : Int} (h1 : ¬ a < x) (h2 : a ≤ y) (hx : x.toInt = lo) (hy : y.toInt = hi) : inR a lo hi := by
  have a1 := Int32.le_iff_toInt_le.mp (Int32.not_lt.mp h1)
  have a2 := Int32.le_iff_toInt_le.mp h2
  exact ⟨by omega, by omega⟩
theorem inR_lo {a x : Int32} {lo hi : Int} (h1 : a < x) (hx : x.toInt = lo) : ¬ inR a lo hi := by
  have a1 := Int32.lt_iff_toInt_lt.mp h1
  intro h
  have := h.1
  omega
theorem inR_hi {a y : Int32} {lo hi : Int} (h1 : y < a) (hy : y.toInt = hi) : ¬ inR a lo hi := by
  have a1 := Int32.lt_iff_toInt_lt.mp h1
  intro h
  have := h.2
  omega
theorem inR_nle {a y : Int32} {lo hi : Int} (h1 : ¬ a ≤ y) (hy : y.toInt = hi) : ¬ inR a lo hi := inR_hi (Int32.not_le.mp h1) hy
theorem inR_in {a : Int32} {y z : Int64} {lo hi : Int} (h1 : y ≤ a.toInt64) (h2 : a.toInt64 ≤ z) (hy : y.toInt = lo) (hz : z.toInt = hi) : inR a lo hi := by
  have a1 := Int64.le_iff_toInt_le.mp h1
  have a2 := Int64.le_iff_toInt_le.mp h2
  rw [Int32.toInt_toInt64] at a1 a2
  exact ⟨by omega, by omega⟩
theorem inR_nin {a : Int32} {y z : Int64} {lo hi : Int} (h : ¬ (y ≤ a.toInt64 ∧ a.toInt64 ≤ z)) (hy : y.toInt = lo) (hz : z.toInt = hi) : ¬ inR a lo hi := by
  rintro ⟨a1, a2⟩
  apply h
  rw [Int64.le_iff_toInt_le, Int64.le_iff_toInt_le, Int32.toInt_toInt64]
  exact ⟨by omega, by omega⟩
theorem lt_ext {P : Nat → Prop} {g : Nat} (h : ∀ z, z < g → P z) (h2 : P g) : ∀ z, z < g + 1 → P z := by
  intro z hz
  by_cases hz2 : z < g
  · exact h z hz2
  · have : z = g := by omega
    rw [this]; exact h2
/-- what a letter's kind is -/
def kd (x : Int32) : Int32 := if x = nI 107 then nI 0 else if x = nI 119 then nI 1 else if x = nI 103 then nI 2 else if x = nI 116 then nI 3 else -9
theorem nI_of_toInt {x : Int32} {k : Nat} (h : x.toInt = k) (hk : k < 2 ^ 31) : x = nI k := by
  apply Int32.toInt_inj.mp
  rw [h, nI_toInt hk]
theorem kd_103 {x : Int32} (h : x.toInt = 103) : nI 2 = kd x := by rw [nI_of_toInt (k := 103) h (by decide)]; decide
theorem kd_107 {x : Int32} (h : x.toInt = 107) : nI 0 = kd x := by rw [nI_of_toInt (k := 107) h (by decide)]; decide
theorem kd_116 {x : Int32} (h : x.toInt = 116) : nI 3 = kd x := by rw [nI_of_toInt (k := 116) h (by decide)]; decide
theorem kd_119 {x : Int32} (h : x.toInt = 119) : nI 1 = kd x := by rw [nI_of_toInt (k := 119) h (by decide)]; decide
theorem ne_nI {x : Int32} {k : Nat} (h : ¬ x.toInt = k) (hk : k < 2 ^ 31) : ¬ x = nI k := fun e => h (by rw [e, nI_toInt hk])
theorem kd_no {x : Int32} (h1 : ¬ x.toInt = 103) (h2 : ¬ x.toInt = 107) (h3 : ¬ x.toInt = 116) (h4 : ¬ x.toInt = 119) : -9 = kd x := by
  unfold kd
  rw [if_neg (ne_nI (k := 107) h2 (by decide)), if_neg (ne_nI (k := 119) h4 (by decide)), if_neg (ne_nI (k := 103) h1 (by decide)), if_neg (ne_nI (k := 116) h3 (by decide))]
/-- a letter at its place in the inn's text -/
def fitI (p : Nat) (x : Int32) : Prop := if p = 0 then x = nI 73 else if 20 < p then False else if p % 4 = 1 then x = nI 71 else if p % 4 = 2 then inR x 97 100 else if p % 4 = 3 then inR x 48 57 else inR x 48 51
/-- a letter at its place in a tale -/
def fitT (p : Nat) (x : Int32) : Prop := if p % 3 = 0 then ¬ kd x = -9 else inR x 97 100
/-- the first place that doesn't fit, else fin -/
def FT (fit : Nat → Int32 → Prop) (c : Nat → Int32) (n : Nat) (r fin : Int32) : Prop := (∃ k, k < n ∧ r = nI k ∧ ¬ fit k (c k) ∧ ∀ i, i < k → fit i (c i)) ∨ ((∀ i, i < n → fit i (c i)) ∧ r = fin)
theorem FT.same {fit : Nat → Int32 → Prop} {c c' : Nat → Int32} {n : Nat} {r r' fin : Int32} (h : FT fit c n r fin) (h' : FT fit c' n r' fin) (hc : ∀ i, i < n → c i = c' i) : r = r' := by
  rcases h with ⟨k, h1, rfl, h2, h3⟩ | ⟨h1, rfl⟩
  · rcases h' with ⟨k', g1, rfl, g2, g3⟩ | ⟨g1, rfl⟩
    · rcases Nat.lt_trichotomy k k' with hl | hl | hl
      · exact absurd ((hc k h1) ▸ g3 k hl) h2
      · rw [hl]
      · exact absurd ((hc k' g1) ▸ h3 k' hl) g2
    · exact absurd ((hc k h1) ▸ g1 k h1) h2
  · rcases h' with ⟨k', g1, rfl, g2, g3⟩ | ⟨g1, rfl⟩
    · exact absurd ((hc k' g1) ▸ h1 k' g1) g2
    · rfl
def OkI (c : Nat → Int32) (n : Nat) : Prop := (∀ i, i < n → fitI i (c i)) ∧ n % 4 = 1
theorem OkI.lt {c : Nat → Int32} {n : Nat} (h : OkI c n) : 1 ≤ n ∧ n ≤ 21 := by
  refine ⟨by have := h.2; omega, ?_⟩
  apply Nat.le_of_not_lt
  intro hn
  have h1 := h.1 21 hn
  unfold fitI at h1
  rw [if_neg (by omega), if_pos (by omega)] at h1
  exact h1
theorem OkI.same {c c' : Nat → Int32} {n : Nat} (h : OkI c n) (hc : ∀ i, i < n → c i = c' i) : OkI c' n := ⟨fun i hi => (hc i hi) ▸ h.1 i hi, h.2⟩
theorem nI_m9' {n : Nat} (h : n < 2 ^ 31) : ¬ nI n = -9 := by
  intro e
  have h1 := nI_toInt h
  rw [e] at h1
  have h2 : (-9 : Int32).toInt = -9 := by decide
  omega
theorem ft_ok {c : Nat → Int32} {n : Nat} {r : Int32} (h : FT fitI c n r (if n % 4 = 1 then -9 else nI n)) (hn : n ≤ 24) : r = -9 ↔ OkI c n := by
  rcases h with ⟨k, h1, rfl, h2, h3⟩ | ⟨h1, rfl⟩
  · exact ⟨fun e => absurd e (nI_m9' (by omega)), fun e => absurd (e.1 k h1) h2⟩
  · by_cases h4 : n % 4 = 1
    · rw [if_pos h4]
      exact ⟨fun _ => ⟨h1, h4⟩, fun _ => rfl⟩
    · rw [if_neg h4]
      exact ⟨fun e => absurd e (nI_m9' (by omega)), fun e => absurd e.2 h4⟩
/-- k letters are sound, no more -/
def sndT (c : Nat → Int32) (n k : Nat) : Prop := k ≤ n ∧ (∀ i, i < k → fitT i (c i)) ∧ (k < n → ¬ fitT k (c k))
theorem sndT.same {c c' : Nat → Int32} {n k k' : Nat} (h : sndT c n k) (h' : sndT c' n k') (hc : ∀ i, i < n → c i = c' i) : k = k' := by
  obtain ⟨h1, h2, h3⟩ := h
  obtain ⟨g1, g2, g3⟩ := h'
  rcases Nat.lt_trichotomy k k' with hl | hl | hl
  · exact absurd ((hc k (by omega)) ▸ g2 k hl) (h3 (by omega))
  · exact hl
  · exact absurd ((hc k' (by omega)) ▸ h2 k' hl) (g3 (by omega))
theorem sl_eq {k n : Nat} {r : Int32} (hk : k < 2 ^ 31) (e : r = if k = n ∧ n % 3 = 0 then -9 else nI k) (h : r = -9) : k = n := by
  by_cases hc : k = n ∧ n % 3 = 0
  · exact hc.1
  · rw [if_neg hc] at e
    exact absurd (e.symm.trans h) (nI_m9' hk)
theorem sl_ne {k n : Nat} {r : Int32} (_ : k < 2 ^ 31) (e : r = if k = n ∧ n % 3 = 0 then -9 else nI k) (h : ¬ r = -9) : r = nI k := by
  by_cases hc : k = n ∧ n % 3 = 0
  · rw [if_pos hc] at e
    exact absurd e h
  · rw [if_neg hc] at e
    exact e
/-- the seed -/
def nxS (x : Int64) : Int64 := x * 6364136223846793005 + 1442695040888963407
def itS : Nat → Int64 → Int64
  | 0, x => x
  | n + 1, x => nxS (itS n x)
theorem upL_eq {L : Lt} {i : Nat} {v : Int64} : upL L i v i = v := if_pos rfl
theorem upL_ne {L : Lt} {i a : Nat} {v : Int64} (h : ¬ a = i) : upL L i v a = L a := if_neg h
theorem it_end {x y : Int64} {a b : Nat} (h : x = itS a y) (e : a = b) : x = itS b y := by rw [h, e]
theorem rng_1 {f : Int32} {m : Nat} (h1 : ¬ f < nI 1) (h2 : f ≤ nI m) (hm : m < 2 ^ 31) : ∃ k, 1 ≤ k ∧ k ≤ m ∧ f = nI k := by
  have a1 := Int32.le_iff_toInt_le.mp (Int32.not_lt.mp h1)
  have a2 := Int32.le_iff_toInt_le.mp h2
  rw [nI_toInt hm] at a2
  rw [nI_toInt (by decide)] at a1
  exact ⟨f.toInt.toNat, by omega, by omega, nI_of_toInt (by omega) (by omega)⟩
theorem no_rlo {f : Int32} {lo m : Nat} (h : f < nI lo) (hm : lo < 2 ^ 31 ∧ m < 2 ^ 31) : ¬ ∃ k, lo ≤ k ∧ k ≤ m ∧ f = nI k := by
  rintro ⟨k, h1, h2, rfl⟩
  have := (nI_ltI (show k < 2 ^ 31 by omega) hm.1).mp h
  omega
theorem no_rhi {f : Int32} {lo m : Nat} (h : ¬ f ≤ nI m) (hm : lo < 2 ^ 31 ∧ m < 2 ^ 31) : ¬ ∃ k, lo ≤ k ∧ k ≤ m ∧ f = nI k := by
  rintro ⟨k, h1, h2, rfl⟩
  exact h ((nI_leI (show k < 2 ^ 31 by omega) hm.2).mpr h2)
theorem in_no1 {x : Int32} {y z : Int64} {lo hi : Nat} (h : ¬ (y ≤ x.toInt64 ∧ x.toInt64 ≤ z)) (hy : y.toInt = lo) (hz : z.toInt = hi ∧ hi < 2 ^ 31) : ¬ ∃ k, lo ≤ k ∧ k ≤ hi ∧ x = nI k := by
  rintro ⟨k, h1, h2, rfl⟩
  apply h
  rw [Int64.le_iff_toInt_le, Int64.le_iff_toInt_le, Int32.toInt_toInt64, nI_toInt (by omega)]
  omega
theorem isg_n {x : Int32} {n : Nat} {y : Int64} (h1 : y ≤ x.toInt64) (h2 : x.toInt64 ≤ (nI n - nI 1).toInt64) (hn : n ≤ 5) (hy : y.toInt = 0) : ∃ k, k < n ∧ x = nI k := by
  have a1 := Int64.le_iff_toInt_le.mp h1
  have a2 := Int64.le_iff_toInt_le.mp h2
  rw [Int32.toInt_toInt64] at a1 a2
  rw [Int32.toInt_toInt64, pk_sub_toInt (by omega) (by omega)] at a2
  exact ⟨x.toInt.toNat, by omega, nI_of_toInt (by omega) (by omega)⟩
theorem isg_no {x : Int32} {n : Nat} {y : Int64} (h : ¬ (y ≤ x.toInt64 ∧ x.toInt64 ≤ (nI n - nI 1).toInt64)) (hn : n ≤ 5) (hy : y.toInt = 0) : ¬ ∃ k, k < n ∧ x = nI k := by
  rintro ⟨k, hk, rfl⟩
  apply h
  rw [Int64.le_iff_toInt_le, Int64.le_iff_toInt_le, Int32.toInt_toInt64, Int32.toInt_toInt64, pk_sub_toInt (by omega) (by omega), nI_toInt (by omega)]
  omega
/-- a house laid into another -/
def cpH (M : Mt) (o h : Nat) : Mt := up2 (cpM (cpM M (o + 1) 0 (h + 1) 0 17) (o + 2) 0 (h + 2) 0 5) h 2 (M o 2)
theorem cpM_ne {M : Mt} {a0 sp a dp n x y : Nat} (h : ¬ x = a) : cpM M a0 sp a dp n x y = M x y := if_neg (fun z => h z.1)
theorem cpH_eq {h o n : Nat} {M N N0 N1 N2 : Mt} (hh : Hs h) (ho : Hs o) (c0 : N0 = cpM N (o + 1) 0 (h + 1) 0 17) (c1 : N1 = cpM N0 (o + 2) 0 (h + 2) 0 5) (e : N1 o 2 = nI n) (m : N2 = up2 N1 h 2 (nI n)) (hNM : N = M) : N2 = cpH M o h := by
  subst hNM
  rw [m, ← e, c1, c0]
  unfold cpH
  congr 1
  rw [cpM_ne (by simp only [Hs, isHs] at *; omega), cpM_ne (by simp only [Hs, isHs] at *; omega)]
theorem cpH_g {M : Mt} {o h : Nat} : cpH M o h h 2 = M o 2 := up2_eq
theorem cpH_g' {M : Mt} {o h : Nat} {v : Int32} : up2 (cpH M o h) (h + 1) 16 v h 2 = M o 2 := (up2_ne (by omega)).trans up2_eq
section WpE
variable {d j pc : Nat} {ls st : List Value} {M : Mt} {L : Lt} {Q : Option Value → Mt → Lt → Prop}
theorem w_putE {S : Nat → Nat → Prop} {A : Mt} {ci k a : Nat} {dl : List Nat} {v : Int32} (pc' : Nat) (h : pB j pc ci k .int pc' = true) (hs : shp[a]? = some (ci, dl)) (hd : dl[k]? = some 0) (hS : St S A M) (hr : Rg a k v) (hm : S a k) (kk : ∀ M' : Mt, St S A M' → M' a k = v → (∀ x y, ¬ (x = a ∧ y = k) → M' x y = M x y) → M' = up2 M a k v → Wp d j pc' ls st M' L Q) : Wp d j pc ls (.int v :: .ref a :: st) M L Q := w_putI pc' h hs hd (kk _ (hS.up hr hm) up2_eq (fun _ _ e => up2_ne e) rfl)
theorem w_iastE {S : Nat → Nat → Prop} {A : Mt} {a n k : Nat} {v : Int32} (pc' : Nat) (h : isI j pc .iastore pc' = true) (hs : shp[a]? = some (100, List.replicate n 0)) (hn : n < 2 ^ 31) (hk : k < n) (hS : St S A M) (hr : Rg a k v) (hm : S a k) (kk : ∀ M' : Mt, St S A M' → M' a k = v → (∀ x y, ¬ (x = a ∧ y = k) → M' x y = M x y) → M' = up2 M a k v → Wp d j pc' ls st M' L Q) : Wp d j pc ls (.int v :: .int (nI k) :: .ref a :: st) M L Q := w_iastN pc' h hs hn hk (kk _ (hS.up hr hm) up2_eq (fun _ _ e => up2_ne e) rfl)
theorem w_bastE {S : Nat → Nat → Prop} {A : Mt} {a n k : Nat} {v : Int32} (pc' : Nat) (h : isI j pc .bastore pc' = true) (hs : shp[a]? = some (101, List.replicate n 0)) (hn : n < 2 ^ 31) (hk : k < n) (hv : v = 0 ∨ v = 1) (hS : St S A M) (hr : Rg a k v) (hm : S a k) (kk : ∀ M' : Mt, St S A M' → M' a k = v → (∀ x y, ¬ (x = a ∧ y = k) → M' x y = M x y) → M' = up2 M a k v → Wp d j pc' ls st M' L Q) : Wp d j pc ls (.int v :: .int (nI k) :: .ref a :: st) M L Q := by
  have e := nI_clamp (show k < 2 ^ 31 by omega)
  refine w_bast pc' h hs ⟨nI_pos (by omega), by rw [e]; exact hk⟩ hv ?_
  rw [e]
  exact kk _ (hS.up hr hm) up2_eq (fun _ _ e => up2_ne e) rfl
theorem w_putZE {S : Nat → Nat → Prop} {A : Mt} {ci k a : Nat} {dl : List Nat} {v : Int32} (pc' : Nat) (h : pB j pc ci k .boolean pc' = true) (hs : shp[a]? = some (ci, dl)) (hd : dl[k]? = some 0) (hv : v = 0 ∨ v = 1) (hS : St S A M) (hr : Rg a k v) (hm : S a k) (kk : ∀ M' : Mt, St S A M' → M' a k = v → (∀ x y, ¬ (x = a ∧ y = k) → M' x y = M x y) → M' = up2 M a k v → Wp d j pc' ls st M' L Q) : Wp d j pc ls (.int v :: .ref a :: st) M L Q := w_putZ pc' h hs hd hv (kk _ (hS.up hr hm) up2_eq (fun _ _ e => up2_ne e) rfl)
theorem w_acpyE {S : Nat → Nat → Prop} {A : Mt} {sp dp n a0 a n0 n1 : Nat} (pc' : Nat) (h : nB j pc 6 pc' = true) (hs0 : shp[a0]? = some (100, List.replicate n0 0)) (hs1 : shp[a]? = some (100, List.replicate n1 0)) (hn0 : n0 < 2 ^ 31) (hn1 : n1 < 2 ^ 31) (h4 : sp + n ≤ n0) (h5 : dp + n ≤ n1) (hc : catS st ≤ 8) (hS : St S A M) (hr : ∀ z, dp ≤ z → z < dp + n → Rg a z (M a0 (sp + (z - dp)))) (hm : ∀ z, dp ≤ z → z < dp + n → S a z) (kk : ∀ M' : Mt, St S A M' → M' = cpM M a0 sp a dp n → Wp d j pc' ls st M' L Q) : Wp d j pc ls (.int (nI n) :: .int (nI dp) :: .ref a :: .int (nI sp) :: .ref a0 :: st) M L Q := by
  have e1 := nI_clamp (show sp < 2 ^ 31 by omega)
  have e2 := nI_clamp (show dp < 2 ^ 31 by omega)
  have e3 := nI_clamp (show n < 2 ^ 31 by omega)
  refine w_acpy pc' h hs0 hs1 (nI_pos (by omega)) (nI_pos (by omega)) (nI_pos (by omega)) (by rw [e1, e3]; exact h4) (by rw [e2, e3]; exact h5) hc ?_
  rw [e1, e2, e3]
  exact kk _ (hS.cp hr hm) rfl
theorem w_putLE {ci k a : Nat} {dl : List Nat} {v : Int64} (pc' : Nat) (h : pB j pc ci k .long pc' = true) (hs : shp[a]? = some (ci, dl)) (hd : dl[k]? = some 1) (ho : ∀ z, dl[z]? = some 1 → z = k) (kk : ∀ L' : Lt, L' = upL L a v → Wp d j pc' ls st M L' Q) : Wp d j pc ls (.long v :: .ref a :: st) M L Q := w_putL pc' h hs hd ho (kk _ rfl)
end WpE
