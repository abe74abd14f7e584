/-! SHORTEST as numbers; a telling copied; bounds of coins -/
theorem cpM_row {M : Mt} {a0 sp a dp n x : Nat} (h : ¬ x = a) : cpM M a0 sp a dp n x = M x := funext (fun _ => cpM_ne h)
theorem cpH_row {M : Mt} {o h x : Nat} (h0 : ¬ x = h) (h1 : ¬ x = h + 1) (h2 : ¬ x = h + 2) : cpH M o h x = M x := by
  unfold cpH
  rw [row_ne h0, cpM_row h2, cpM_row h1]
theorem shT.keep {n t : Nat} {M N : Mt} {s : TSt} (h : shT n t M s) (e1 : N (t + 2) = M (t + 2)) (e2 : N (t + 4) = M (t + 4)) (e3 : N t = M t) : shT n t N s := by
  unfold shT
  rw [e1, e2, e3]
  exact h
theorem tcopy {n t o : Nat} {M N1 N2 N3 N4 : Mt} {s : TSt} (ht : Tl t) (ho : Tl o) (hne : ¬ t = o) (hn : n ≤ 5) (en : M (o + 1) 2 = nI n) (hs : shT n o M s) (e1 : N1 = cpH M (o + 1) (t + 1)) (e2 : N2 = cpM N1 (o + 4) 0 (t + 4) 0 5) (e3 : N3 = up2 N2 t 2 (N2 o 2)) (e4 : N4 = up2 N3 t 3 (N3 o 3)) : shT n t N4 s ∧ N4 (t + 1) 2 = nI n := by
  have hd : t + 4 < o ∨ o + 4 < t := by
    have h1 := ht.2.2
    have h2 := ho.2.2
    unfold isTs at h1 h2
    omega
  have r4 : ∀ x, ¬ x = t → N4 x = N2 x := fun x hx => by rw [e4, row_ne hx, e3, row_ne hx]
  have r2 : ∀ x, ¬ x = t + 4 → N2 x = N1 x := fun x hx => by rw [e2, cpM_row hx]
  have o2 : N2 o = M o := by rw [r2 o (by omega), e1, cpH_row (by omega) (by omega) (by omega)]
  refine ⟨⟨?_, ?_, ?_, ?_⟩, ?_⟩
  · rw [r4 _ (by omega), r2 _ (by omega), e1]
    exact (HE.of17 hn (fun k hk => cpH_c hk)).tr hs.1
  · rw [r4 _ (by omega), e2]
    intro g hg
    have : cpM N1 (o + 4) 0 (t + 4) 0 5 (t + 4) g = N1 (o + 4) (0 + (g - 0)) := if_pos (by omega)
    rw [this, e1, cpH_row (by omega) (by omega) (by omega), Nat.zero_add]
    exact hs.2.1 g hg
  · rw [e4, up2_eq, e3, row_ne (by omega), o2]
    exact hs.2.2.1
  · rw [e4, up2_ne (by omega), e3, up2_eq, o2]
    exact hs.2.2.2
  · rw [r4 _ (by omega), r2 _ (by omega), e1]
    exact cpH_g.trans en
theorem lt_ext2 {P : Nat → Prop} {a g : Nat} (h : ∀ x, a ≤ x → x < g → P x) (hg : P g) : ∀ x, a ≤ x → x < g + 1 → P x := by
  intro x h1 h2
  by_cases hx : x = g
  · rw [hx]; exact hg
  · exact h x h1 (by omega)
def endT (n : Nat) (e v : Int32) : Prop := e = nI 0 ∨ (e = nI 1 ∧ ∃ k, k < n ∧ v = nI k) ∨ (e = nI 2 ∧ inR v 0 20) ∨ (e = nI 3 ∧ ∃ k, k < 4 ∧ v = nI k)
theorem endT.q {n : Nat} {e v : Int32} (h : endT n e v) : ∃ q, q ≤ 3 ∧ e = nI q := by
  rcases h with h | ⟨h, -⟩ | ⟨h, -⟩ | ⟨h, -⟩
  · exact ⟨0, by omega, h⟩
  · exact ⟨1, by omega, h⟩
  · exact ⟨2, by omega, h⟩
  · exact ⟨3, by omega, h⟩
/-- how long the shortest is -/
def lnP (A B C : Prop) (r : Int32) : Prop := (A ∧ r = nI 0) ∨ (¬ A ∧ B ∧ r = nI 1) ∨ (¬ A ∧ ¬ B ∧ C ∧ r = nI 2) ∨ (¬ A ∧ ¬ B ∧ ¬ C ∧ r = -9)
theorem lnP.same {A B C : Prop} {r r' : Int32} (h : lnP A B C r) (h' : lnP A B C r') : r = r' := by
  rcases h with ⟨a, rfl⟩ | ⟨a, b, rfl⟩ | ⟨a, b, c, rfl⟩ | ⟨a, b, c, rfl⟩ <;> rcases h' with ⟨a', rfl⟩ | ⟨a', b', rfl⟩ | ⟨a', b', c', rfl⟩ | ⟨a', b', c', rfl⟩ <;> first | rfl | exact absurd a a' | exact absurd a' a | exact absurd b b' | exact absurd b' b | exact absurd c c' | exact absurd c' c
theorem lnP.cg {A B C B' C' : Prop} {r : Int32} (h : lnP A B C r) (hb : ¬ A → (B ↔ B')) (hc : ¬ A → ¬ B' → (C ↔ C')) : lnP A B' C' r := by
  rcases h with ⟨a, rfl⟩ | ⟨a, b, rfl⟩ | ⟨a, b, c, rfl⟩ | ⟨a, b, c, rfl⟩
  · exact Or.inl ⟨a, rfl⟩
  · exact Or.inr (Or.inl ⟨a, (hb a).mp b, rfl⟩)
  · have b' : ¬ B' := fun z => b ((hb a).mpr z)
    exact Or.inr (Or.inr (Or.inl ⟨a, b', (hc a b').mp c, rfl⟩))
  · have b' : ¬ B' := fun z => b ((hb a).mpr z)
    exact Or.inr (Or.inr (Or.inr ⟨a, b', fun z => c ((hc a b').mpr z), rfl⟩))
theorem kd_num {x : Nat} (hx : x < 64) : kdD (nI x) = nI (x / 16) := (by decide +kernel : ∀ x, x < 64 → kdD (nI x) = nI (x / 16)) x hx
theorem dec1 {x : Int32} (h : -2147483648 < x.toInt) : (x - nI 1).toInt = x.toInt - 1 := by
  rw [Int32.toInt_sub]
  have e : (nI 1).toInt = 1 := by decide
  have h1 := Int32.toInt_lt x
  rw [e]
  rw [Int.bmod_eq_of_le] <;> omega
theorem inc1 {x : Int32} (h : x.toInt < 2147483647) : (x + nI 1).toInt = x.toInt + 1 := by
  rw [Int32.toInt_add]
  have e : (nI 1).toInt = 1 := by decide
  have h1 := Int32.le_toInt x
  rw [e]
  rw [Int.bmod_eq_of_le] <;> omega
theorem unwed_at {n o i : Nat} {c : Row} (hn : n ≤ 5) (hw : wedOk n c) (ho : o < n) : unwed c (c (10 + o)) i = c i ∨ (10 ≤ i ∧ i < 15 ∧ unwed c (c (10 + o)) i = -9) := by
  unfold unwed
  split
  · exact Or.inl rfl
  · rename_i h1
    obtain ⟨z, hz, e⟩ := (hw o ho).resolve_left h1
    rw [e, nI_clamp (by omega)]
    by_cases hi : i = 10 + z
    · right
      exact ⟨by omega, by omega, by rw [hi, up1_eq]⟩
    · left
      exact up1_ne hi
/-! bounds of coins -/
def bdC (b : Nat) (n : Nat) (c : Row) : Prop := ∀ g, g < n → -(b : Int) ≤ (c (5 + g)).toInt ∧ (c (5 + g)).toInt ≤ b
theorem bdC.mono {b b' n : Nat} {c : Row} (h : bdC b n c) (hb : b ≤ b') : bdC b' n c := fun g hg => by
  have := h g hg
  omega
theorem bdC.he {b n : Nat} {c c' : Row} (h : bdC b n c) (e : HE n c c') : bdC b n c' := fun g hg => by
  rw [← (e.1 g hg).2.1]; exact h g hg
theorem bdC.up {b n k : Nat} {c : Row} {v : Int32} (h : bdC b n c) (hk : ∀ g, g < n → k = 5 + g → -(b : Int) ≤ v.toInt ∧ v.toInt ≤ b) : bdC b n (up1 c k v) := by
  intro g hg
  by_cases e : 5 + g = k
  · rw [e, up1_eq]; exact hk g hg e.symm
  · rw [up1_ne e]; exact h g hg
theorem bdC.fine {b n g : Nat} {c : Row} (h : bdC b n c) (hb : b < 1000000) (hg : g < n) : bdC (b + 1) n (fineC c g) := by
  have h1 := h g hg
  have e := dec1 (x := c (5 + g)) (by omega)
  exact (h.mono (by omega : b ≤ b + 1)).up (fun z hz ez => by rw [e]; omega)
theorem bdC.hear {b n p : Nat} {a : Int32} {s : TSt} (h : bdC b n s.1) (hn : n ≤ 5) (hb : b < 900000) (hw : wedOk n s.1) : bdC (b + 1) n (hearF n a p s).1 := by
  have hm := h.mono (by omega : b ≤ b + 1)
  rcases hear_cells (a := a) (p := p) (s := s) hn with hc | ⟨g, hg, hc⟩ | ⟨o, ho, hd, hc⟩ | ⟨d, o, hd, ho, hne, hkd, hc⟩ | ⟨d, o, hd, ho, hne, hkd, hc⟩ | ⟨d, hd, n0, n1, n2, hc⟩
  · rw [hc]; exact hm
  · rw [hc]; exact h.fine (by omega) hg
  · rw [hc]
    intro g hg
    unfold buryC
    rw [up1_ne (by omega), up1_ne (by omega)]
    rcases unwed_at (i := 5 + g) hn hw ho with q | ⟨q, -, -⟩
    · rw [q]; exact hm g hg
    · omega
  · rw [hc]
    unfold joinC
    exact (hm.up (fun g hg e => by omega)).up (fun g hg e => by omega)
  · rw [hc]
    unfold giveC
    refine (h.fine (by omega) hd).up (fun z hz ez => ?_)
    have ho2 : fineC s.1 d (5 + o) = s.1 (5 + o) := up1_ne (by omega)
    have h1 := h o ho
    rw [ho2, inc1 (by omega)]
    omega
  · rw [hc]
    exact hm.up (fun g hg e => by omega)
theorem bdC.run {b n : Nat} {dv : Nat → Int32} {w : Int32} {s : TSt} (h : bdC b n s.1) (hn : n ≤ 5) (hb : b < 800000) (hw : wedOk n s.1) : ∀ m, m ≤ 8 → bdC (b + m) n (runF n dv w m s).1
  | 0, _ => h
  | m + 1, hm => by
    have ih := bdC.run (dv := dv) (w := w) h hn hb hw m (by omega)
    unfold runF
    split
    · exact ih.mono (by omega)
    · exact ih.hear hn (by omega) (hw.run hn m)
theorem bdC.dawn {b n : Nat} {s : TSt} (h : bdC b n s.1) (hn : n ≤ 5) : bdC b n (dawnS s).1 := h.up (fun g hg e => by omega)
