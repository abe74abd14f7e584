/-! ROWS KEPT; what is asked of a house -/
def rowS (M : Mt) (a i : Nat) : Row := fun k => M a (17 * i + k)
def nmOk (n : Nat) (c : Row) : Prop := ∀ g, g < n → ∃ a, a < 4 ∧ c g = nI a
def okC (n : Nat) (c : Row) : Prop := wedOk n c ∧ alOk n c ∧ nmOk n c
theorem nmOk.he {n : Nat} {c c' : Row} (h : nmOk n c) (hc : HE n c c') : nmOk n c' := fun g hg => by rw [← (hc.1 g hg).1]; exact h g hg
theorem okC.he {n : Nat} {c c' : Row} (h : okC n c) (hc : HE n c c') : okC n c' := ⟨h.1.he hc, h.2.1.he hc, h.2.2.he hc⟩
theorem nm_up {n : Nat} {c : Row} {k : Nat} {v : Int32} (h : nmOk n c) (hk : n ≤ k ∨ ∃ a, a < 4 ∧ v = nI a) : nmOk n (up1 c k v) := by
  intro g hg
  unfold up1
  split
  · rcases hk with h1 | h1
    · omega
    · exact h1
  · exact h g hg
theorem nmOk.of {n : Nat} {a : Int32} {c c' : Row} (h : nmOk n c) (hn : n ≤ 5) (ha : ∃ b, b < 4 ∧ sndD a = nI b) (hc : cellsOf n a c c') (hw : wedOk n c) : nmOk n c' := by
  rcases hc with rfl | ⟨g, hg, rfl⟩ | ⟨o, ho, -, rfl⟩ | ⟨d, o, hd, ho, -, -, rfl⟩ | ⟨d, o, hd, ho, -, -, rfl⟩ | ⟨d, hd, -, -, -, rfl⟩
  · exact h
  · exact nm_up h (Or.inl (by omega))
  · unfold buryC
    refine nm_up (nm_up ?_ (Or.inl (by omega))) (Or.inl (by omega))
    unfold unwed
    split
    · exact h
    · rename_i h1
      obtain ⟨k, hk, e⟩ := (hw o ho).resolve_left h1
      rw [e, nI_clamp (by omega)]
      exact nm_up h (Or.inl (by omega))
  · exact nm_up (nm_up h (Or.inl (by omega))) (Or.inl (by omega))
  · exact nm_up (nm_up h (Or.inl (by omega))) (Or.inl (by omega))
  · exact nm_up h (Or.inr ha)
theorem okC.hear {n : Nat} {a : Int32} {p : Nat} {s : TSt} (h : okC n s.1) (hn : n ≤ 5) (ha : ∃ b, b < 4 ∧ sndD a = nI b) : okC n (hearF n a p s).1 := ⟨h.1.hear hn, h.2.1.hear hn, h.2.2.of hn ha (hear_cells hn) h.1⟩
theorem okC.run {n : Nat} {dv : Nat → Int32} {w : Int32} {s : TSt} (h : okC n s.1) (hn : n ≤ 5) : ∀ m, (∀ p, p < m → ∃ b, b < 4 ∧ sndD (dv p) = nI b) → okC n (runF n dv w m s).1
  | 0, _ => h
  | m + 1, hd => by
    unfold runF
    split
    · exact okC.run h hn m (fun p hp => hd p (by omega))
    · exact (okC.run h hn m (fun p hp => hd p (by omega))).hear hn (hd m (by omega))
theorem okC.dawn {n : Nat} {s : TSt} (h : okC n s.1) (hn : n ≤ 5) : okC n (dawnS s).1 := by
  refine ⟨h.1.up (Or.inr (Or.inr (Or.inr (by omega)))) hn, fun i hi => ?_, nm_up h.2.2 (Or.inl (by omega))⟩
  show tb (up1 s.1 16 (s.1 16 + nI 1) 15) i = false
  rw [up1_ne (by omega)]; exact h.2.1 i hi
theorem inR_sub {x : Int32} (h : inR x 97 100) : ∃ b, b < 4 ∧ x - nI 97 = nI b := by
  have e : x = nI x.toInt.toNat := nI_of_toInt (by have := h.1; omega) (by have := h.2; omega)
  have h1 := h.1
  have h2 := h.2
  obtain ⟨m, hm, e2⟩ : ∃ m, (m = 97 ∨ m = 98 ∨ m = 99 ∨ m = 100) ∧ x = nI m := ⟨_, by omega, e⟩
  rw [e2]
  rcases hm with rfl | rfl | rfl | rfl
  · exact ⟨0, by omega, by decide⟩
  · exact ⟨1, by omega, by decide⟩
  · exact ⟨2, by omega, by decide⟩
  · exact ⟨3, by omega, by decide⟩
theorem kd_rng {x : Int32} (h : ¬ kd x = -9) : ∃ b, b < 4 ∧ kd x = nI b := by
  unfold kd at h ⊢
  split
  · exact ⟨0, by omega, rfl⟩
  · split
    · exact ⟨1, by omega, rfl⟩
    · split
      · exact ⟨2, by omega, rfl⟩
      · split
        · exact ⟨3, by omega, rfl⟩
        · rename_i h1 h2 h3 h4
          rw [if_neg h1, if_neg h2, if_neg h3, if_neg h4] at h
          exact absurd rfl h
/-- a whole deed, as numbers -/
theorem deed_num {c : Row} {n k p : Nat} (h : sndT c n k) (hp : p < k / 3) : ∃ x y z, x < 4 ∧ y < 4 ∧ z < 4 ∧ deedV c p = nI (16 * x + 4 * y + z) := by
  have f0 := h.2.1 (3 * p) (by omega)
  have f1 := h.2.1 (3 * p + 1) (by omega)
  have f2 := h.2.1 (3 * p + 2) (by omega)
  unfold fitT at f0 f1 f2
  rw [if_pos (by omega)] at f0
  rw [if_neg (by omega)] at f1 f2
  obtain ⟨x, hx, ex⟩ := kd_rng f0
  obtain ⟨y, hy, ey⟩ := inR_sub f1
  obtain ⟨z, hz, ez⟩ := inR_sub f2
  refine ⟨x, y, z, hx, hy, hz, ?_⟩
  unfold deedV
  rw [ex, ey]
  have e3 : nI x * nI 16 + nI y * nI 4 + c (3 * p + 2) - nI 97 = nI x * nI 16 + nI y * nI 4 + (c (3 * p + 2) - nI 97) := by
    rw [Int32.sub_eq_add_neg, Int32.sub_eq_add_neg, Int32.add_assoc]
  rw [e3, ez]
  exact (by decide +kernel : ∀ x, x < 4 → ∀ y, y < 4 → ∀ z, z < 4 → nI x * nI 16 + nI y * nI 4 + nI z = nI (16 * x + 4 * y + z)) x hx y hy z hz
theorem snd_num {m : Nat} (h : m < 64) : ∃ b, b < 4 ∧ sndD (nI m) = nI b := ⟨m % 4, by omega, (by decide +kernel : ∀ m, m < 64 → sndD (nI m) = nI (m % 4)) m h⟩
theorem deed_snd {c : Row} {n k p : Nat} (h : sndT c n k) (hp : p < k / 3) : ∃ b, b < 4 ∧ sndD (deedV c p) = nI b := by
  obtain ⟨x, y, z, hx, hy, hz, e⟩ := deed_num h hp
  rw [e]
  exact snd_num (by omega)
/-! acts: a row of rows, the newest last -/
def pushN (na : Nat) : Nat := if na = 12 then 12 else na + 1
def pushR (na : Nat) (ra : Nat → Row) (c : Row) : Nat → Row := fun i => if na = 12 then (if i = 11 then c else ra (i + 1)) else (if i = na then c else ra i)
def acX (n na : Nat) (ra : Nat → Row) (M : Mt) : Prop := M 0 14 = nI na ∧ ∀ i, i < na → HE n (rowS M 59 i) (ra i)
def acM (n na nx : Nat) (ra : Nat → Row) (M : Mt) : Prop := M 76 8 = nI na ∧ M 76 9 = nI nx ∧ nx < 12 ∧ ∀ i, i < na → HE n (rowS M 82 ((nx + 12 - na + i) % 12)) (ra i)
theorem HE.rw1 {n : Nat} {c c' d : Row} (h : HE n c d) (hn : n ≤ 5) (e : ∀ k, k < 17 → c' k = c k) : HE n c' d := (HE.of17 hn e).tr h
theorem hold_a {n na : Nat} {ra : Nat → Row} {c : Row} {M N1 N2 : Mt} (hn : n ≤ 5) (hna : na < 12) (h : ∀ i, i < na → HE n (rowS M 59 i) (ra i)) (hc : HE n (M 5) c) (e1 : N1 = cpM M 5 0 59 (na * 17) 17) (e2 : N2 = up2 N1 0 14 (nI (na + 1))) : acX n (pushN na) (pushR na ra c) N2 := by
  unfold pushN pushR
  rw [if_neg (by omega)]
  refine ⟨by rw [e2, up2_eq], fun i hi => ?_⟩
  dsimp only
  rw [if_neg (by omega)]
  by_cases hin : i = na
  · rw [if_pos hin]
    refine hc.rw1 hn (fun k hk => ?_)
    show N2 59 (17 * i + k) = _
    rw [e2, up2_ne (by omega), e1]
    have : cpM M 5 0 59 (na * 17) 17 59 (17 * i + k) = M 5 (0 + (17 * i + k - na * 17)) := if_pos (by omega)
    rw [this]
    congr 1
    omega
  · rw [if_neg hin]
    refine (h i (by omega)).rw1 hn (fun k hk => ?_)
    show N2 59 (17 * i + k) = M 59 (17 * i + k)
    rw [e2, up2_ne (by omega), e1]
    exact if_neg (by omega)
theorem hold_b {n na : Nat} {ra : Nat → Row} {c : Row} {M N0 N1 N2 N3 : Mt} {v : Int32} (hn : n ≤ 5) (hna : na = 12) (h : ∀ i, i < na → HE n (rowS M 59 i) (ra i)) (hc : HE n (M 5) c) (e0 : N0 = cpM M 59 17 59 0 (204 - 17)) (e1 : N1 = up2 N0 0 14 v) (e2 : N2 = cpM N1 5 0 59 ((na - 1) * 17) 17) (e3 : N3 = up2 N2 0 14 (nI (na - 1 + 1))) : acX n (pushN na) (pushR na ra c) N3 := by
  unfold pushN pushR
  rw [if_pos hna]
  refine ⟨by rw [e3, up2_eq, hna], fun i hi => ?_⟩
  dsimp only
  rw [if_pos hna]
  by_cases hin : i = 11
  · rw [if_pos hin]
    refine hc.rw1 hn (fun k hk => ?_)
    show N3 59 (17 * i + k) = _
    rw [e3, up2_ne (by omega), e2]
    have : cpM N1 5 0 59 ((na - 1) * 17) 17 59 (17 * i + k) = N1 5 (0 + (17 * i + k - (na - 1) * 17)) := if_pos (by omega)
    rw [this, e1, up2_ne (by omega), e0, cpM_ne (by omega)]
    congr 1
    omega
  · rw [if_neg hin]
    refine (h (i + 1) (by omega)).rw1 hn (fun k hk => ?_)
    show N3 59 (17 * i + k) = M 59 (17 * (i + 1) + k)
    rw [e3, up2_ne (by omega), e2]
    have t1 : cpM N1 5 0 59 ((na - 1) * 17) 17 59 (17 * i + k) = N1 59 (17 * i + k) := if_neg (by omega)
    rw [t1, e1, up2_ne (by omega), e0]
    have t2 : cpM M 59 17 59 0 (204 - 17) 59 (17 * i + k) = M 59 (17 + (17 * i + k - 0)) := if_pos (by omega)
    rw [t2]
    congr 1
    omega
theorem keep_a {n na nx : Nat} {ra : Nat → Row} {c : Row} {M N : Mt} (hn : n ≤ 5) (hna : na ≤ 12) (hA : acM n na nx ra M) (hc : HE n (lvC M 0) c) (h8 : N 76 8 = nI (pushN na)) (h9 : N 76 9 = nI ((nx + 1) % 12)) (hr : ∀ k, k < 17 → N 82 (17 * nx + k) = M 78 k) (ho : ∀ j, j < 12 → ¬ j = nx → ∀ k, k < 17 → N 82 (17 * j + k) = M 82 (17 * j + k)) : acM n (pushN na) ((nx + 1) % 12) (pushR na ra c) N := by
  obtain ⟨a1, a2, a3, a4⟩ := hA
  refine ⟨h8, h9, by omega, fun i hi => ?_⟩
  unfold pushN pushR at *
  have key : ∀ j d, j < 12 → ¬ j = nx → HE n (rowS M 82 j) d → HE n (rowS N 82 j) d := fun j d h1 h2 h3 => h3.rw1 hn (fun k hk => ho j h1 h2 k hk)
  have new : HE n (rowS N 82 nx) c := hc.rw1 hn (fun k hk => by
    show N 82 (17 * nx + k) = M 78 (22 * 0 + k)
    rw [hr k hk, Nat.mul_zero, Nat.zero_add])
  (try dsimp only)
  by_cases h12 : na = 12
  · subst h12
    rw [if_pos rfl] at hi ⊢
    rw [if_pos rfl]
    by_cases hi11 : i = 11
    · rw [if_pos hi11, show ((nx + 1) % 12 + 12 - 12 + i) % 12 = nx by omega]; exact new
    · rw [if_neg hi11, show ((nx + 1) % 12 + 12 - 12 + i) % 12 = (nx + 12 - 12 + (i + 1)) % 12 by omega]
      exact key _ _ (by omega) (by omega) (a4 (i + 1) (by omega))
  · rw [if_neg h12] at hi ⊢
    rw [if_neg h12]
    by_cases hin : i = na
    · rw [if_pos hin, show ((nx + 1) % 12 + 12 - (na + 1) + i) % 12 = nx by omega]; exact new
    · rw [if_neg hin, show ((nx + 1) % 12 + 12 - (na + 1) + i) % 12 = (nx + 12 - na + i) % 12 by omega]
      exact key _ _ (by omega) (by omega) (a4 i (by omega))
/-! what is asked -/
def evI (n : Nat) : Int32 := bitI n - nI 1
def deadI (n : Nat) (c : Row) : Int32 := evI n &&& (c 15 ^^^ (-1))
def sumI : Nat → (Nat → Int32) → Int32
  | 0, _ => nI 0
  | m + 1, f => sumI m f + f m
/-- a house at dawn laid into another -/
theorem dawn_row {n o h : Nat} {M : Mt} {s : TSt} (hn : n ≤ 5) (hs : HE n (M (o + 1)) s.1) : HE n (up2 (cpH M o h) (h + 1) 16 (cpH M o h (h + 1) 16 + nI 1) (h + 1)) (dawnS s).1 := by
  rw [row_eq]
  have h1 : HE n (cpH M o h (h + 1)) s.1 := (HE.of17 hn (fun k hk => cpH_c hk)).tr hs
  exact h1.up _ (by rw [h1.2.2])
theorem dawn_pw {n o h : Nat} {M : Mt} {pw : Row} {v : Int32} (hn : n ≤ 5) (hne : ¬ o + 2 = h + 1) (hp : LQ n (M (o + 2)) pw) : LQ n (up2 (cpH M o h) (h + 1) 16 v (h + 2)) pw := by
  rw [row_ne (by omega)]
  exact fun g hg => (cpH_p (by omega) hne).trans (hp g hg)
theorem acX.keep {n na : Nat} {ra : Nat → Row} {M N : Mt} (h : acX n na ra M) (e1 : N 0 14 = M 0 14) (e2 : N 59 = M 59) : acX n na ra N := ⟨e1.trans h.1, fun i hi => by
  have : rowS N 59 i = rowS M 59 i := by unfold rowS; rw [e2]
  rw [this]; exact h.2 i hi⟩
theorem und_row {n i : Nat} {M N : Mt} {v : Int32} {r : Row} (hn : n ≤ 5) (h : HE n (rowS M 59 i) r) (e : N = cpM (up2 M 0 14 v) 59 (i * 17) 5 0 17) : HE n (N 5) r := by
  refine h.rw1 hn (fun k hk => ?_)
  have t1 : cpM (up2 M 0 14 v) 59 (i * 17) 5 0 17 5 k = up2 M 0 14 v 59 (i * 17 + (k - 0)) := if_pos (by omega)
  rw [e, t1, up2_ne (by omega)]
  show M 59 (i * 17 + (k - 0)) = M 59 (17 * i + k)
  congr 1
  omega
theorem und_ac {n na : Nat} {ra : Nat → Row} {M N : Mt} (h : acX n na ra M) (hna : 0 < na) (e1 : N 0 14 = nI (na - 1)) (e2 : N 59 = M 59) : acX n (na - 1) ra N := ⟨e1, fun i hi => by
  have : rowS N 59 i = rowS M 59 i := by unfold rowS; rw [e2]
  rw [this]; exact h.2 i (by omega)⟩
/-! slots; how many are alive -/
def bcI (a : Int32) : Int32 :=
  let us : Int32 → Int32 → Int32 := fun x y => (x.toUInt32 >>> (y.toUInt32 &&& Int32.toUInt32 31)).toInt32
  let b1 := a - (us a (nI 1) &&& nI 1431655765)
  let b2 := (b1 &&& nI 858993459) + (us b1 (nI 2) &&& nI 858993459)
  let b3 := (b2 + us b2 (nI 4)) &&& nI 252645135
  let b4 := b3 + us b3 (nI 8)
  let b5 := b4 + us b4 (nI 16)
  b5 &&& nI 63
def upB (hk : Nat → Bool) (s : Nat) : Nat → Bool := fun i => if i = s then true else hk i
def upK (rk : Nat → Row) (s : Nat) (c : Row) : Nat → Row := fun i => if i = s then c else rk i
def slX (n : Nat) (hk : Nat → Bool) (rk : Nat → Row) (M : Mt) : Prop := ∀ s, s < 2 → tb (M 0 15) s = hk s ∧ (hk s = true → HE n (rowS M 61 s) (rk s))
def slM (n : Nat) (hk : Nat → Bool) (rk : Nat → Row) (M : Mt) : Prop := ∀ s, s < 2 → M 88 s = (if hk s = true then 1 else 0) ∧ (hk s = true → HE n (rowS M 89 s) (rk s))
theorem slX.keep {n : Nat} {hk : Nat → Bool} {rk : Nat → Row} {M N : Mt} (h : slX n hk rk M) (e1 : N 0 15 = M 0 15) (e2 : N 61 = M 61) : slX n hk rk N := fun s hs => ⟨by rw [e1]; exact (h s hs).1, fun z => by
  have : rowS N 61 s = rowS M 61 s := by unfold rowS; rw [e2]
  rw [this]; exact (h s hs).2 z⟩
theorem slM.keep {n : Nat} {hk : Nat → Bool} {rk : Nat → Row} {M N : Mt} (h : slM n hk rk M) (e1 : N 88 = M 88) (e2 : N 89 = M 89) : slM n hk rk N := fun s hs => ⟨by rw [e1]; exact (h s hs).1, fun z => by
  have : rowS N 89 s = rowS M 89 s := by unfold rowS; rw [e2]
  rw [this]; exact (h s hs).2 z⟩
theorem sl_keep {n s : Nat} {hk : Nat → Bool} {rk : Nat → Row} {c : Row} {M N1 N2 : Mt} (hn : n ≤ 5) (hs : s < 2) (h : slX n hk rk M) (hc : HE n (M 5) c) (e1 : N1 = cpM M 5 0 61 (s * 17) 17) (e2 : N2 = up2 N1 0 15 (N1 0 15 ||| bitI s)) : slX n (upB hk s) (upK rk s c) N2 := by
  have e0 : N1 0 15 = M 0 15 := by rw [e1]; exact cpM_ne (by decide)
  intro i hi
  unfold upB upK
  refine ⟨?_, fun hz => ?_⟩
  · rw [e2, up2_eq, e0, tb_or, tb_bit (by omega) (by omega)]
    by_cases he : i = s
    · rw [if_pos he]; simp [he]
    · rw [if_neg he, (h i hi).1]; simp [he]
  · by_cases he : i = s
    · rw [if_pos he]
      refine hc.rw1 hn (fun k hk2 => ?_)
      show N2 61 (17 * i + k) = _
      rw [e2, up2_ne (by omega), e1]
      have t1 : cpM M 5 0 61 (s * 17) 17 61 (17 * i + k) = M 5 (0 + (17 * i + k - s * 17)) := if_pos (by omega)
      rw [t1]
      congr 1
      omega
    · rw [if_neg he] at hz ⊢
      refine ((h i hi).2 hz).rw1 hn (fun k hk2 => ?_)
      show N2 61 (17 * i + k) = M 61 (17 * i + k)
      rw [e2, up2_ne (by omega), e1]
      exact if_neg (by omega)
theorem ag_row {n s : Nat} {M N : Mt} {r : Row} (hn : n ≤ 5) (h : HE n (rowS M 61 s) r) (e : N = cpM M 61 (s * 17) 5 0 17) : HE n (N 5) r := by
  refine h.rw1 hn (fun k hk => ?_)
  have t1 : cpM M 61 (s * 17) 5 0 17 5 k = M 61 (s * 17 + (k - 0)) := if_pos (by omega)
  rw [e, t1]
  show M 61 (s * 17 + (k - 0)) = M 61 (17 * s + k)
  congr 1
  omega
/-! the inn by its text -/
def innP (l : Row) : Row := fun g => l (4 * g + 4) - nI 48
def innC (l : Row) (n : Nat) : Row := fun k => if k < 5 then l (4 * k + 2) - nI 97 else if k < 10 then l (4 * (k - 5) + 3) - nI 48 else if k < 15 then -9 else if k = 15 then evI n else nI 0
def setQ (l : Row) (m : Nat) (c p : Row) : Prop := ∀ i, i < m → c i = l (4 * i + 2) - nI 97 ∧ c (5 + i) = l (4 * i + 3) - nI 48 ∧ c (10 + i) = -9 ∧ p i = l (4 * i + 4) - nI 48
theorem set_step {l : Row} {g : Nat} {c p c' p' : Row} (h : setQ l g c p) (e1 : c' = up1 (up1 (up1 c g (l (4 * g + 2) - nI 97)) (5 + g) (l (4 * g + 3) - nI 48)) (10 + g) (-9)) (e2 : p' = up1 p g (l (4 * g + 4) - nI 48)) (hg : g < 5 := by omega) : setQ l (g + 1) c' p' := by
  intro i hi
  subst e1 e2
  by_cases he : i = g
  · subst he
    refine ⟨?_, ?_, ?_, up1_eq⟩
    · rw [up1_ne (by omega), up1_ne (by omega), up1_eq]
    · rw [up1_ne (by omega), up1_eq]
    · rw [up1_eq]
  · obtain ⟨h1, h2, h3, h4⟩ := h i (by omega)
    refine ⟨?_, ?_, ?_, ?_⟩
    · rw [up1_ne (by omega), up1_ne (by omega), up1_ne (by omega)]; exact h1
    · rw [up1_ne (by omega), up1_ne (by omega), up1_ne (by omega)]; exact h2
    · rw [up1_ne (by omega), up1_ne (by omega), up1_ne (by omega)]; exact h3
    · rw [up1_ne he]; exact h4
theorem set_q {l : Row} {g n : Nat} {c p : Row} (h : setQ l g c p) (hg : n ≤ g) : setQ l n c p := fun i hi => h i (by omega)
theorem set_end {l : Row} {n : Nat} {c p : Row} (hn : n ≤ 5) (h : setQ l n c p) : HE n (up1 (up1 c 15 (evI n)) 16 (nI 0)) (innC l n) := by
  refine ⟨fun g hg => ?_, ?_, ?_⟩
  · obtain ⟨h1, h2, h3, -⟩ := h g hg
    unfold innC
    refine ⟨?_, ?_, ?_⟩
    · rw [up1_ne (by omega), up1_ne (by omega), if_pos (by omega)]; exact h1
    · rw [up1_ne (by omega), up1_ne (by omega), if_neg (by omega), if_pos (by omega), show 5 + g - 5 = g by omega]; exact h2
    · rw [up1_ne (by omega), up1_ne (by omega), if_neg (by omega), if_neg (by omega), if_pos (by omega)]; exact h3
  · rw [up1_ne (by omega), up1_eq]; rfl
  · rw [up1_eq]; rfl
theorem ka_row {nx g : Nat} {M N P : Mt} (h : ∀ k, k < g → P 82 (17 * nx + k) = M 78 k) (m : N = up2 P 82 (17 * nx + g) (P 78 g)) (e : P 78 g = M 78 g) (hg : g < 17) : ∀ k, k < g + 1 → N 82 (17 * nx + k) = M 78 k := by
  intro k hk
  by_cases he : k = g
  · rw [he, m, up2_eq, e]
  · rw [m, up2_ne (by omega)]; exact h k (by omega)
theorem ka_oth {nx g : Nat} {M N P : Mt} {v : Int32} (h : ∀ j, j < 12 → ¬ j = nx → ∀ k, k < 17 → P 82 (17 * j + k) = M 82 (17 * j + k)) (m : N = up2 P 82 (17 * nx + g) v) (hg : g < 17) : ∀ j, j < 12 → ¬ j = nx → ∀ k, k < 17 → N 82 (17 * j + k) = M 82 (17 * j + k) := by
  intro j h1 h2 k hk
  rw [m, up2_ne (by omega)]; exact h j h1 h2 k hk
theorem lvC_row {M N : Mt} {lv : Nat} (h : N 78 = M 78) : lvC N lv = lvC M lv := by unfold lvC; rw [h]
theorem lay_HE {n f t : Nat} {M N : Mt} {c : Row} (hn : n ≤ 5) (h : ∀ k, k < 22 → N 78 (22 * t + k) = M 78 (22 * f + k)) (hc : HE n (lvC M f) c) : HE n (lvC N t) c := hc.rw1 hn (fun k hk => h k (by omega))
theorem acM.keep {n na nx : Nat} {ra : Nat → Row} {M N : Mt} (h : acM n na nx ra M) (e1 : N 76 8 = M 76 8) (e2 : N 76 9 = M 76 9) (e3 : N 82 = M 82) : acM n na nx ra N := ⟨e1.trans h.1, e2.trans h.2.1, h.2.2.1, fun i hi => by
  have : ∀ j, rowS N 82 j = rowS M 82 j := fun j => by unfold rowS; rw [e3]
  rw [this]; exact h.2.2.2 i hi⟩
theorem un_row {nx g : Nat} {M N P : Mt} (h : ∀ k, k < g → P 78 k = M 82 (17 * nx + k)) (m : N = up2 P 78 g (P 82 (17 * nx + g))) (e : P 82 (17 * nx + g) = M 82 (17 * nx + g)) (hg : g < 17) : ∀ k, k < g + 1 → N 78 k = M 82 (17 * nx + k) := by
  intro k hk
  by_cases he : k = g
  · rw [he, m, up2_eq, e]
  · rw [m, up2_ne (by omega)]; exact h k (by omega)
theorem und8_row {n na nx : Nat} {ra : Nat → Row} {M N : Mt} (hn : n ≤ 5) (hA : acM n na nx ra M) (h1 : 0 < na) (h2 : na ≤ 12) (hr : ∀ k, k < 17 → N 78 k = M 82 (17 * ((nx + 11) % 12) + k)) : HE n (lvC N 0) (ra (na - 1)) := by
  have h3 := hA.2.2.1
  have h := hA.2.2.2 (na - 1) (by omega)
  rw [show (nx + 12 - na + (na - 1)) % 12 = (nx + 11) % 12 by omega] at h
  refine h.rw1 hn (fun k hk => ?_)
  show N 78 (22 * 0 + k) = M 82 (17 * ((nx + 11) % 12) + k)
  rw [Nat.mul_zero, Nat.zero_add]
  exact hr k hk
theorem und8_ac {n na nx : Nat} {ra : Nat → Row} {M N : Mt} (hA : acM n na nx ra M) (h1 : 0 < na) (h2 : na ≤ 12) (e1 : N 76 8 = nI (na - 1)) (e2 : N 76 9 = nI ((nx + 11) % 12)) (e3 : N 82 = M 82) : acM n (na - 1) ((nx + 11) % 12) ra N := by
  have h3 := hA.2.2.1
  refine ⟨e1, e2, by omega, fun i hi => ?_⟩
  have : ∀ j, rowS N 82 j = rowS M 82 j := fun j => by unfold rowS; rw [e3]
  rw [this, show ((nx + 11) % 12 + 12 - (na - 1) + i) % 12 = (nx + 12 - na + i) % 12 by omega]
  exact hA.2.2.2 i (by omega)
theorem St_row82 {M N : Mt} (h : St (fun i k => (i = 78 ∧ k < 22) ∨ (i = 76 ∧ (k = 8 ∨ k = 9))) M N) : N 82 = M 82 := h.row (fun k => by (try dsimp only); omega)
theorem kp_row {s g : Nat} {M N P : Mt} (h : ∀ k, k < g → P 89 (17 * s + k) = M 78 k) (m : N = up2 P 89 (17 * s + g) (P 78 g)) (e : P 78 g = M 78 g) (hg : g < 17) : ∀ k, k < g + 1 → N 89 (17 * s + k) = M 78 k := by
  intro k hk
  by_cases he : k = g
  · rw [he, m, up2_eq, e]
  · rw [m, up2_ne (by omega)]; exact h k (by omega)
theorem kp_oth {s g : Nat} {M N P : Mt} {v : Int32} (h : ∀ j, j < 2 → ¬ j = s → ∀ k, k < 17 → P 89 (17 * j + k) = M 89 (17 * j + k)) (m : N = up2 P 89 (17 * s + g) v) (hg : g < 17) : ∀ j, j < 2 → ¬ j = s → ∀ k, k < 17 → N 89 (17 * j + k) = M 89 (17 * j + k) := by
  intro j h1 h2 k hk
  rw [m, up2_ne (by omega)]; exact h j h1 h2 k hk
theorem row88 {N P : Mt} {r : Row} {k : Nat} {v : Int32} (h : P 88 = r) (m : N = up2 P 89 k v) : N 88 = r := by rw [m, row_ne (by decide)]; exact h
theorem sl8_keep {n s : Nat} {hk : Nat → Bool} {rk : Nat → Row} {c : Row} {M N : Mt} (hn : n ≤ 5) (hs : s < 2) (h : slM n hk rk M) (hc : HE n (lvC M 0) c) (hr : ∀ k, k < 17 → N 89 (17 * s + k) = M 78 k) (ho : ∀ j, j < 2 → ¬ j = s → ∀ k, k < 17 → N 89 (17 * j + k) = M 89 (17 * j + k)) (h88 : N 88 = up1 (M 88) s 1) : slM n (upB hk s) (upK rk s c) N := by
  intro i hi
  unfold upB upK
  by_cases he : i = s
  · rw [if_pos he, if_pos he, if_pos rfl, h88, he, up1_eq]
    refine ⟨rfl, fun _ => hc.rw1 hn (fun k hk2 => ?_)⟩
    show N 89 (17 * s + k) = M 78 (22 * 0 + k)
    rw [Nat.mul_zero, Nat.zero_add]
    exact hr k hk2
  · rw [if_neg he, if_neg he, h88, up1_ne he]
    exact ⟨(h i hi).1, fun hz => ((h i hi).2 hz).rw1 hn (fun k hk2 => ho i hi he k hk2)⟩
theorem ag_row8 {s g : Nat} {M N P : Mt} (h : ∀ k, k < g → P 78 k = M 89 (17 * s + k)) (m : N = up2 P 78 g (P 89 (17 * s + g))) (e : P 89 (17 * s + g) = M 89 (17 * s + g)) (hg : g < 17) : ∀ k, k < g + 1 → N 78 k = M 89 (17 * s + k) := by
  intro k hk
  by_cases he : k = g
  · rw [he, m, up2_eq, e]
  · rw [m, up2_ne (by omega)]; exact h k (by omega)
theorem ag8_row {n s : Nat} {M N : Mt} {r : Row} (hn : n ≤ 5) (h : HE n (rowS M 89 s) r) (e : ∀ k, k < 17 → N 78 k = M 89 (17 * s + k)) : HE n (lvC N 0) r := by
  refine h.rw1 hn (fun k hk => ?_)
  show N 78 (22 * 0 + k) = M 89 (17 * s + k)
  rw [Nat.mul_zero, Nat.zero_add]
  exact e k hk
theorem sl8_no {b : Bool} {x : Int32} (h : x = if b = true then 1 else 0) (e : x = 0) : b = false := by
  cases b with
  | false => rfl
  | true => rw [if_pos rfl, e] at h; exact absurd h (by decide)
theorem sl8_yes {b : Bool} {x : Int32} (h : x = if b = true then 1 else 0) (e : ¬ x = 0) : b = true := by
  cases b with
  | true => rfl
  | false => rw [if_neg (by decide)] at h; exact absurd h e
def in8Q (l : Row) (m : Nat) (c p : Row) : Prop := ∀ i, i < m → c i = l (4 * i + 2) - nI 97 ∧ c (5 + i) = l (4 * i + 3) - nI 48 ∧ p i = l (4 * i + 4) - nI 48
theorem in8_0 {g : Nat} {N P : Mt} (h : ∀ k, k < g → P 78 k = nI 0) (m : N = up2 P 78 g (nI 0)) : ∀ k, k < g + 1 → N 78 k = nI 0 := by
  intro k hk
  by_cases he : k = g
  · rw [he, m, up2_eq]
  · rw [m, up2_ne (by omega)]; exact h k (by omega)
theorem in8_1 {g : Nat} {N P Q : Mt} {v : Int32} (h : ∀ i, i < g → P 78 (10 + i) = -9) (m1 : Q = up2 P 78 (10 + g) (-9)) (m2 : N = up2 Q 77 g v) : ∀ i, i < g + 1 → N 78 (10 + i) = -9 := by
  intro i hi
  rw [m2, up2_ne (by omega), m1]
  by_cases he : i = g
  · rw [he, up2_eq]
  · rw [up2_ne (by omega)]; exact h i (by omega)
theorem in8_2 {l : Row} {g : Nat} {N P Q R : Mt} {v1 v2 v3 : Int32} (h : in8Q l g (P 78) (P 77)) {m1 : Q = up2 P 78 g v1} {m2 : R = up2 Q 78 (5 + g) v2} {m3 : N = up2 R 77 g v3} (e1 : v1 = l (4 * g + 2) - nI 97) (e2 : v2 = l (4 * g + 3) - nI 48) (e3 : v3 = l (4 * g + 4) - nI 48) (hg : g < 5) : in8Q l (g + 1) (N 78) (N 77) := by
  have r1 : N 78 = up1 (up1 (P 78) g v1) (5 + g) v2 := by rw [m3, row_ne (by decide), m2, row_eq, m1, row_eq]
  have r2 : N 77 = up1 (P 77) g v3 := by rw [m3, row_eq, m2, row_ne (by decide), m1, row_ne (by decide)]
  intro i hi
  rw [r1, r2]
  by_cases he : i = g
  · subst he
    exact ⟨by rw [up1_ne (by omega), up1_eq]; exact e1, by rw [up1_eq]; exact e2, by rw [up1_eq]; exact e3⟩
  · obtain ⟨h1, h2, h3⟩ := h i (by omega)
    exact ⟨by rw [up1_ne (by omega), up1_ne (by omega)]; exact h1, by rw [up1_ne (by omega), up1_ne (by omega)]; exact h2, by rw [up1_ne he]; exact h3⟩
theorem in8_end {l : Row} {n g : Nat} {N : Mt} {p : Row} (hn : n ≤ 5) (h : in8Q l g (N 78) p) (hw : ∀ i, i < 5 → N 78 (10 + i) = -9) (ha : N 78 15 = evI n) (hz : N 78 16 = nI 0) (hg : n ≤ g) : HE n (lvC N 0) (innC l n) := by
  refine ⟨fun i hi => ?_, ?_, ?_⟩
  · obtain ⟨h1, h2, -⟩ := h i (by omega)
    have h3 := hw i (by omega)
    unfold innC lvC
    rw [Nat.mul_zero, Nat.zero_add, Nat.zero_add, Nat.zero_add]
    refine ⟨?_, ?_, ?_⟩
    · rw [if_pos (by omega)]; exact h1
    · rw [if_neg (by omega), if_pos (by omega), show 5 + i - 5 = i by omega]; exact h2
    · rw [if_neg (by omega), if_neg (by omega), if_pos (by omega)]; exact h3
  · exact ha
  · exact hz
theorem in8_k {r : Row} : ∀ s, s < 2 → up1 (up1 r 0 0) 1 0 s = 0 := by
  intro s hs
  by_cases h : s = 1
  · rw [h, up1_eq]
  · rw [up1_ne h, show s = 0 by omega, up1_eq]
/-- how many are alive: the same on both sides -/
theorem is5_nI {x : Int32} (h : is5 x) : ∃ m, m < 32 ∧ x = nI m := by
  have key : ∀ b0 b1 b2 b3 b4 : Bool, ∃ m, m < 32 ∧ ∀ i, i < 5 → tb (nI m) i = (match i with | 0 => b0 | 1 => b1 | 2 => b2 | 3 => b3 | _ => b4) := by decide +kernel
  obtain ⟨m, hm, e⟩ := key (tb x 0) (tb x 1) (tb x 2) (tb x 3) (tb x 4)
  refine ⟨m, hm, tb_ext (fun i hi => ?_)⟩
  by_cases h5 : i < 5
  · rw [e i h5]
    rcases (by omega : i = 0 ∨ i = 1 ∨ i = 2 ∨ i = 3 ∨ i = 4) with rfl | rfl | rfl | rfl | rfl <;> rfl
  · rw [h i (by omega)]
    exact ((by decide +kernel : ∀ m, m < 32 → ∀ i, i < 32 → 5 ≤ i → tb (nI m) i = false) m hm i hi (by omega)).symm
theorem bc_ones {n : Nat} {c : Row} (hn : n ≤ 5) (h : alOk n c) : bcI (c 15) = sumI 8 (fun k => (c 15 >>> (nI k &&& 31)) &&& nI 1) := by
  obtain ⟨m, hm, e⟩ := is5_nI (fun i hi => h i (by omega))
  rw [e]
  exact (by decide +kernel : ∀ m, m < 32 → bcI (nI m) = sumI 8 (fun k => (nI m >>> (nI k &&& 31)) &&& nI 1)) m hm
