/-! THE NIGHT AS NUMBERS: rows, bits, sets of guests, what a deed does -/
abbrev Row : Type := Nat → Int32
def up1 (c : Row) (k : Nat) (v : Int32) : Row := fun i => if i = k then v else c i
theorem up1_eq {c : Row} {k : Nat} {v : Int32} : up1 c k v k = v := if_pos rfl
theorem up1_ne {c : Row} {k i : Nat} {v : Int32} (h : ¬ i = k) : up1 c k v i = c i := if_neg h
theorem row_eq {M : Mt} {a k : Nat} {v : Int32} : up2 M a k v a = up1 (M a) k v := by
  funext b
  unfold up2 up1
  by_cases h : b = k
  · rw [if_pos ⟨rfl, h⟩, if_pos h]
  · rw [if_neg (fun z => h z.2), if_neg h]
theorem row_ne {M : Mt} {a k x : Nat} {v : Int32} (h : ¬ x = a) : up2 M a k v x = M x := by
  funext b
  exact up2_ne (fun z => h z.1)
theorem St.row {S : Nat → Nat → Prop} {M N : Mt} (h : St S M N) {x : Nat} (hx : ∀ k, ¬ S x k) : N x = M x := by
  funext b
  exact h.2 x b (hx b)
/-- of n guests the names, coins, spouses; who is alive; the nights -/
def HE (n : Nat) (c c' : Row) : Prop := (∀ g, g < n → c g = c' g ∧ c (5 + g) = c' (5 + g) ∧ c (10 + g) = c' (10 + g)) ∧ c 15 = c' 15 ∧ c 16 = c' 16
def LQ (n : Nat) (l l' : Row) : Prop := ∀ g, g < n → l g = l' g
theorem HE.rf {n : Nat} {c : Row} : HE n c c := ⟨fun _ _ => ⟨rfl, rfl, rfl⟩, rfl, rfl⟩
theorem HE.sy {n : Nat} {c c' : Row} (h : HE n c c') : HE n c' c := ⟨fun g hg => ⟨(h.1 g hg).1.symm, (h.1 g hg).2.1.symm, (h.1 g hg).2.2.symm⟩, h.2.1.symm, h.2.2.symm⟩
theorem HE.tr {n : Nat} {c c' c'' : Row} (h : HE n c c') (h' : HE n c' c'') : HE n c c'' := ⟨fun g hg => ⟨(h.1 g hg).1.trans (h'.1 g hg).1, (h.1 g hg).2.1.trans (h'.1 g hg).2.1, (h.1 g hg).2.2.trans (h'.1 g hg).2.2⟩, h.2.1.trans h'.2.1, h.2.2.trans h'.2.2⟩
theorem up1_cg {c c' : Row} {k i : Nat} {v v' : Int32} (h : c i = c' i) (hv : v = v') : up1 c k v i = up1 c' k v' i := by
  unfold up1
  split
  · exact hv
  · exact h
theorem HE.up {n : Nat} {c c' : Row} {v v' : Int32} (h : HE n c c') (k : Nat) (hv : v = v') : HE n (up1 c k v) (up1 c' k v') := ⟨fun g hg => ⟨up1_cg (h.1 g hg).1 hv, up1_cg (h.1 g hg).2.1 hv, up1_cg (h.1 g hg).2.2 hv⟩, up1_cg h.2.1 hv, up1_cg h.2.2 hv⟩
theorem LQ.up {n : Nat} {c c' : Row} {v v' : Int32} (h : LQ n c c') (k : Nat) (hv : v = v') : LQ n (up1 c k v) (up1 c' k v') := fun g hg => up1_cg (h g hg) hv
theorem HE.of17 {n : Nat} {c c' : Row} (hn : n ≤ 5) (h : ∀ k, k < 17 → c k = c' k) : HE n c c' := ⟨fun g hg => ⟨h _ (by omega), h _ (by omega), h _ (by omega)⟩, h _ (by omega), h _ (by omega)⟩
/-! bits -/
def bitI (g : Nat) : Int32 := nI 1 <<< (nI g &&& 31)
theorem tb_bit {g i : Nat} (hg : g < 32) (hi : i < 32) : tb (bitI g) i = decide (i = g) := (by decide +kernel : ∀ g, g < 32 → ∀ i, i < 32 → tb (bitI g) i = decide (i = g)) g hg i hi
theorem tb_or {x y : Int32} {i : Nat} : tb (x ||| y) i = (tb x i || tb y i) := by unfold tb; rw [Int32.toBitVec_or, BitVec.getLsbD_or]
theorem tb_and {x y : Int32} {i : Nat} : tb (x &&& y) i = (tb x i && tb y i) := by unfold tb; rw [Int32.toBitVec_and, BitVec.getLsbD_and]
theorem tb_m1 {i : Nat} (hi : i < 32) : tb (-1) i = true := (by decide +kernel : ∀ i, i < 32 → tb (-1) i = true) i hi
theorem tb_not {x : Int32} {i : Nat} (hi : i < 32) : tb (x ^^^ (-1)) i = !tb x i := by
  have h := tb_m1 hi
  unfold tb at h ⊢
  rw [Int32.toBitVec_xor, BitVec.getLsbD_xor, h, Bool.xor_true]
theorem tb_0 {i : Nat} : tb (nI 0) i = false := by
  have : (nI 0).toBitVec = 0#32 := rfl
  unfold tb
  rw [this, BitVec.getLsbD_zero]
theorem tb_ge {x : Int32} {i : Nat} (h : 32 ≤ i) : tb x i = false := BitVec.getLsbD_of_ge _ _ h
theorem tb_ext {x y : Int32} (h : ∀ i, i < 32 → tb x i = tb y i) : x = y := Int32.toBitVec_inj.mp (BitVec.eq_of_getLsbD_eq (fun i hi => h i hi))
theorem tb_hb {x : Int32} {k : Nat} (hk : k < 32) (h : hb x k) : tb x k = true := (hb_iff x hk).mp h
theorem tb_nhb {x : Int32} {k : Nat} (hk : k < 32) (h : ¬ hb x k) : tb x k = false := by
  cases ht : tb x k with
  | false => rfl
  | true => exact absurd ((hb_iff x hk).mpr ht) h
theorem tb_t {x : Int32} {k : Nat} (hk : k < 32) (h : ¬ (x >>> (nI k &&& 31)) &&& nI 1 = 0) : tb x k = true := by
  apply tb_hb hk
  rcases and1 (x >>> (nI k &&& 31)) with e | e
  · exact absurd e h
  · exact e
theorem tb_f {x : Int32} {k : Nat} (hk : k < 32) (h : (x >>> (nI k &&& 31)) &&& nI 1 = 0) : tb x k = false := by
  apply tb_nhb hk
  intro hh
  unfold hb at hh
  rw [h] at hh
  exact absurd hh (by decide)
def setI : Nat → (Nat → Bool) → Int32
  | 0, _ => nI 0
  | m + 1, P => setI m P ||| (if P m = true then bitI m else nI 0)
theorem setI_t {g : Nat} {P : Nat → Bool} {x : Int32} (hx : x = setI g P) (h : P g = true) : x ||| bitI g = setI (g + 1) P := by
  unfold setI
  rw [if_pos h, hx]
theorem setI_f {g : Nat} {P : Nat → Bool} {x : Int32} (hx : x = setI g P) (h : P g = false) : x ||| nI 0 = setI (g + 1) P := by
  unfold setI
  rw [if_neg (by rw [h]; decide), hx]
theorem tb_setI {P : Nat → Bool} : ∀ (n : Nat), n ≤ 32 → ∀ i, i < 32 → tb (setI n P) i = (decide (i < n) && P i)
  | 0, _, i, _ => by unfold setI; rw [tb_0]; simp
  | n + 1, hn, i, hi => by
    unfold setI
    rw [tb_or, tb_setI n (by omega) i hi]
    by_cases hp : P n = true
    · rw [if_pos hp, tb_bit (by omega) hi]
      by_cases he : i = n
      · subst he; simp [hp]
      · have : (i < n + 1) = (i < n) := by apply propext; omega
        simp [he, this]
    · rw [if_neg hp, tb_0]
      by_cases he : i = n
      · subst he; simp [hp]
      · have : (i < n + 1) = (i < n) := by apply propext; omega
        simp [this]
theorem setI_cg {P Q : Nat → Bool} : ∀ n : Nat, (∀ g, g < n → P g = Q g) → setI n P = setI n Q
  | 0, _ => rfl
  | n + 1, h => by
    unfold setI
    rw [setI_cg n (fun g hg => h g (by omega)), h n (by omega)]
/-- a set of the first five -/
def is5 (x : Int32) : Prop := ∀ i, 5 ≤ i → tb x i = false
theorem is5_set {n : Nat} {P : Nat → Bool} (hn : n ≤ 5) : is5 (setI n P) := by
  intro i hi
  by_cases h : i < 32
  · rw [tb_setI n (by omega) i h]
    simp; omega
  · exact tb_ge (by omega)
theorem is5_and {x y : Int32} (h : is5 x) : is5 (x &&& y) := fun i hi => by rw [tb_and, h i hi, Bool.false_and]
theorem is5_0 {x : Int32} (h : is5 x) (h0 : ∀ k, k < 5 → tb x k = false) : x = 0 := by
  have : (0 : Int32) = nI 0 := rfl
  rw [this]
  apply tb_ext
  intro i _
  rw [tb_0]
  by_cases h5 : i < 5
  · exact h0 i h5
  · exact h i (by omega)
/-- the least of a set -/
def isL (x : Int32) (k : Nat) : Prop := tb x k = true ∧ ∀ i, i < k → tb x i = false
def lsN (x : Int32) : Nat := if tb x 0 = true then 0 else if tb x 1 = true then 1 else if tb x 2 = true then 2 else if tb x 3 = true then 3 else if tb x 4 = true then 4 else 5
theorem lsN_eq {x : Int32} {k : Nat} (h : isL x k) (hk : k < 5) : lsN x = k := by
  obtain ⟨h1, h2⟩ := h
  unfold lsN
  rcases (by omega : k = 0 ∨ k = 1 ∨ k = 2 ∨ k = 3 ∨ k = 4) with rfl | rfl | rfl | rfl | rfl
  · rw [if_pos h1]
  · rw [if_neg (by rw [h2 0 (by omega)]; decide), if_pos h1]
  · rw [if_neg (by rw [h2 0 (by omega)]; decide), if_neg (by rw [h2 1 (by omega)]; decide), if_pos h1]
  · rw [if_neg (by rw [h2 0 (by omega)]; decide), if_neg (by rw [h2 1 (by omega)]; decide), if_neg (by rw [h2 2 (by omega)]; decide), if_pos h1]
  · rw [if_neg (by rw [h2 0 (by omega)]; decide), if_neg (by rw [h2 1 (by omega)]; decide), if_neg (by rw [h2 2 (by omega)]; decide), if_neg (by rw [h2 3 (by omega)]; decide), if_pos h1]
theorem no_ls {x : Int32} (h5 : is5 x) (h : ¬ x = 0) (h0 : ∀ k, k < 5 → tb x k = false) : False := h (is5_0 h5 h0)
/-! guests -/
def bears (n : Nat) (c : Row) (a : Int32) : Int32 := setI n (fun g => decide (c g = a) && tb (c 15) g)
def able (n : Nat) (B : Int32) (lf : Row) : Int32 := setI n (fun g => tb B g && decide (0 < lf g))
def clr (x : Int32) (d : Nat) : Int32 := x &&& (bitI d ^^^ (-1))
theorem bears_cg {n : Nat} {c c' : Row} {a : Int32} (h : HE n c c') : bears n c a = bears n c' a := setI_cg n (fun g hg => by rw [(h.1 g hg).1, h.2.1])
theorem able_cg {n : Nat} {B : Int32} {l l' : Row} (h : LQ n l l') : able n B l = able n B l' := setI_cg n (fun g hg => by rw [h g hg])
theorem bears_and {n : Nat} {c : Row} {a x : Int32} (hn : n ≤ 5) (hx : x = setI n (fun g => decide (c g = a))) : x &&& c 15 = bears n c a := by
  subst hx
  apply tb_ext
  intro i hi
  unfold bears
  rw [tb_and, tb_setI n (by omega) i hi, tb_setI n (by omega) i hi, Bool.and_assoc]
def rmI (B : Int32) (lf : Row) : Nat → Int32
  | 0 => B
  | g + 1 => if 0 < lf g then rmI B lf g else rmI B lf g &&& (bitI g ^^^ (-1))
theorem rm_t {B : Int32} {lf : Row} {g : Nat} {x : Int32} (hx : x = rmI B lf g) (h : 0 < lf g) : x = rmI B lf (g + 1) := by
  unfold rmI
  rw [if_pos h, hx]
theorem rm_f {B : Int32} {lf : Row} {g : Nat} {x : Int32} (hx : x = rmI B lf g) (h : ¬ 0 < lf g) : x &&& (bitI g ^^^ (-1)) = rmI B lf (g + 1) := by
  unfold rmI
  rw [if_neg h, hx]
theorem tb_rm {B : Int32} {lf : Row} : ∀ (g : Nat), g ≤ 32 → ∀ i, i < 32 → tb (rmI B lf g) i = (tb B i && (decide (g ≤ i) || decide (0 < lf i)))
  | 0, _, i, _ => by unfold rmI; simp
  | g + 1, hg, i, hi => by
    unfold rmI
    have ih := tb_rm (B := B) (lf := lf) g (by omega) i hi
    by_cases h : 0 < lf g
    · rw [if_pos h, ih]
      by_cases he : i = g
      · subst he; simp [h]
      · have : (g + 1 ≤ i) = (g ≤ i) := by apply propext; omega
        simp [this]
    · rw [if_neg h, tb_and, tb_not hi, tb_bit (by omega) hi, ih]
      by_cases he : i = g
      · subst he; simp [h]
      · have : (g + 1 ≤ i) = (g ≤ i) := by apply propext; omega
        simp [this, he]
theorem rm_able {n : Nat} {B : Int32} {lf : Row} {P : Nat → Bool} (hn : n ≤ 5) (hB : B = setI n P) : rmI B lf 5 = able n B lf := by
  apply tb_ext
  intro i hi
  unfold able
  rw [tb_rm 5 (by omega) i hi, tb_setI n (by omega) i hi]
  by_cases h : i < n
  · have h5 : ¬ 5 ≤ i := by omega
    simp [h, h5]
  · have : tb B i = false := by rw [hB, tb_setI n (by omega) i hi]; simp [h]
    simp [this, h]
/-! deeds -/
def kdD (a : Int32) : Int32 := a / nI 16
def fstD (a : Int32) : Int32 := a / nI 4 - a / nI 4 / nI 4 * nI 4
def sndD (a : Int32) : Int32 := a - a / nI 4 * nI 4
/-- cells, power left, how many fines, which deeds are done -/
abbrev TSt : Type := Row × Row × Int32 × Int32
def fineC (c : Row) (g : Nat) : Row := up1 c (5 + g) (c (5 + g) - nI 1)
def joinC (c : Row) (d o : Nat) : Row := up1 (up1 c (10 + d) (nI o)) (10 + o) (nI d)
def giveC (c : Row) (d o : Nat) : Row := up1 (fineC c d) (5 + o) (fineC c d (5 + o) + nI 1)
def unwed (c : Row) (w : Int32) : Row := if w = -9 then c else up1 c (10 + w.toNatClampNeg) (-9)
def buryC (c : Row) (o : Nat) : Row := up1 (up1 (unwed c (c (10 + o))) (10 + o) (-9)) 15 (clr (c 15) o)
def fineS (s : TSt) (g : Nat) : TSt := (fineC s.1 g, s.2.1, s.2.2.1 + nI 1, s.2.2.2)
def doneS (c' : Row) (s : TSt) (d p : Nat) : TSt := (c', up1 s.2.1 d (s.2.1 d - nI 1), s.2.2.1, s.2.2.2 ||| bitI p)
def actS (a : Int32) (p : Nat) (s : TSt) (d o : Nat) : TSt :=
  if kdD a = nI 0 then doneS (buryC s.1 o) s d p
  else if kdD a = nI 1 then (if s.1 (10 + d) = -9 ∧ s.1 (10 + o) = -9 then doneS (joinC s.1 d o) s d p else fineS s d)
  else if kdD a = nI 2 then (if 0 < s.1 (5 + d) then doneS (giveC s.1 d o) s d p else fineS s d)
  else doneS (up1 s.1 d (sndD a)) s d p
def failS (n : Nat) (a : Int32) (s : TSt) : TSt := if bears n s.1 (fstD a) = 0 then s else fineS s (lsN (bears n s.1 (fstD a)))
def dorI (n : Nat) (a : Int32) (s : TSt) : Int32 := able n (bears n s.1 (fstD a)) s.2.1
def othI (n : Nat) (a : Int32) (s : TSt) (d : Nat) : Int32 := clr (bears n s.1 (sndD a)) d
def hearF (n : Nat) (a : Int32) (p : Nat) (s : TSt) : TSt :=
  if dorI n a s = 0 then failS n a s
  else if othI n a s (lsN (dorI n a s)) = 0 then fineS s (lsN (dorI n a s))
  else actS a p s (lsN (dorI n a s)) (lsN (othI n a s (lsN (dorI n a s))))
/-- who is wed is wed to a guest -/
def wedOk (n : Nat) (c : Row) : Prop := ∀ g, g < n → c (10 + g) = -9 ∨ ∃ k, k < n ∧ c (10 + g) = nI k
theorem HE.unw {n : Nat} {c c' : Row} {w w' : Int32} (h : HE n c c') (hw : w = w') : HE n (unwed c w) (unwed c' w') := by
  subst hw
  unfold unwed
  split
  · exact h
  · exact h.up _ rfl
theorem HE.bury {n : Nat} {c c' : Row} {o : Nat} (h : HE n c c') (ho : o < n) : HE n (buryC c o) (buryC c' o) := by
  unfold buryC
  exact ((h.unw (h.1 o ho).2.2).up _ rfl).up _ (by rw [h.2.1])
theorem HE.fine {n : Nat} {c c' : Row} {g : Nat} (h : HE n c c') (hg : g < n) : HE n (fineC c g) (fineC c' g) := h.up _ (by rw [(h.1 g hg).2.1])
theorem HE.join {n : Nat} {c c' : Row} {d o : Nat} (h : HE n c c') : HE n (joinC c d o) (joinC c' d o) := (h.up _ rfl).up _ rfl
theorem HE.give {n : Nat} {c c' : Row} {d o : Nat} (h : HE n c c') (hd : d < n) (ho : o < n) : HE n (giveC c d o) (giveC c' d o) := (h.fine hd).up _ (by rw [((h.fine hd).1 o ho).2.1])
theorem is5_dor {n : Nat} {a : Int32} {s : TSt} (hn : n ≤ 5) : is5 (dorI n a s) := is5_set hn
theorem is5_oth {n : Nat} {a : Int32} {s : TSt} {d : Nat} (hn : n ≤ 5) : is5 (othI n a s d) := is5_and (is5_set hn)
theorem isL_lt {n : Nat} {P : Nat → Bool} {k : Nat} (hn : n ≤ 5) (h : tb (setI n P) k = true) : k < n ∧ P k = true := by
  by_cases hk : k < 32
  · rw [tb_setI n (by omega) k hk] at h
    simpa using h
  · rw [tb_ge (by omega)] at h; cases h
theorem dor_lt {n : Nat} {a : Int32} {s : TSt} {k : Nat} (hn : n ≤ 5) (h : tb (dorI n a s) k = true) : k < n := (isL_lt hn h).1
theorem oth_lt {n : Nat} {a : Int32} {s : TSt} {d k : Nat} (hn : n ≤ 5) (h : tb (othI n a s d) k = true) : k < n := by
  unfold othI clr at h
  rw [tb_and] at h
  have := (Bool.and_eq_true _ _).mp h
  exact (isL_lt hn this.1).1
theorem oth_ne {n : Nat} {a : Int32} {s : TSt} {d k : Nat} (hn : n ≤ 5) (hd : d < n) (h : tb (othI n a s d) k = true) : ¬ k = d := by
  intro e
  subst e
  unfold othI clr at h
  rw [tb_and, tb_not (by omega), tb_bit (by omega) (by omega)] at h
  simp at h
/-! a guest's spouse stays a guest's -/
theorem wedOk.up {n : Nat} {c : Row} {k : Nat} {v : Int32} (h : wedOk n c) (hv : v = -9 ∨ (∃ z, z < n ∧ v = nI z) ∨ k < 10 ∨ 15 ≤ k) (hn : n ≤ 5) : wedOk n (up1 c k v) := by
  intro g hg
  unfold up1
  split
  · rename_i he
    rcases hv with h1 | h1 | h1 | h1
    · exact Or.inl h1
    · exact Or.inr h1
    · omega
    · omega
  · exact h g hg
theorem wedOk.he {n : Nat} {c c' : Row} (h : wedOk n c) (hc : HE n c c') : wedOk n c' := fun g hg => by rw [← (hc.1 g hg).2.2]; exact h g hg
theorem wedOk.unw {n : Nat} {c : Row} {w : Int32} (h : wedOk n c) (hn : n ≤ 5) : wedOk n (unwed c w) := by
  unfold unwed
  split
  · exact h
  · exact h.up (Or.inl rfl) hn
theorem ls_ex {x : Int32} (h5 : is5 x) (h : ¬ x = 0) : lsN x < 5 ∧ tb x (lsN x) = true := by
  unfold lsN
  by_cases h0 : tb x 0 = true
  · rw [if_pos h0]; exact ⟨by omega, h0⟩
  rw [if_neg h0]
  by_cases h1 : tb x 1 = true
  · rw [if_pos h1]; exact ⟨by omega, h1⟩
  rw [if_neg h1]
  by_cases h2 : tb x 2 = true
  · rw [if_pos h2]; exact ⟨by omega, h2⟩
  rw [if_neg h2]
  by_cases h3 : tb x 3 = true
  · rw [if_pos h3]; exact ⟨by omega, h3⟩
  rw [if_neg h3]
  by_cases h4 : tb x 4 = true
  · rw [if_pos h4]; exact ⟨by omega, h4⟩
  exfalso
  refine no_ls h5 h (fun k hk => ?_)
  rcases (by omega : k = 0 ∨ k = 1 ∨ k = 2 ∨ k = 3 ∨ k = 4) with rfl | rfl | rfl | rfl | rfl
  · simpa using h0
  · simpa using h1
  · simpa using h2
  · simpa using h3
  · simpa using h4
/-- what becomes of the cells -/
def cellsOf (n : Nat) (a : Int32) (c c' : Row) : Prop :=
  c' = c ∨ (∃ g, g < n ∧ c' = fineC c g) ∨ (∃ o, o < n ∧ kdD a = nI 0 ∧ c' = buryC c o) ∨ (∃ d o, d < n ∧ o < n ∧ ¬ o = d ∧ kdD a = nI 1 ∧ c' = joinC c d o) ∨ (∃ d o, d < n ∧ o < n ∧ ¬ o = d ∧ kdD a = nI 2 ∧ c' = giveC c d o) ∨ (∃ d, d < n ∧ ¬ kdD a = nI 0 ∧ ¬ kdD a = nI 1 ∧ ¬ kdD a = nI 2 ∧ c' = up1 c d (sndD a))
theorem act_cells {n : Nat} {a : Int32} {p d o : Nat} {s : TSt} (hd : d < n) (ho : o < n) (hne : ¬ o = d) : cellsOf n a s.1 (actS a p s d o).1 := by
  unfold actS
  by_cases h0 : kdD a = nI 0
  · rw [if_pos h0]; exact Or.inr (Or.inr (Or.inl ⟨o, ho, h0, rfl⟩))
  rw [if_neg h0]
  by_cases h1 : kdD a = nI 1
  · rw [if_pos h1]
    split
    · exact Or.inr (Or.inr (Or.inr (Or.inl ⟨d, o, hd, ho, hne, h1, rfl⟩)))
    · exact Or.inr (Or.inl ⟨d, hd, rfl⟩)
  rw [if_neg h1]
  by_cases h2 : kdD a = nI 2
  · rw [if_pos h2]
    split
    · exact Or.inr (Or.inr (Or.inr (Or.inr (Or.inl ⟨d, o, hd, ho, hne, h2, rfl⟩))))
    · exact Or.inr (Or.inl ⟨d, hd, rfl⟩)
  rw [if_neg h2]
  exact Or.inr (Or.inr (Or.inr (Or.inr (Or.inr ⟨d, hd, h0, h1, h2, rfl⟩))))
theorem hear_cells {n : Nat} {a : Int32} {p : Nat} {s : TSt} (hn : n ≤ 5) : cellsOf n a s.1 (hearF n a p s).1 := by
  unfold hearF
  split
  · unfold failS
    split
    · exact Or.inl rfl
    · rename_i h1 h2
      exact Or.inr (Or.inl ⟨_, (isL_lt hn (ls_ex (is5_set hn) h2).2).1, rfl⟩)
  · rename_i h1
    have hd := dor_lt hn (ls_ex (is5_dor hn) h1).2
    split
    · exact Or.inr (Or.inl ⟨_, hd, rfl⟩)
    · rename_i h2
      have ho := (ls_ex (is5_oth hn) h2).2
      exact act_cells hd (oth_lt hn ho) (oth_ne hn hd ho)
theorem wedOk.of {n : Nat} {a : Int32} {c c' : Row} (h : wedOk n c) (hn : n ≤ 5) (hc : cellsOf n a c c') : wedOk n c' := by
  rcases hc with rfl | ⟨g, hg, rfl⟩ | ⟨o, ho, -, rfl⟩ | ⟨d, o, hd, ho, -, -, rfl⟩ | ⟨d, o, hd, ho, -, -, rfl⟩ | ⟨d, hd, -, -, -, rfl⟩
  · exact h
  · exact h.up (Or.inr (Or.inr (Or.inl (by omega)))) hn
  · exact ((h.unw hn).up (Or.inl rfl) hn).up (Or.inr (Or.inr (Or.inr (by omega)))) hn
  · exact (h.up (Or.inr (Or.inl ⟨o, ho, rfl⟩)) hn).up (Or.inr (Or.inl ⟨d, hd, rfl⟩)) hn
  · exact (h.up (Or.inr (Or.inr (Or.inl (by omega)))) hn).up (Or.inr (Or.inr (Or.inl (by omega)))) hn
  · exact h.up (Or.inr (Or.inr (Or.inl (by omega)))) hn
theorem wedOk.hear {n : Nat} {a : Int32} {p : Nat} {s : TSt} (h : wedOk n s.1) (hn : n ≤ 5) : wedOk n (hearF n a p s).1 := h.of hn (hear_cells hn)
/-- nobody is alive but guests -/
def alOk (n : Nat) (c : Row) : Prop := ∀ i, n ≤ i → tb (c 15) i = false
theorem alOk.of {n : Nat} {a : Int32} {c c' : Row} (h : alOk n c) (hn : n ≤ 5) (hc : cellsOf n a c c') : alOk n c' := by
  rcases hc with rfl | ⟨g, hg, rfl⟩ | ⟨o, ho, -, rfl⟩ | ⟨d, o, hd, ho, -, -, rfl⟩ | ⟨d, o, hd, ho, -, -, rfl⟩ | ⟨d, hd, -, -, -, rfl⟩
  · exact h
  · intro i hi; unfold fineC; rw [up1_ne (by omega)]; exact h i hi
  · intro i hi; unfold buryC; rw [up1_eq]; unfold clr; rw [tb_and, h i hi, Bool.false_and]
  · intro i hi; unfold joinC; rw [up1_ne (by omega), up1_ne (by omega)]; exact h i hi
  · intro i hi; unfold giveC fineC; rw [up1_ne (by omega), up1_ne (by omega)]; exact h i hi
  · intro i hi; rw [up1_ne (by omega)]; exact h i hi
theorem alOk.hear {n : Nat} {a : Int32} {p : Nat} {s : TSt} (h : alOk n s.1) (hn : n ≤ 5) : alOk n (hearF n a p s).1 := h.of hn (hear_cells hn)
theorem alOk.he {n : Nat} {c c' : Row} (h : alOk n c) (hc : HE n c c') : alOk n c' := fun i hi => by rw [← hc.2.1]; exact h i hi
/-! what the two sides show of a night -/
def shT (n t : Nat) (M : Mt) (s : TSt) : Prop := HE n (M (t + 2)) s.1 ∧ LQ n (M (t + 4)) s.2.1 ∧ M t 3 = s.2.2.1 ∧ M t 2 = s.2.2.2
def lvC (M : Mt) (lv : Nat) : Row := fun k => M 78 (22 * lv + k)
def lvL (M : Mt) (lv : Nat) : Row := fun g => M 78 (22 * lv + 17 + g)
def shL (n lv : Nat) (M : Mt) (s : TSt) : Prop := HE n (lvC M lv) s.1 ∧ LQ n (lvL M lv) s.2.1 ∧ M 76 7 = s.2.2.1
/-- m deeds, but those of w -/
def runF (n : Nat) (dv : Nat → Int32) (w : Int32) : Nat → TSt → TSt
  | 0, s => s
  | m + 1, s => if tb w m = true then runF n dv w m s else hearF n (dv m) m (runF n dv w m s)
theorem wedOk.run {n : Nat} {dv : Nat → Int32} {w : Int32} {s : TSt} (h : wedOk n s.1) (hn : n ≤ 5) : ∀ m, wedOk n (runF n dv w m s).1
  | 0 => h
  | m + 1 => by
    unfold runF
    split
    · exact wedOk.run h hn m
    · exact (wedOk.run h hn m).hear hn
theorem alOk.run {n : Nat} {dv : Nat → Int32} {w : Int32} {s : TSt} (h : alOk n s.1) (hn : n ≤ 5) : ∀ m, alOk n (runF n dv w m s).1
  | 0 => h
  | m + 1 => by
    unfold runF
    split
    · exact alOk.run h hn m
    · exact (alOk.run h hn m).hear hn
/-- deed p of a row of letters -/
def deedV (c : Row) (p : Nat) : Int32 := kd (c (3 * p)) * nI 16 + (c (3 * p + 1) - nI 97) * nI 4 + c (3 * p + 2) - nI 97
theorem HE.of_eq {n : Nat} {c c' : Row} (h : c = c') : HE n c c' := h ▸ HE.rf
theorem bury_in {c : Row} {o k n : Nat} (e : nI k = c (10 + o)) (hk : k < n) (hn : n ≤ 5) (ho : o < n) : up1 (up1 (up1 c (10 + k) (-9)) (10 + o) (-9)) 15 (up1 (up1 c (10 + k) (-9)) (10 + o) (-9) 15 &&& (bitI o ^^^ (-1))) = buryC c o := by
  unfold buryC unwed
  rw [← e, if_neg (nI_m9' (by omega)), nI_clamp (by omega), up1_ne (by omega), up1_ne (by omega)]
  rfl
theorem bury_out {c : Row} {o n : Nat} (e : c (10 + o) = -9) (hn : n ≤ 5) (ho : o < n) : up1 (up1 c (10 + o) (-9)) 15 (up1 c (10 + o) (-9) 15 &&& (bitI o ^^^ (-1))) = buryC c o := by
  unfold buryC unwed
  rw [if_pos e, up1_ne (by omega)]
  rfl
theorem cpH_c {M : Mt} {o h k : Nat} (hk : k < 17) : cpH M o h (h + 1) k = M (o + 1) k := by
  unfold cpH
  rw [up2_ne (by omega), cpM_ne (by omega)]
  unfold cpM
  rw [if_pos (by omega)]
  congr 1
  omega
theorem cpH_p {M : Mt} {o h k : Nat} (hk : k < 5) (hne : ¬ o + 2 = h + 1) : cpH M o h (h + 2) k = M (o + 2) k := by
  unfold cpH
  rw [up2_ne (by omega)]
  have e : cpM (cpM M (o + 1) 0 (h + 1) 0 17) (o + 2) 0 (h + 2) 0 5 (h + 2) k = cpM M (o + 1) 0 (h + 1) 0 17 (o + 2) (0 + (k - 0)) := if_pos (by omega)
  rw [e, cpM_ne hne]
  congr 1
  omega
theorem HE.hi {n : Nat} {c c' : Row} {k : Nat} {v : Int32} (h : HE n c c') (hk : 17 ≤ k) (hn : n ≤ 5) : HE n (up1 c k v) c' := ⟨fun g hg => ⟨(up1_ne (by omega)).trans (h.1 g hg).1, (up1_ne (by omega)).trans (h.1 g hg).2.1, (up1_ne (by omega)).trans (h.1 g hg).2.2⟩, (up1_ne (by omega)).trans h.2.1, (up1_ne (by omega)).trans h.2.2⟩
theorem lvC_up {M : Mt} {lv k j : Nat} {v : Int32} (h : k = 22 * lv + j) : lvC (up2 M 78 k v) lv = up1 (lvC M lv) j v := by
  subst h
  funext i
  unfold lvC up1
  by_cases hi : i = j
  · rw [if_pos hi, hi, up2_eq]
  · rw [if_neg hi, up2_ne (by omega)]
theorem lvL_up {M : Mt} {lv k j : Nat} {v : Int32} (h : k = 22 * lv + 17 + j) : lvL (up2 M 78 k v) lv = up1 (lvL M lv) j v := by
  subst h
  funext i
  unfold lvL up1
  by_cases hi : i = j
  · rw [if_pos hi, hi, up2_eq]
  · rw [if_neg hi, up2_ne (by omega)]
theorem lvL_ne {M : Mt} {lv k : Nat} {v : Int32} (h : k < 22 * lv + 17) : lvL (up2 M 78 k v) lv = lvL M lv := by
  funext i
  unfold lvL
  rw [up2_ne (by omega)]
theorem lvC_76 {M : Mt} {lv a k : Nat} {v : Int32} (h : ¬ 78 = a) : lvC (up2 M a k v) lv = lvC M lv := by
  funext i
  unfold lvC
  rw [up2_ne (by omega)]
theorem lvL_76 {M : Mt} {lv a k : Nat} {v : Int32} (h : ¬ 78 = a) : lvL (up2 M a k v) lv = lvL M lv := by
  funext i
  unfold lvL
  rw [up2_ne (by omega)]
theorem run0 {n : Nat} {dv : Nat → Int32} {m : Nat} {s : TSt} : hearF n (dv m) m (runF n dv (nI 0) m s) = runF n dv (nI 0) (m + 1) s := by
  show _ = if tb (nI 0) m = true then _ else _
  rw [tb_0, if_neg (by decide)]
theorem actS_0 {a : Int32} {p d o : Nat} {s : TSt} (h : (kdD a).toInt = 0) : actS a p s d o = doneS (buryC s.1 o) s d p := by
  unfold actS; rw [if_pos (nI_of_toInt h (by decide))]
theorem actS_1 {a : Int32} {p d o : Nat} {s : TSt} (h : (kdD a).toInt = 1) : actS a p s d o = if s.1 (10 + d) = -9 ∧ s.1 (10 + o) = -9 then doneS (joinC s.1 d o) s d p else fineS s d := by
  have e : kdD a = nI 1 := nI_of_toInt h (by decide)
  unfold actS; rw [if_neg (by rw [e]; decide), if_pos e]
theorem actS_2 {a : Int32} {p d o : Nat} {s : TSt} (h : (kdD a).toInt = 2) : actS a p s d o = if 0 < s.1 (5 + d) then doneS (giveC s.1 d o) s d p else fineS s d := by
  have e : kdD a = nI 2 := nI_of_toInt h (by decide)
  unfold actS; rw [if_neg (by rw [e]; decide), if_neg (by rw [e]; decide), if_pos e]
theorem actS_3 {a : Int32} {p d o : Nat} {s : TSt} (h : (kdD a).toInt < 0 ∨ 2 < (kdD a).toInt) : actS a p s d o = doneS (up1 s.1 d (sndD a)) s d p := by
  unfold actS; rw [if_neg (ne_nI (k := 0) (by omega) (by decide)), if_neg (ne_nI (k := 1) (by omega) (by decide)), if_neg (ne_nI (k := 2) (by omega) (by decide))]
theorem bg_step {n g : Nat} {c pw : Row} {v : Int32} (h : ∀ i, i < g → i < n → c i = pw i) (hv : g < n → v = pw g) : ∀ i, i < g + 1 → i < n → up1 c g v i = pw i := by
  intro i hi hin
  by_cases e : i = g
  · rw [e, up1_eq]; exact hv (e ▸ hin)
  · rw [up1_ne e]; exact h i (by omega) hin
theorem band_t {x y : Bool} (hx : x = true) (hy : y = true) : (x && y) = true := by rw [hx, hy]; rfl
theorem band_f1 {x y : Bool} (hx : x = false) : (x && y) = false := by rw [hx]; rfl
theorem band_f2 {x y : Bool} (hy : y = false) : (x && y) = false := by rw [hy, Bool.and_false]
theorem gt_of {x : Int32} (h : ¬ x ≤ 0) : 0 < x := Int32.not_le.mp h
theorem ngt_of {x : Int32} (h : x ≤ 0) : ¬ 0 < x := Int32.not_lt.mpr h
theorem lvC_up' {M N : Mt} {lv k j : Nat} {v : Int32} (m : N = up2 M 78 k v) (h : k = 22 * lv + j) : lvC N lv = up1 (lvC M lv) j v := m ▸ lvC_up h
theorem lvL_up' {M N : Mt} {lv k j : Nat} {v : Int32} (m : N = up2 M 78 k v) (h : k = 22 * lv + 17 + j) : lvL N lv = up1 (lvL M lv) j v := m ▸ lvL_up h
theorem lvL_ne' {M N : Mt} {lv k : Nat} {v : Int32} (m : N = up2 M 78 k v) (h : k < 22 * lv + 17) : lvL N lv = lvL M lv := m ▸ lvL_ne h
theorem act_no {o : Int32} {s s' : TSt} {n dr : Nat} {f : Nat → TSt} (ho : (o = -9 ∧ s' = fineS s dr) ∨ ∃ z, z < n ∧ o = nI z ∧ s' = f z) (hn : n ≤ 5) (h : o = -9) : s' = fineS s dr := by
  rcases ho with ⟨-, e⟩ | ⟨z, hz, rfl, -⟩
  · exact e
  · exact absurd h (nI_m9' (by omega))
theorem act_yes {o : Int32} {s s' : TSt} {n dr : Nat} {f : Nat → TSt} (ho : (o = -9 ∧ s' = fineS s dr) ∨ ∃ z, z < n ∧ o = nI z ∧ s' = f z) (h : ¬ o = -9) : ∃ z, z < n ∧ o = nI z ∧ s' = f z := by
  rcases ho with ⟨e, -⟩ | e
  · exact absurd e h
  · exact e
theorem act_d0 {a : Int32} {p d o : Nat} {s : TSt} (h : kdD a = nI 0) : actS a p s d o = doneS (buryC s.1 o) s d p := by unfold actS; rw [if_pos h]
theorem act_d1 {a : Int32} {p d o : Nat} {s : TSt} (h : kdD a = nI 1) (hc : s.1 (10 + d) = -9 ∧ s.1 (10 + o) = -9) : actS a p s d o = doneS (joinC s.1 d o) s d p := by unfold actS; rw [if_neg (by rw [h]; decide), if_pos h, if_pos hc]
theorem act_f1 {a : Int32} {p d o : Nat} {s : TSt} (h : kdD a = nI 1) (hc : ¬ (s.1 (10 + d) = -9 ∧ s.1 (10 + o) = -9)) : actS a p s d o = fineS s d := by unfold actS; rw [if_neg (by rw [h]; decide), if_pos h, if_neg hc]
theorem act_d2 {a : Int32} {p d o : Nat} {s : TSt} (h : kdD a = nI 2) (hc : 0 < s.1 (5 + d)) : actS a p s d o = doneS (giveC s.1 d o) s d p := by unfold actS; rw [if_neg (by rw [h]; decide), if_neg (by rw [h]; decide), if_pos h, if_pos hc]
theorem act_f2 {a : Int32} {p d o : Nat} {s : TSt} (h : kdD a = nI 2) (hc : ¬ 0 < s.1 (5 + d)) : actS a p s d o = fineS s d := by unfold actS; rw [if_neg (by rw [h]; decide), if_neg (by rw [h]; decide), if_pos h, if_neg hc]
theorem act_d3 {a : Int32} {p d o : Nat} {s : TSt} (h0 : ¬ kdD a = nI 0) (h1 : ¬ kdD a = nI 1) (h2 : ¬ kdD a = nI 2) : actS a p s d o = doneS (up1 s.1 d (sndD a)) s d p := by unfold actS; rw [if_neg h0, if_neg h1, if_neg h2]
theorem act_rd {N N0 : Mt} {lv d j : Nat} {x w : Int32} (h : lvC N0 lv = up1 (lvC N lv) (17 + d) x) (e : w = N0 78 (22 * lv + 10 + j)) (hj : j < 5) : w = lvC N lv (10 + j) := by
  have e1 : N0 78 (22 * lv + 10 + j) = lvC N0 lv (10 + j) := by unfold lvC; rw [Nat.add_assoc]
  rw [e, e1, h, up1_ne (by omega)]
theorem buryR_in {c : Row} {n z k d : Nat} {x : Int32} (hn : n ≤ 5) (hz : z < n) (hk : k < n) (e : c (10 + z) = nI k) : HE n (up1 (up1 (up1 (up1 c (17 + d) x) 15 (up1 c (17 + d) x 15 &&& (bitI z ^^^ (-1)))) (10 + z) (-9)) (10 + k) (-9)) (buryC c z) := by
  unfold buryC unwed
  rw [e, if_neg (nI_m9' (by omega)), nI_clamp (by omega)]
  refine ⟨fun g hg => ⟨?_, ?_, ?_⟩, ?_, ?_⟩
  · rw [up1_ne (by omega), up1_ne (by omega), up1_ne (by omega), up1_ne (by omega), up1_ne (by omega), up1_ne (by omega), up1_ne (by omega)]
  · rw [up1_ne (by omega), up1_ne (by omega), up1_ne (by omega), up1_ne (by omega), up1_ne (by omega), up1_ne (by omega), up1_ne (by omega)]
  · by_cases h1 : g = z
    · subst h1
      by_cases h2 : g = k
      · subst h2; rw [up1_eq, up1_ne (by omega), up1_eq]
      · rw [up1_ne (by omega), up1_eq, up1_ne (by omega), up1_eq]
    · by_cases h2 : g = k
      · subst h2; rw [up1_eq, up1_ne (by omega), up1_ne (by omega), up1_eq]
      · rw [up1_ne (by omega), up1_ne (by omega), up1_ne (by omega), up1_ne (by omega), up1_ne (by omega), up1_ne (by omega), up1_ne (by omega)]
  · rw [up1_ne (by omega), up1_ne (by omega), up1_eq, up1_eq, up1_ne (by omega)]; rfl
  · rw [up1_ne (by omega), up1_ne (by omega), up1_ne (by omega), up1_ne (by omega), up1_ne (by omega), up1_ne (by omega), up1_ne (by omega)]
theorem buryR_out {c : Row} {n z d : Nat} {x : Int32} (hn : n ≤ 5) (hz : z < n) (e : c (10 + z) = -9) : HE n (up1 (up1 (up1 c (17 + d) x) 15 (up1 c (17 + d) x 15 &&& (bitI z ^^^ (-1)))) (10 + z) (-9)) (buryC c z) := by
  unfold buryC unwed
  rw [if_pos e]
  refine ⟨fun g hg => ⟨?_, ?_, ?_⟩, ?_, ?_⟩
  · rw [up1_ne (by omega), up1_ne (by omega), up1_ne (by omega), up1_ne (by omega), up1_ne (by omega)]
  · rw [up1_ne (by omega), up1_ne (by omega), up1_ne (by omega), up1_ne (by omega), up1_ne (by omega)]
  · by_cases h1 : g = z
    · subst h1; rw [up1_eq, up1_ne (by omega), up1_eq]
    · rw [up1_ne (by omega), up1_ne (by omega), up1_ne (by omega), up1_ne (by omega), up1_ne (by omega)]
  · rw [up1_ne (by omega), up1_eq, up1_eq, up1_ne (by omega)]; rfl
  · rw [up1_ne (by omega), up1_ne (by omega), up1_ne (by omega), up1_ne (by omega), up1_ne (by omega)]
theorem rdC {M : Mt} {lv i j : Nat} (h : i = 22 * lv + j) : M 78 i = lvC M lv j := by subst h; rfl
theorem lay_step {M N P : Mt} {f t g : Nat} (h : ∀ k, k < g → P 78 (22 * t + k) = M 78 (22 * f + k)) (m : N = up2 P 78 (22 * t + g) (P 78 (22 * f + g))) (e : P 78 (22 * f + g) = M 78 (22 * f + g)) (hg : g < 22) : ∀ k, k < g + 1 → N 78 (22 * t + k) = M 78 (22 * f + k) := by
  intro k hk
  by_cases he : k = g
  · rw [he, m, up2_eq, e]
  · rw [m, up2_ne (by omega)]; exact h k (by omega)
theorem du_step {n g lv : Nat} {pw : Row} {N P : Mt} {v : Int32} (h : ∀ z, z < g → z < n → lvL P lv z = pw z) (m : N = up2 P 78 (22 * lv + 17 + g) v) (e : g < n → v = pw g) : ∀ z, z < g + 1 → z < n → lvL N lv z = pw z := by
  intro z hz hn
  rw [lvL_up' (j := g) m rfl]
  by_cases he : z = g
  · rw [he, up1_eq]; exact e (he ▸ hn)
  · rw [up1_ne he]; exact h z (by omega) hn
theorem hear_0 {n : Nat} {a : Int32} {p : Nat} {s : TSt} (h : dorI n a s = 0) (h2 : bears n s.1 (fstD a) = 0) : hearF n a p s = s := by unfold hearF failS; rw [if_pos h, if_pos h2]
theorem hear_b {n : Nat} {a : Int32} {p : Nat} {s : TSt} (h : dorI n a s = 0) (h2 : ¬ bears n s.1 (fstD a) = 0) : hearF n a p s = fineS s (lsN (bears n s.1 (fstD a))) := by unfold hearF failS; rw [if_pos h, if_neg h2]
theorem hear_o {n : Nat} {a : Int32} {p d : Nat} {s : TSt} (h : ¬ dorI n a s = 0) (hd : lsN (dorI n a s) = d) (h2 : othI n a s d = 0) : hearF n a p s = fineS s d := by unfold hearF; rw [if_neg h, hd, if_pos h2]
theorem hear_a {n : Nat} {a : Int32} {p d o : Nat} {s : TSt} (h : ¬ dorI n a s = 0) (hd : lsN (dorI n a s) = d) (h2 : isL (othI n a s d) o) (ho : o < 5) : hearF n a p s = actS a p s d o := by
  unfold hearF
  rw [if_neg h, hd, if_neg, lsN_eq h2 ho]
  intro e
  have := h2.1
  rw [e, show (0 : Int32) = nI 0 from rfl, tb_0] at this
  cases this
theorem add_0 (x : Int32) : x + nI 0 = x := by rw [show nI 0 = (0 : Int32) from rfl]; exact Int32.add_zero x
/-- the night is over -/
def dawnS (s : TSt) : TSt := (up1 s.1 16 (s.1 16 + nI 1), s.2)
theorem ru_k {n m lv : Nat} {dv : Nat → Int32} {w : Int32} {s : TSt} {N : Mt} (h : shL n lv N (runF n dv w m s)) (ht : tb w m = true) : shL n lv N (runF n dv w (m + 1) s) := by
  show shL n lv N (if tb w m = true then _ else _)
  rw [if_pos ht]; exact h
theorem ru_k2 {n m : Nat} {dv : Nat → Int32} {w x : Int32} {s : TSt} (h : x = (runF n dv w m s).2.2.2) (ht : tb w m = true) : x = (runF n dv w (m + 1) s).2.2.2 := by
  show x = (if tb w m = true then _ else _ : TSt).2.2.2
  rw [if_pos ht]; exact h
theorem ru_e {n m : Nat} {dv : Nat → Int32} {w : Int32} {s : TSt} (ht : tb w m = false) : runF n dv w (m + 1) s = hearF n (dv m) m (runF n dv w m s) := by
  show (if tb w m = true then _ else _) = _
  rw [if_neg (by rw [ht]; decide)]
theorem ru_s {n m lv t : Nat} {w : Int32} {s : TSt} {N M P : Mt} (h : shL n lv N (hearF n (deedV (fun i => P 80 (24 * t + i)) m) m (runF n (deedV (fun i => M 80 (24 * t + i))) w m s))) (h80 : P 80 = M 80) (ht : tb w m = false) : shL n lv N (runF n (deedV (fun i => M 80 (24 * t + i))) w (m + 1) s) := by
  rw [ru_e ht, ← h80]; rw [← h80] at h; exact h
theorem ru_d {n m t : Nat} {w x : Int32} {s : TSt} {M P : Mt} (h : (hearF n (deedV (fun i => P 80 (24 * t + i)) m) m (runF n (deedV (fun i => M 80 (24 * t + i))) w m s)).2.2.2 = (runF n (deedV (fun i => M 80 (24 * t + i))) w m s).2.2.2 ||| bitI m) (h80 : P 80 = M 80) (ht : tb w m = false) (hx : x = (runF n (deedV (fun i => M 80 (24 * t + i))) w m s).2.2.2) : x ||| bitI m = (runF n (deedV (fun i => M 80 (24 * t + i))) w (m + 1) s).2.2.2 := by
  rw [ru_e ht, hx, ← h80]; rw [← h80] at h; exact h.symm
theorem ru_d2 {n m t : Nat} {w x : Int32} {s : TSt} {M P : Mt} (h : (hearF n (deedV (fun i => P 80 (24 * t + i)) m) m (runF n (deedV (fun i => M 80 (24 * t + i))) w m s)).2.2.2 = (runF n (deedV (fun i => M 80 (24 * t + i))) w m s).2.2.2) (h80 : P 80 = M 80) (ht : tb w m = false) (hx : x = (runF n (deedV (fun i => M 80 (24 * t + i))) w m s).2.2.2) : x = (runF n (deedV (fun i => M 80 (24 * t + i))) w (m + 1) s).2.2.2 := by
  rw [ru_e ht, hx, ← h80]; rw [← h80] at h; exact h.symm
theorem wed_no {x : Int32} {n : Nat} (h : x = -9 ∨ ∃ k, k < n ∧ x = nI k) (hno : ¬ ∃ k, k < n ∧ x = nI k) : x = -9 := h.resolve_right hno
