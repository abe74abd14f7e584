/-! WHAT ALWAYS HOLDS of the numbers, and which of them a method writes -/
def cle (x : Int32) (b : Nat) : Prop := ∃ n, n ≤ b ∧ x = nI n
def wedv (x : Int32) : Prop := x = -9 ∨ cle x 4
def isScr (i : Nat) : Prop := i = 1 ∨ i = 70 ∨ i = 72 ∨ i = 74
def isHs (i : Nat) : Prop := i = 4 ∨ i = 7 ∨ i = 11 ∨ i = 17 ∨ i = 22 ∨ i = 27 ∨ i = 34 ∨ i = 39 ∨ i = 44 ∨ i = 49 ∨ i = 54
/-- the numbers that a cell may hold -/
def Rg (i k : Nat) (x : Int32) : Prop :=
  (isScr i → k = 1 → cle x 24) ∧ (isHs i → k = 2 → cle x 5) ∧ (i = 0 → k = 14 → cle x 12) ∧ (i = 64 → k = 2 → cle x 6) ∧
  (i = 76 → (k = 0 → cle x 5) ∧ (k = 4 → cle x 24) ∧ (k = 9 → cle x 11) ∧ (k = 15 → cle x 6)) ∧ (i = 81 → cle x 24) ∧ (i = 86 → cle x 4) ∧ (i = 85 → cle x 10) ∧
  (i = 78 → 10 ≤ k % 22 → k % 22 ≤ 14 → wedv x) ∧ (i = 82 → 10 ≤ k % 17 → k % 17 ≤ 14 → wedv x) ∧ (i = 89 → 10 ≤ k % 17 → k % 17 ≤ 14 → wedv x)
def Inv (M : Mt) : Prop := ∀ i k, Rg i k (M i k)
/-- S: what may have been written since M0 -/
def St (S : Nat → Nat → Prop) (A M : Mt) : Prop := Inv M ∧ ∀ i k, ¬ S i k → M i k = A i k
theorem St.rf {S : Nat → Nat → Prop} {M : Mt} (h : Inv M) : St S M M := ⟨h, fun _ _ _ => rfl⟩
theorem St.tr {S S' : Nat → Nat → Prop} {A M M' : Mt} (h : St S A M) (h' : St S' M M') (hs : ∀ i k, S' i k → S i k) : St S A M' := ⟨h'.1, fun i k hn => (h'.2 i k (fun z => hn (hs i k z))).trans (h.2 i k hn)⟩
theorem St.up {S : Nat → Nat → Prop} {A M : Mt} {a z : Nat} {v : Int32} (h : St S A M) (hr : Rg a z v) (hs : S a z) : St S A (up2 M a z v) := by
  refine ⟨fun i k => ?_, fun i k hn => ?_⟩
  · by_cases e : i = a ∧ k = z
    · obtain ⟨rfl, rfl⟩ := e
      rw [up2_eq]; exact hr
    · rw [up2_ne e]; exact h.1 i k
  · rw [up2_ne (fun e => hn (by rw [e.1, e.2]; exact hs))]
    exact h.2 i k hn
theorem cle_lit (n b : Nat) (h : n ≤ b) : cle (nI n) b := ⟨n, h, rfl⟩
/-- a place of which nothing is asked -/
theorem Rg.free {i k : Nat} {x : Int32} (h : ¬ isScr i ∧ ¬ isHs i ∧ i ≠ 0 ∧ i ≠ 64 ∧ i ≠ 76 ∧ i ≠ 81 ∧ i ≠ 86 ∧ i ≠ 85 ∧ i ≠ 78 ∧ i ≠ 82 ∧ i ≠ 89) : Rg i k x := by
  obtain ⟨h1, h2, h3, h4, h5, h6, h7, h8, h9, h10, h11⟩ := h
  exact ⟨fun z => absurd z h1, fun z => absurd z h2, fun z => absurd z h3, fun z => absurd z h4, fun z => absurd z h5, fun z => absurd z h6, fun z => absurd z h7, fun z => absurd z h8, fun z => absurd z h9, fun z => absurd z h10, fun z => absurd z h11⟩
section WpN
variable {d j pc : Nat} {ls st : List Value} {M : Mt} {L : Lt} {Q : Option Value → Mt → Lt → Prop}
theorem w_pushN (n : Nat) (pc' : Nat) (h : kB j pc (nI n) pc' = true) (k : Wp d j pc' ls (.int (nI n) :: st) M L Q) : Wp d j pc ls st M L Q := w_push _ pc' h k
theorem w_addN {a b : Nat} (c pc' : Nat) (h : isI j pc .iadd pc' = true) (hc : a + b = c) (k : Wp d j pc' ls (.int (nI c) :: st) M L Q) : Wp d j pc ls (.int (nI b) :: .int (nI a) :: st) M L Q := by
  subst hc
  refine w_pure .iadd pc' h rfl rfl ?_
  rw [nI_add]; exact k
theorem w_subN {a b : Nat} (c pc' : Nat) (h : isI j pc .isub pc' = true) (hb : b ≤ a) (hc : a - b = c) (k : Wp d j pc' ls (.int (nI c) :: st) M L Q) : Wp d j pc ls (.int (nI b) :: .int (nI a) :: st) M L Q := by
  subst hc
  refine w_pure .isub pc' h rfl rfl ?_
  rw [pk_sub hb]; exact k
theorem w_mulN {a b : Nat} (c pc' : Nat) (h : isI j pc .imul pc' = true) (hc : a * b = c) (k : Wp d j pc' ls (.int (nI c) :: st) M L Q) : Wp d j pc ls (.int (nI b) :: .int (nI a) :: st) M L Q := by
  subst hc
  refine w_pure .imul pc' h rfl rfl ?_
  rw [pk_mul]; exact k
theorem w_divN {a b : Nat} (c pc' : Nat) (h : isI j pc .idiv pc' = true) (hb : 0 < b) (hb2 : b < 2 ^ 31) (ha : a < 2 ^ 31) (hc : a / b = c) (k : Wp d j pc' ls (.int (nI c) :: st) M L Q) : Wp d j pc ls (.int (nI b) :: .int (nI a) :: st) M L Q := by
  subst hc
  refine w_div pc' h (nI_ne0 hb hb2) ?_
  rw [pk_div ha hb hb2]; exact k
theorem w_remN {a b : Nat} (c pc' : Nat) (h : isI j pc .irem pc' = true) (hb : 0 < b) (hb2 : b < 2 ^ 31) (ha : a < 2 ^ 31) (hc : a % b = c) (k : Wp d j pc' ls (.int (nI c) :: st) M L Q) : Wp d j pc ls (.int (nI b) :: .int (nI a) :: st) M L Q := by
  subst hc
  refine w_rem pc' h (nI_ne0 hb hb2) ?_
  rw [pk_rem ha hb hb2]; exact k
theorem w_iincN {z a : Nat} (b pc' : Nat) (h : isI j pc (.iinc z 1) pc' = true) (hl : ls[z]? = some (.int (nI a))) (hz : z < ls.length) (hn : noL ls z = true) (hb : a + 1 = b) (k : Wp d j pc' (ls.set z (.int (nI b))) st M L Q) : Wp d j pc ls st M L Q := by
  subst hb
  refine w_store (ls' := ls.set z (.int (nI (a + 1)))) (st' := st) (.iinc z 1) pc' h rfl ?_ k
  simp only [storeOp, hl, st1]
  rw [if_pos ⟨hz, hn⟩, nI_succ]
  rfl
theorem w_ialdN {a n k : Nat} (pc' : Nat) (h : isI j pc .iaload pc' = true) (hs : shp[a]? = some (100, List.replicate n 0)) (hn : n < 2 ^ 31) (hk : k < n) (kk : Wp d j pc' ls (.int (M a k) :: st) M L Q) : Wp d j pc ls (.int (nI k) :: .ref a :: st) M L Q := by
  have e := nI_clamp (show k < 2 ^ 31 by omega)
  refine w_iald pc' h hs ⟨nI_pos (by omega), by rw [e]; exact hk⟩ ?_
  rw [e]; exact kk
theorem w_iastN {a n k : Nat} {v : Int32} (pc' : Nat) (h : isI j pc .iastore pc' = true) (hs : shp[a]? = some (100, List.replicate n 0)) (hn : n < 2 ^ 31) (hk : k < n) (kk : Wp d j pc' ls st (up2 M a k v) L Q) : Wp d j pc ls (.int v :: .int (nI k) :: .ref a :: st) M L Q := by
  have e := nI_clamp (show k < 2 ^ 31 by omega)
  refine w_iast pc' h hs ⟨nI_pos (by omega), by rw [e]; exact hk⟩ ?_
  rw [e]; exact kk
theorem w_ceqN {a b : Nat} (t f : Nat) (h : icB j pc .eq t f = true) (ha : a < 2 ^ 31) (hb : b < 2 ^ 31) (kt : a = b → Wp d j t ls st M L Q) (kf : ¬ a = b → Wp d j f ls st M L Q) : Wp d j pc ls (.int (nI b) :: .int (nI a) :: st) M L Q := w_ceq t f h (fun z => kt ((nI_eq ha hb).mp z)) (fun z => kf (fun e => z ((nI_eq ha hb).mpr e)))
theorem w_cneN {a b : Nat} (t f : Nat) (h : icB j pc .ne t f = true) (ha : a < 2 ^ 31) (hb : b < 2 ^ 31) (kt : ¬ a = b → Wp d j t ls st M L Q) (kf : a = b → Wp d j f ls st M L Q) : Wp d j pc ls (.int (nI b) :: .int (nI a) :: st) M L Q := w_cne t f h (fun z => kt (fun e => z ((nI_eq ha hb).mpr e))) (fun z => kf ((nI_eq ha hb).mp z))
theorem w_cltN {a b : Nat} (t f : Nat) (h : icB j pc .lt t f = true) (ha : a < 2 ^ 31) (hb : b < 2 ^ 31) (kt : a < b → Wp d j t ls st M L Q) (kf : b ≤ a → Wp d j f ls st M L Q) : Wp d j pc ls (.int (nI b) :: .int (nI a) :: st) M L Q := w_clt t f h (fun z => kt ((nI_ltI ha hb).mp z)) (fun z => kf (Nat.not_lt.mp (fun e => z ((nI_ltI ha hb).mpr e))))
theorem w_cgeN {a b : Nat} (t f : Nat) (h : icB j pc .ge t f = true) (ha : a < 2 ^ 31) (hb : b < 2 ^ 31) (kt : b ≤ a → Wp d j t ls st M L Q) (kf : a < b → Wp d j f ls st M L Q) : Wp d j pc ls (.int (nI b) :: .int (nI a) :: st) M L Q := w_cge t f h (fun z => kt ((nI_leI hb ha).mp z)) (fun z => kf (Nat.not_le.mp (fun e => z ((nI_leI hb ha).mpr e))))
theorem w_cgtN {a b : Nat} (t f : Nat) (h : icB j pc .gt t f = true) (ha : a < 2 ^ 31) (hb : b < 2 ^ 31) (kt : b < a → Wp d j t ls st M L Q) (kf : a ≤ b → Wp d j f ls st M L Q) : Wp d j pc ls (.int (nI b) :: .int (nI a) :: st) M L Q := w_cgt t f h (fun z => kt ((nI_ltI hb ha).mp z)) (fun z => kf (Nat.not_lt.mp (fun e => z ((nI_ltI hb ha).mpr e))))
theorem w_cleN {a b : Nat} (t f : Nat) (h : icB j pc .le t f = true) (ha : a < 2 ^ 31) (hb : b < 2 ^ 31) (kt : a ≤ b → Wp d j t ls st M L Q) (kf : b < a → Wp d j f ls st M L Q) : Wp d j pc ls (.int (nI b) :: .int (nI a) :: st) M L Q := w_cle t f h (fun z => kt ((nI_leI ha hb).mp z)) (fun z => kf (Nat.not_le.mp (fun e => z ((nI_leI ha hb).mpr e))))
theorem w_ieqN {a : Nat} (t f : Nat) (h : ifB j pc .eq t f = true) (ha : a < 2 ^ 31) (kt : a = 0 → Wp d j t ls st M L Q) (kf : ¬ a = 0 → Wp d j f ls st M L Q) : Wp d j pc ls (.int (nI a) :: st) M L Q := w_ieq t f h (fun z => kt ((nI_eq ha (by decide)).mp (z.trans nI_0.symm))) (fun z => kf (fun e => z (by rw [e]; exact nI_0)))
theorem w_ineN {a : Nat} (t f : Nat) (h : ifB j pc .ne t f = true) (ha : a < 2 ^ 31) (kt : ¬ a = 0 → Wp d j t ls st M L Q) (kf : a = 0 → Wp d j f ls st M L Q) : Wp d j pc ls (.int (nI a) :: st) M L Q := w_ine t f h (fun z => kt (fun e => z (by rw [e]; exact nI_0))) (fun z => kf ((nI_eq ha (by decide)).mp (z.trans nI_0.symm)))
theorem w_iltN {a : Nat} (t f : Nat) (h : ifB j pc .lt t f = true) (ha : a < 2 ^ 31) (kf : Wp d j f ls st M L Q) : Wp d j pc ls (.int (nI a) :: st) M L Q := w_ilt t f h (fun z => absurd z (nI_pos ha)) (fun _ => kf)
/-- a field whose number is bounded -/
theorem w_getN {ci k a B : Nat} {dl : List Nat} (pc' : Nat) (h : gB j pc ci k pc' = true) (hs : shp[a]? = some (ci, dl)) (hd : dl[k]? = some 0) (hr : cle (M a k) B) (kk : ∀ n : Nat, n ≤ B → M a k = nI n → Wp d j pc' ls (.int (nI n) :: st) M L Q) : Wp d j pc ls (.ref a :: st) M L Q := by
  obtain ⟨n, h1, h2⟩ := hr
  refine w_getI pc' h hs hd ?_
  rw [h2]
  exact kk n h1 h2
/-- writes, of which only what always holds is kept -/
theorem w_putW {S : Nat → Nat → Prop} {A : Mt} {ci k a : Nat} {dl : List Nat} {v : Int32} (pc' : Nat) (h : pB j pc ci k .int pc' = true) (hs : shp[a]? = some (ci, dl)) (hd : dl[k]? = some 0) (hS : St S A M) (hr : Rg a k v) (hm : S a k) (kk : ∀ M' : Mt, St S A M' → M' a k = v → (∀ x y, ¬ (x = a ∧ y = k) → M' x y = M x y) → Wp d j pc' ls st M' L Q) : Wp d j pc ls (.int v :: .ref a :: st) M L Q := w_putI pc' h hs hd (kk _ (hS.up hr hm) up2_eq (fun _ _ e => up2_ne e))
theorem w_iastW {S : Nat → Nat → Prop} {A : Mt} {a n k : Nat} {v : Int32} (pc' : Nat) (h : isI j pc .iastore pc' = true) (hs : shp[a]? = some (100, List.replicate n 0)) (hn : n < 2 ^ 31) (hk : k < n) (hS : St S A M) (hr : Rg a k v) (hm : S a k) (kk : ∀ M' : Mt, St S A M' → M' a k = v → (∀ x y, ¬ (x = a ∧ y = k) → M' x y = M x y) → Wp d j pc' ls st M' L Q) : Wp d j pc ls (.int v :: .int (nI k) :: .ref a :: st) M L Q := w_iastN pc' h hs hn hk (kk _ (hS.up hr hm) up2_eq (fun _ _ e => up2_ne e))
theorem cat_ref (r : Nat) : (Value.ref r).category = 1 := rfl
theorem w_callV0 {r : Nat} {dl : List Nat} {rest : List Value} (j' t mx pc' : Nat) (h : cvB j pc j' 0 t mx pc' = true) (hs : shp[r]? = some (t, dl)) (hcat : catS rest ≤ 8) (hm : 1 ≤ mx) (hd : 0 < d) (k : Wp (d - 1) j' 0 (.ref r :: List.replicate (mx - 1) .null) [] M L (fun rv M' L' => Wp d j pc' ls (rv.toList ++ rest) M' L' Q)) : Wp d j pc ls (.ref r :: rest) M L Q := w_callV j' [] rest t mx pc' h rfl hs hcat rfl hm hd k
theorem w_callV1 {r : Nat} {dl : List Nat} {rest : List Value} {a : Value} (j' t mx pc' : Nat) (h : cvB j pc j' 1 t mx pc' = true) (hs : shp[r]? = some (t, dl)) (hcat : catS rest ≤ 8) (ha : a.category = 1) (hm : 2 ≤ mx) (hd : 0 < d) (k : Wp (d - 1) j' 0 (.ref r :: a :: List.replicate (mx - 2) .null) [] M L (fun rv M' L' => Wp d j pc' ls (rv.toList ++ rest) M' L' Q)) : Wp d j pc ls (a :: .ref r :: rest) M L Q := w_callV j' [a] rest t mx pc' h rfl hs hcat (by simp [layA, cat_ref, ha]) (by simp [layA, cat_ref, ha]; exact hm) hd k
theorem w_callV2 {r : Nat} {dl : List Nat} {rest : List Value} {a b : Value} (j' t mx pc' : Nat) (h : cvB j pc j' 2 t mx pc' = true) (hs : shp[r]? = some (t, dl)) (hcat : catS rest ≤ 8) (ha : a.category = 1) (hb : b.category = 1) (hm : 3 ≤ mx) (hd : 0 < d) (k : Wp (d - 1) j' 0 (.ref r :: a :: b :: List.replicate (mx - 3) .null) [] M L (fun rv M' L' => Wp d j pc' ls (rv.toList ++ rest) M' L' Q)) : Wp d j pc ls (b :: a :: .ref r :: rest) M L Q := w_callV j' [a, b] rest t mx pc' h rfl hs hcat (by simp [layA, cat_ref, ha, hb]) (by simp [layA, cat_ref, ha, hb]; exact hm) hd k
theorem w_callV3 {r : Nat} {dl : List Nat} {rest : List Value} {a b c : Value} (j' t mx pc' : Nat) (h : cvB j pc j' 3 t mx pc' = true) (hs : shp[r]? = some (t, dl)) (hcat : catS rest ≤ 8) (ha : a.category = 1) (hb : b.category = 1) (hc : c.category = 1) (hm : 4 ≤ mx) (hd : 0 < d) (k : Wp (d - 1) j' 0 (.ref r :: a :: b :: c :: List.replicate (mx - 4) .null) [] M L (fun rv M' L' => Wp d j pc' ls (rv.toList ++ rest) M' L' Q)) : Wp d j pc ls (c :: b :: a :: .ref r :: rest) M L Q := w_callV j' [a, b, c] rest t mx pc' h rfl hs hcat (by simp [layA, cat_ref, ha, hb, hc]) (by simp [layA, cat_ref, ha, hb, hc]; exact hm) hd k
theorem w_callV4 {r : Nat} {dl : List Nat} {rest : List Value} {a b c e : Value} (j' t mx pc' : Nat) (h : cvB j pc j' 4 t mx pc' = true) (hs : shp[r]? = some (t, dl)) (hcat : catS rest ≤ 8) (ha : a.category = 1) (hb : b.category = 1) (hc : c.category = 1) (he : e.category = 1) (hm : 5 ≤ mx) (hd : 0 < d) (k : Wp (d - 1) j' 0 (.ref r :: a :: b :: c :: e :: List.replicate (mx - 5) .null) [] M L (fun rv M' L' => Wp d j pc' ls (rv.toList ++ rest) M' L' Q)) : Wp d j pc ls (e :: c :: b :: a :: .ref r :: rest) M L Q := w_callV j' [a, b, c, e] rest t mx pc' h rfl hs hcat (by simp [layA, cat_ref, ha, hb, hc, he]) (by simp [layA, cat_ref, ha, hb, hc, he]; exact hm) hd k
theorem w_callV5 {r : Nat} {dl : List Nat} {rest : List Value} {a b c e f : Value} (j' t mx pc' : Nat) (h : cvB j pc j' 5 t mx pc' = true) (hs : shp[r]? = some (t, dl)) (hcat : catS rest ≤ 8) (ha : a.category = 1) (hb : b.category = 1) (hc : c.category = 1) (he : e.category = 1) (hf : f.category = 1) (hm : 6 ≤ mx) (hd : 0 < d) (k : Wp (d - 1) j' 0 (.ref r :: a :: b :: c :: e :: f :: List.replicate (mx - 6) .null) [] M L (fun rv M' L' => Wp d j pc' ls (rv.toList ++ rest) M' L' Q)) : Wp d j pc ls (f :: e :: c :: b :: a :: .ref r :: rest) M L Q := w_callV j' [a, b, c, e, f] rest t mx pc' h rfl hs hcat (by simp [layA, cat_ref, ha, hb, hc, he, hf]) (by simp [layA, cat_ref, ha, hb, hc, he, hf]; exact hm) hd k
theorem w_callS1 {rest : List Value} {a : Value} (j' mx pc' : Nat) (h : csB j pc j' 1 mx pc' = true) (hcat : catS rest ≤ 8) (ha : a.category = 1) (hm : 1 ≤ mx) (hd : 0 < d) (k : Wp (d - 1) j' 0 (a :: List.replicate (mx - 1) .null) [] M L (fun rv M' L' => Wp d j pc' ls (rv.toList ++ rest) M' L' Q)) : Wp d j pc ls (a :: rest) M L Q := w_callS j' [a] rest mx pc' h rfl hcat (by simp [layA, ha]) (by simp [layA, ha]; exact hm) hd k
theorem w_callS2 {rest : List Value} {a b : Value} (j' mx pc' : Nat) (h : csB j pc j' 2 mx pc' = true) (hcat : catS rest ≤ 8) (ha : a.category = 1) (hb : b.category = 1) (hm : 2 ≤ mx) (hd : 0 < d) (k : Wp (d - 1) j' 0 (a :: b :: List.replicate (mx - 2) .null) [] M L (fun rv M' L' => Wp d j pc' ls (rv.toList ++ rest) M' L' Q)) : Wp d j pc ls (b :: a :: rest) M L Q := w_callS j' [a, b] rest mx pc' h rfl hcat (by simp [layA, ha, hb]) (by simp [layA, ha, hb]; exact hm) hd k
theorem w_callS3 {rest : List Value} {a b c : Value} (j' mx pc' : Nat) (h : csB j pc j' 3 mx pc' = true) (hcat : catS rest ≤ 8) (ha : a.category = 1) (hb : b.category = 1) (hc : c.category = 1) (hm : 3 ≤ mx) (hd : 0 < d) (k : Wp (d - 1) j' 0 (a :: b :: c :: List.replicate (mx - 3) .null) [] M L (fun rv M' L' => Wp d j pc' ls (rv.toList ++ rest) M' L' Q)) : Wp d j pc ls (c :: b :: a :: rest) M L Q := w_callS j' [a, b, c] rest mx pc' h rfl hcat (by simp [layA, ha, hb, hc]) (by simp [layA, ha, hb, hc]; exact hm) hd k
theorem w_callS4 {rest : List Value} {a b c e : Value} (j' mx pc' : Nat) (h : csB j pc j' 4 mx pc' = true) (hcat : catS rest ≤ 8) (ha : a.category = 1) (hb : b.category = 1) (hc : c.category = 1) (he : e.category = 1) (hm : 4 ≤ mx) (hd : 0 < d) (k : Wp (d - 1) j' 0 (a :: b :: c :: e :: List.replicate (mx - 4) .null) [] M L (fun rv M' L' => Wp d j pc' ls (rv.toList ++ rest) M' L' Q)) : Wp d j pc ls (e :: c :: b :: a :: rest) M L Q := w_callS j' [a, b, c, e] rest mx pc' h rfl hcat (by simp [layA, ha, hb, hc, he]) (by simp [layA, ha, hb, hc, he]; exact hm) hd k
/-- in(long, long, long) -/
theorem w_callSL {rest : List Value} {x y z : Int64} (j' mx pc' : Nat) (h : csB j pc j' 3 mx pc' = true) (hcat : catS rest ≤ 8) (hm : mx = 6) (hd : 0 < d) (k : Wp (d - 1) j' 0 [.long x, .null, .long y, .null, .long z, .null] [] M L (fun rv M' L' => Wp d j pc' ls (rv.toList ++ rest) M' L' Q)) : Wp d j pc ls (.long z :: .long y :: .long x :: rest) M L Q := by
  subst hm
  exact w_callS j' [.long x, .long y, .long z] rest 6 pc' h rfl hcat rfl (by simp [layA, Value.category]) hd k
end WpN
