/-! THE MEMORY: the world that the two constructors make, its numbers apart. In 'shp' a cell is its tag and, for each of its places, 0 a number, 1 a long, r + 2 the reference r. -/
def shp : List (Nat × List Nat) := [(7, [3, 5, 6, 9, 12, 17, 33, 60, 62, 64, 66, 69, 70, 71, 0, 0, 1]),
  (2, [4, 0]),
  (100, List.replicate 24 0),
  (102, [72, 74, 76]),
  (1, [7, 8, 0]),
  (100, List.replicate 17 0),
  (100, List.replicate 5 0),
  (1, [10, 11, 0]),
  (100, List.replicate 17 0),
  (100, List.replicate 5 0),
  (6, [13, 16, 0, 0]),
  (1, [14, 15, 0]),
  (100, List.replicate 17 0),
  (100, List.replicate 5 0),
  (100, List.replicate 5 0),
  (3, [18, 23, 28, 0, 0, 0]),
  (6, [19, 22, 0, 0]),
  (1, [20, 21, 0]),
  (100, List.replicate 17 0),
  (100, List.replicate 5 0),
  (100, List.replicate 5 0),
  (6, [24, 27, 0, 0]),
  (1, [25, 26, 0]),
  (100, List.replicate 17 0),
  (100, List.replicate 5 0),
  (100, List.replicate 5 0),
  (6, [29, 32, 0, 0]),
  (1, [30, 31, 0]),
  (100, List.replicate 17 0),
  (100, List.replicate 5 0),
  (100, List.replicate 5 0),
  (0, [34, 0, 0, 0, 0]),
  (103, [35, 40, 45, 50, 55]),
  (6, [36, 39, 0, 0]),
  (1, [37, 38, 0]),
  (100, List.replicate 17 0),
  (100, List.replicate 5 0),
  (100, List.replicate 5 0),
  (6, [41, 44, 0, 0]),
  (1, [42, 43, 0]),
  (100, List.replicate 17 0),
  (100, List.replicate 5 0),
  (100, List.replicate 5 0),
  (6, [46, 49, 0, 0]),
  (1, [47, 48, 0]),
  (100, List.replicate 17 0),
  (100, List.replicate 5 0),
  (100, List.replicate 5 0),
  (6, [51, 54, 0, 0]),
  (1, [52, 53, 0]),
  (100, List.replicate 17 0),
  (100, List.replicate 5 0),
  (100, List.replicate 5 0),
  (6, [56, 59, 0, 0]),
  (1, [57, 58, 0]),
  (100, List.replicate 17 0),
  (100, List.replicate 5 0),
  (100, List.replicate 5 0),
  (4, [61]),
  (100, List.replicate 204 0),
  (4, [63]),
  (100, List.replicate 34 0),
  (4, [65]),
  (100, List.replicate 1020 0),
  (5, [67, 68, 0]),
  (100, List.replicate 6 0),
  (100, List.replicate 6 0),
  (100, List.replicate 3 0),
  (100, List.replicate 16 0),
  (100, List.replicate 16 0),
  (2, [73, 0]),
  (100, List.replicate 24 0),
  (2, [75, 0]),
  (100, List.replicate 24 0),
  (2, [77, 0]),
  (100, List.replicate 24 0),
  (8, [0, 79, 80, 81, 0, 82, 83, 0, 0, 0, 84, 0, 85, 86, 87, 0, 88, 89, 1, 90, 91]),
  (100, List.replicate 5 0),
  (100, List.replicate 176 0),
  (100, List.replicate 24 0),
  (100, List.replicate 72 0),
  (100, List.replicate 3 0),
  (100, List.replicate 204 0),
  (100, List.replicate 6 0),
  (100, List.replicate 976 0),
  (100, List.replicate 3 0),
  (100, List.replicate 6 0),
  (100, List.replicate 6 0),
  (101, List.replicate 2 0),
  (100, List.replicate 34 0)]
abbrev Mt : Type := Nat → Nat → Int32
abbrev Lt : Type := Nat → Int64
def fv (M : Mt) (L : Lt) (i k : Nat) : Nat → Value
  | 0 => .int (M i k)
  | 1 => .long (L i)
  | r + 2 => .ref r
def mpx {α β : Type} (f : Nat → α → β) : Nat → List α → List β
  | _, [] => []
  | k, a :: l => f k a :: mpx f (k + 1) l
theorem mpx_get {α β : Type} (f : Nat → α → β) : ∀ (l : List α) (k i : Nat), (mpx f k l)[i]? = (l[i]?).map (f (k + i))
  | [], k, i => by simp [mpx]
  | a :: l, k, 0 => by simp [mpx]
  | a :: l, k, i + 1 => by
    have := mpx_get f l (k + 1) i
    simp only [mpx, List.getElem?_cons_succ, this]
    rw [show k + 1 + i = k + (i + 1) by omega]
theorem mpx_get0 {α β : Type} (f : Nat → α → β) (l : List α) (i : Nat) : (mpx f 0 l)[i]? = (l[i]?).map (f i) := by rw [mpx_get, Nat.zero_add]
theorem mpx_len {α β : Type} (f : Nat → α → β) : ∀ (l : List α) (k : Nat), (mpx f k l).length = l.length
  | [], _ => rfl
  | a :: l, k => by simp [mpx, mpx_len f l (k + 1)]
def cellV (M : Mt) (L : Lt) (i : Nat) (dl : List Nat) : List Value := mpx (fun k f => fv M L i k f) 0 dl
def wOf (M : Mt) (L : Lt) : Wd := mpx (fun i q => (q.1, cellV M L i q.2)) 0 shp
def up2 (M : Mt) (i k : Nat) (v : Int32) : Mt := fun a b => if a = i ∧ b = k then v else M a b
def upL (L : Lt) (i : Nat) (v : Int64) : Lt := fun a => if a = i then v else L a
/-- n numbers of the cell i0 from sp on, laid into the cell i1 from dp on -/
def cpM (M : Mt) (i0 sp i1 dp n : Nat) : Mt := fun a b => if a = i1 ∧ dp ≤ b ∧ b < dp + n then M i0 (sp + (b - dp)) else M a b
theorem wOf_get {M : Mt} {L : Lt} {i : Nat} {t : Nat} {dl : List Nat} (h : shp[i]? = some (t, dl)) : (wOf M L)[i]? = some (t, cellV M L i dl) := by simp [wOf, mpx_get0, h]
theorem cellV_get {M : Mt} {L : Lt} {i k f : Nat} {dl : List Nat} (h : dl[k]? = some f) : (cellV M L i dl)[k]? = some (fv M L i k f) := by simp [cellV, mpx_get0, h]
theorem cellV_len {M : Mt} {L : Lt} {i : Nat} {dl : List Nat} : (cellV M L i dl).length = dl.length := mpx_len _ _ _
theorem wOf_len {M : Mt} {L : Lt} : (wOf M L).length = shp.length := mpx_len _ _ _
theorem cellV_other {M M' : Mt} {L L' : Lt} {i : Nat} {dl : List Nat} (h1 : ∀ k, M' i k = M i k) (h2 : L' i = L i) : cellV M' L' i dl = cellV M L i dl := by
  unfold cellV
  apply List.ext_getElem?
  intro k
  simp only [mpx_get0]
  congr 1
  funext f
  match f with
  | 0 => simp [fv, h1]
  | 1 => simp [fv, h2]
  | r + 2 => rfl
theorem wOf_set {M M' : Mt} {L L' : Lt} {i t : Nat} {dl : List Nat} {vs : List Value} (h : shp[i]? = some (t, dl)) (hv : vs = cellV M' L' i dl) (h1 : ∀ a, a ≠ i → ∀ k, M' a k = M a k) (h2 : ∀ a, a ≠ i → L' a = L a) : (wOf M L).set i (t, vs) = wOf M' L' := by
  apply List.ext_getElem?
  intro a
  rw [List.getElem?_set]
  by_cases e : i = a
  · subst e
    have hl : i < (wOf M L).length := by rw [wOf_len]; exact (List.getElem?_eq_some_iff.mp h).1
    rw [if_pos rfl, if_pos hl, wOf_get h, hv]
  · rw [if_neg e]
    simp only [wOf, mpx_get0]
    congr 1
    funext q
    rw [cellV_other (h1 a (Ne.symm e)) (h2 a (Ne.symm e))]
theorem cellV_setI {M : Mt} {L : Lt} {i k : Nat} {dl : List Nat} {v : Int32} (h : dl[k]? = some 0) : (cellV M L i dl).set k (.int v) = cellV (up2 M i k v) L i dl := by
  apply List.ext_getElem?
  intro a
  rw [List.getElem?_set]
  have hk : k < dl.length := (List.getElem?_eq_some_iff.mp h).1
  by_cases e : k = a
  · subst e
    rw [if_pos rfl, if_pos (by rw [cellV_len]; exact hk), cellV_get h]
    simp [fv, up2]
  · rw [if_neg e]
    simp only [cellV, mpx_get0]
    congr 1
    funext f
    match f with
    | 0 => simp [fv, up2, Ne.symm e]
    | 1 => rfl
    | r + 2 => rfl
theorem cellV_setL {M : Mt} {L : Lt} {i k : Nat} {dl : List Nat} {v : Int64} (h : dl[k]? = some 1) (ho : ∀ a, dl[a]? = some 1 → a = k) : (cellV M L i dl).set k (.long v) = cellV M (upL L i v) i dl := by
  apply List.ext_getElem?
  intro a
  rw [List.getElem?_set]
  have hk : k < dl.length := (List.getElem?_eq_some_iff.mp h).1
  by_cases e : k = a
  · subst e
    rw [if_pos rfl, if_pos (by rw [cellV_len]; exact hk), cellV_get h]
    simp [fv, upL]
  · rw [if_neg e]
    simp only [cellV, mpx_get0]
    cases hf : dl[a]? with
    | none => rfl
    | some f =>
      match f, hf with
      | 0, hf => rfl
      | 1, hf => exact absurd (ho a hf).symm e
      | r + 2, hf => rfl
theorem up2_ne {M : Mt} {i k : Nat} {v : Int32} {a b : Nat} (h : ¬ (a = i ∧ b = k)) : up2 M i k v a b = M a b := if_neg h
theorem up2_eq {M : Mt} {i k : Nat} {v : Int32} : up2 M i k v i k = v := if_pos ⟨rfl, rfl⟩
/-! more steps, the same answer -/
theorem ev_more : ∀ (n d j pc : Nat) (ls st : List Value) (w : Wd) (r : Wd × Option Value), ev n d j pc ls st w = some r → ev (n + 1) d j pc ls st w = some r
  | 0, _, _, _, _, _, _, _, h => by cases h
  | n + 1, d, j, pc, ls, st, w, r, h => by
    unfold ev at h ⊢
    split at h
    · cases h
    · rename_i i hi
      split at h
      all_goals (rename_i hk; try simp only [hk])
      · obtain ⟨q, h1, h2⟩ := Option.bind_eq_some_iff.mp h
        rw [h1, Option.bind_some]
        exact ev_more n _ _ _ _ _ _ _ h2
      · obtain ⟨q, h1, h2⟩ := Option.bind_eq_some_iff.mp h
        rw [h1, Option.bind_some]
        exact ev_more n _ _ _ _ _ _ _ h2
      · obtain ⟨q, h1, h2⟩ := Option.bind_eq_some_iff.mp h
        rw [h1, Option.bind_some]
        exact ev_more n _ _ _ _ _ _ _ h2
      · obtain ⟨q, h1, h2⟩ := Option.bind_eq_some_iff.mp h
        rw [h1, Option.bind_some]
        exact ev_more n _ _ _ _ _ _ _ h2
      · obtain ⟨q, h1, h2⟩ := Option.bind_eq_some_iff.mp h
        rw [h1, Option.bind_some]
        exact ev_more n _ _ _ _ _ _ _ h2
      · obtain ⟨q, h1, h2⟩ := Option.bind_eq_some_iff.mp h
        rw [h1, Option.bind_some]
        exact ev_more n _ _ _ _ _ _ _ h2
      · split at h
        · split at h
          · cases h
          · split at h
            · obtain ⟨q, h1, h2⟩ := Option.bind_eq_some_iff.mp h
              rename_i hla
              rw [if_pos hla, ev_more n _ _ _ _ _ _ _ h1, Option.bind_some]
              exact ev_more n _ _ _ _ _ _ _ h2
            · cases h
        · obtain ⟨q, h1, h2⟩ := Option.bind_eq_some_iff.mp h
          rw [h1, Option.bind_some]
          exact ev_more n _ _ _ _ _ _ _ h2
      · exact h
theorem ev_up {n d j pc : Nat} {ls st : List Value} {w : Wd} {r : Wd × Option Value} (h : ev n d j pc ls st w = some r) : ∀ m, ev (n + m) d j pc ls st w = some r
  | 0 => h
  | m + 1 => ev_more (n + m) _ _ _ _ _ _ _ (ev_up h m)
/-- from here the method ends, with Q of its answer and of the memory then -/
def Wp (d j pc : Nat) (ls st : List Value) (M : Mt) (L : Lt) (Q : Option Value → Mt → Lt → Prop) : Prop := ∃ (n : Nat) (rv : Option Value) (M' : Mt) (L' : Lt), ev n d j pc ls st (wOf M L) = some (wOf M' L', rv) ∧ Q rv M' L'
