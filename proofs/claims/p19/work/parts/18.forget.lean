/-! a local that nobody reads any more may be forgotten -/
def lle : List Value → List Value → Prop
  | [], [] => True
  | a :: l, b :: l' => (a = b ∨ (a = .null ∧ b.category = 1)) ∧ lle l l'
  | _, _ => False
theorem lle_rf : ∀ l, lle l l
  | [] => trivial
  | _ :: l => ⟨Or.inl rfl, lle_rf l⟩
theorem lle_len : ∀ (l l' : List Value), lle l l' → l'.length = l.length
  | [], [], _ => rfl
  | a :: l, b :: l', h => by simp [lle_len l l' h.2]
  | [], _ :: _, h => h.elim
  | _ :: _, [], h => h.elim
theorem lle_get : ∀ (l l' : List Value) (i : Nat) (v : Value), lle l l' → l[i]? = some v → v ≠ .null → l'[i]? = some v
  | [], _, i, v, _, h, _ => by simp at h
  | a :: l, b :: l', 0, v, hl, h, hv => by
    simp at h
    subst h
    rcases hl.1 with e | e
    · simp [e]
    · exact absurd e.1 hv
  | a :: l, b :: l', i + 1, v, hl, h, hv => by
    simp only [List.getElem?_cons_succ] at h ⊢
    exact lle_get l l' i v hl.2 h hv
  | _ :: _, [], _, _, h, _, _ => h.elim
theorem lle_cat : ∀ (l l' : List Value) (i : Nat) (v : Value), lle l l' → l[i]? = some v → v.category = 1 → ∃ u, l'[i]? = some u ∧ u.category = 1
  | [], _, i, v, _, h, _ => by simp at h
  | a :: l, b :: l', 0, v, hl, h, hv => by
    simp at h
    subst h
    rcases hl.1 with e | e
    · exact ⟨b, rfl, e ▸ hv⟩
    · exact ⟨b, rfl, e.2⟩
  | a :: l, b :: l', i + 1, v, hl, h, hv => by
    simp only [List.getElem?_cons_succ] at h ⊢
    exact lle_cat l l' i v hl.2 h hv
  | _ :: _, [], _, _, h, _, _ => h.elim
theorem lle_set : ∀ (l l' : List Value) (i : Nat) (v : Value), lle l l' → lle (l.set i v) (l'.set i v)
  | [], [], _, _, h => h
  | a :: l, b :: l', 0, v, h => ⟨Or.inl rfl, h.2⟩
  | a :: l, b :: l', i + 1, v, h => ⟨h.1, lle_set l l' i v h.2⟩
  | [], _ :: _, _, _, h => h.elim
  | _ :: _, [], _, _, h => h.elim
theorem lle_noL {l l' : List Value} (h : lle l l') : ∀ i, noL l i = true → noL l' i = true
  | 0, _ => rfl
  | i + 1, hn => by
    simp only [noL] at hn ⊢
    cases hl : l[i]? with
    | none =>
      have : l'[i]? = none := by
        rw [List.getElem?_eq_none_iff] at hl ⊢
        rw [lle_len l l' h]; exact hl
      rw [this]
    | some v =>
      rw [hl] at hn
      obtain ⟨u, h1, h2⟩ := lle_cat l l' i v h hl (eq_of_beq hn)
      rw [h1]
      simp [h2]
theorem lle_load {l l' : List Value} (h : lle l l') {i : Instr} {v : Value} (hp : loadOp i l = some v) : loadOp i l' = some v := by
  unfold loadOp at hp ⊢
  split at hp
  · obtain ⟨x, h1, rfl⟩ := wI_spec hp
    simp only [lle_get l l' _ _ h h1 (by simp), wI]
  · obtain ⟨x, h1, rfl⟩ := wI_spec hp
    simp only [lle_get l l' _ _ h h1 (by simp), wI]
  · obtain ⟨x, h1, rfl⟩ := wL_spec hp
    simp only [lle_get l l' _ _ h h1 (by simp), wL]
  · obtain ⟨x, h1, rfl⟩ := wL_spec hp
    simp only [lle_get l l' _ _ h h1 (by simp), wL]
  · obtain ⟨x, h1, rfl⟩ := wR_spec hp
    simp only [lle_get l l' _ _ h h1 (by simp), wR]
  · obtain ⟨x, h1, rfl⟩ := wR_spec hp
    simp only [lle_get l l' _ _ h h1 (by simp), wR]
  · cases hp
theorem lle_st1 {l l' q : List Value} (h : lle l l') {k : Nat} {v : Value} (hp : st1 l k v = some q) : ∃ q', st1 l' k v = some q' ∧ lle q q' := by
  obtain ⟨h1, h2, rfl⟩ := st1_spec hp
  refine ⟨l'.set k v, ?_, lle_set l l' k v h⟩
  unfold st1
  rw [if_pos ⟨by rw [lle_len l l' h]; exact h1, lle_noL h k h2⟩]
theorem lle_st2 {l l' q : List Value} (h : lle l l') {k : Nat} {v : Value} (hp : st2 l k v = some q) : ∃ q', st2 l' k v = some q' ∧ lle q q' := by
  obtain ⟨h1, h2, rfl⟩ := st2_spec hp
  refine ⟨(l'.set k v).set (k + 1) .null, ?_, lle_set _ _ _ _ (lle_set l l' k v h)⟩
  unfold st2
  rw [if_pos ⟨by rw [lle_len l l' h]; exact h1, lle_noL h k h2⟩]
theorem lle_store {l l' : List Value} (h : lle l l') {i : Instr} {st : List Value} {q : List Value × List Value} (hp : storeOp i l st = some q) : ∃ q1, storeOp i l' st = some (q1, q.2) ∧ lle q.1 q1 := by
  unfold storeOp at hp ⊢
  split at hp
  · obtain ⟨l1, h1, rfl⟩ := Option.map_eq_some_iff.mp hp
    obtain ⟨q', e1, e2⟩ := lle_st1 h h1
    exact ⟨q', by simp only [e1, Option.map_some], e2⟩
  · obtain ⟨l1, h1, rfl⟩ := Option.map_eq_some_iff.mp hp
    obtain ⟨q', e1, e2⟩ := lle_st1 h h1
    exact ⟨q', by simp only [e1, Option.map_some], e2⟩
  · obtain ⟨l1, h1, rfl⟩ := Option.map_eq_some_iff.mp hp
    obtain ⟨q', e1, e2⟩ := lle_st1 h h1
    exact ⟨q', by simp only [e1, Option.map_some], e2⟩
  · obtain ⟨l1, h1, rfl⟩ := Option.map_eq_some_iff.mp hp
    obtain ⟨q', e1, e2⟩ := lle_st1 h h1
    exact ⟨q', by simp only [e1, Option.map_some], e2⟩
  · obtain ⟨l1, h1, rfl⟩ := Option.map_eq_some_iff.mp hp
    obtain ⟨q', e1, e2⟩ := lle_st2 h h1
    exact ⟨q', by simp only [e1, Option.map_some], e2⟩
  · obtain ⟨l1, h1, rfl⟩ := Option.map_eq_some_iff.mp hp
    obtain ⟨q', e1, e2⟩ := lle_st2 h h1
    exact ⟨q', by simp only [e1, Option.map_some], e2⟩
  · split at hp
    · rename_i x hx
      obtain ⟨l1, h1, rfl⟩ := Option.map_eq_some_iff.mp hp
      obtain ⟨q', e1, e2⟩ := lle_st1 h h1
      refine ⟨q', ?_, e2⟩
      simp only [lle_get l l' _ _ h hx (by simp), e1, Option.map_some]
    · cases hp
  · cases hp
theorem ev_lle : ∀ (n d j pc : Nat) (ls ls' st : List Value) (w : Wd) (r : Wd × Option Value), lle ls ls' → ev n d j pc ls st w = some r → ev n d j pc ls' st w = some r
  | 0, _, _, _, _, _, _, _, _, _, h => by cases h
  | n + 1, d, j, pc, ls, ls', st, w, r, hl, h => by
    unfold ev at h ⊢
    split at h
    · cases h
    · rename_i i hi
      split at h
      all_goals (rename_i hk; try simp only [hk])
      · obtain ⟨q, h1, h2⟩ := Option.bind_eq_some_iff.mp h
        rw [h1, Option.bind_some]
        exact ev_lle n _ _ _ _ _ _ _ _ hl h2
      · obtain ⟨q, h1, h2⟩ := Option.bind_eq_some_iff.mp h
        rw [lle_load hl h1, Option.bind_some]
        exact ev_lle n _ _ _ _ _ _ _ _ hl h2
      · obtain ⟨q, h1, h2⟩ := Option.bind_eq_some_iff.mp h
        obtain ⟨q1, e1, e2⟩ := lle_store hl h1
        rw [e1, Option.bind_some]
        exact ev_lle n _ _ _ _ _ _ _ _ e2 h2
      · obtain ⟨q, h1, h2⟩ := Option.bind_eq_some_iff.mp h
        rw [h1, Option.bind_some]
        exact ev_lle n _ _ _ _ _ _ _ _ hl h2
      · obtain ⟨q, h1, h2⟩ := Option.bind_eq_some_iff.mp h
        rw [h1, Option.bind_some]
        exact ev_lle n _ _ _ _ _ _ _ _ hl h2
      · obtain ⟨q, h1, h2⟩ := Option.bind_eq_some_iff.mp h
        rw [h1, Option.bind_some]
        exact ev_lle n _ _ _ _ _ _ _ _ hl h2
      · split at h
        · split at h
          · cases h
          · split at h
            · obtain ⟨q, h1, h2⟩ := Option.bind_eq_some_iff.mp h
              rename_i hla
              rw [if_pos hla, h1, Option.bind_some]
              exact ev_lle n _ _ _ _ _ _ _ _ hl h2
            · cases h
        · obtain ⟨q, h1, h2⟩ := Option.bind_eq_some_iff.mp h
          rw [h1, Option.bind_some]
          exact ev_lle n _ _ _ _ _ _ _ _ hl h2
      · exact h
theorem Wp.forget {d j pc : Nat} {ls ls' st : List Value} {M : Mt} {L : Lt} {Q : Option Value → Mt → Lt → Prop} (h : lle ls ls') (k : Wp d j pc ls st M L Q) : Wp d j pc ls' st M L Q := by
  obtain ⟨n, rv, M', L', h1, h2⟩ := k
  exact ⟨n, rv, M', L', ev_lle n _ _ _ _ _ _ _ _ h h1, h2⟩
