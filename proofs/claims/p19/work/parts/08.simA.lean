/-! THE PURE MACHINE AND THE TRUE ONE: instructions on the stack, the locals, jumps -/
def tr (b : Nat) : Value → Value
  | .ref i => .ref (b + i)
  | v => v
theorem tr_cat (b : Nat) (v : Value) : (tr b v).category = v.category := by cases v <;> rfl
theorem tr_null {b : Nat} {v : Value} (h : v ≠ .null) : tr b v ≠ .null := by cases v <;> simp [tr] at h ⊢
theorem lookup_mem {α β : Type} {f : α → α → Bool} (hf : ∀ x y, f x y = true → x = y) : ∀ (t : List (α × β)) (a : α) (v : β), @List.lookup α β ⟨f⟩ a t = some v → (a, v) ∈ t
  | [], a, v, h => by simp [List.lookup] at h
  | (x, y) :: t, a, v, h => by
    simp only [List.lookup] at h
    split at h
    · rename_i hh
      have := hf _ _ hh
      cases h
      rw [this]
      exact List.mem_cons_self
    · exact List.mem_cons_of_mem _ (lookup_mem hf t a v h)
theorem lk_mem {β : Type} {t : List ((Nat × Nat) × β)} {a : Nat × Nat} {v : β} (h : t.lookup a = some v) : (a, v) ∈ t := lookup_mem (f := fun x y => x == y) (fun x y h => eq_of_beq h) t a v h
section SimA
variable {p : Program} {l : Launch} {e : Env} {R : Room} {s : State} {m : MethodId} {args : Array Value} {below : List Frame} {meth : Method} {c : Code} {H : Heap} {locs : List Loc} {cells slots : Nat} {Q : State → Prop}
variable {cc : ByteArray} {pc ow b : Nat} {A : Array Slot} {i : Instr}
set_option maxHeartbeats 4000000 in
theorem sim_pure {st st' : List Value} (hx : p.tables.exec = Jvm.exec) (hb : c.code = cc) (hown : s.vm.findClass (RC ow) = some m.cls) (hts : ∀ w ∈ tw, w.before args s = true) (h : pureOp ow i st = some st') (hd : decode cc pc = .ok (i, stdLen i))
    (k : W p l e R s m args below meth c H locs cells slots Q (F0 m (pc + stdLen i) A (st'.map (tr b)))) : W p l e R s m args below meth c H locs cells slots Q (F0 m pc A (st.map (tr b))) := by
  unfold pureOp at h
  split at h
  · cases h; exact lv_iconst hx hb hd rfl k
  · cases h; exact lv_bipush hx hb hd rfl k
  · cases h; exact lv_sipush hx hb hd rfl k
  · cases h; exact lv_lconst hx hb hd rfl k
  · obtain ⟨v, hv, rfl⟩ := Option.map_eq_some_iff.mp h
    exact lv_ldcw hx hb hown (hts _ (ktab_in _ (lk_mem hv))) hd k
  · obtain ⟨v, hv, rfl⟩ := Option.map_eq_some_iff.mp h
    exact lv_ldc2 hx hb hown (hts _ (ltab_in _ (lk_mem hv))) hd k
  · cases h; exact lv_iadd hx hb hd k
  · cases h; exact lv_isub hx hb hd k
  · cases h; exact lv_imul hx hb hd k
  · split at h
    · cases h
    · rename_i hne
      cases h; exact lv_idiv hx hb hd hne k
  · split at h
    · cases h
    · rename_i hne
      cases h; exact lv_irem hx hb hd hne k
  · cases h; exact lv_iand hx hb hd k
  · cases h; exact lv_ior hx hb hd k
  · cases h; exact lv_ixor hx hb hd k
  · cases h; exact lv_ishl hx hb hd k
  · cases h; exact lv_ishr hx hb hd k
  · cases h; exact lv_iushr hx hb hd rfl k
  · cases h; exact lv_ladd hx hb hd k
  · cases h; exact lv_lmul hx hb hd k
  · split at h
    · cases h
    · rename_i hne
      cases h; exact lv_lrem hx hb hd hne k
  · cases h; exact lv_lushr hx hb hd rfl k
  · cases h; exact lv_i2l hx hb hd rfl k
  · cases h; exact lv_l2i hx hb hd rfl k
  · cases h; exact W.lcmp hx hb hd k
  · split at h
    · rename_i hc
      cases h; exact lv_dup hx hb hd ((tr_cat b _).trans hc) k
    · cases h
  · split at h
    · rename_i hc
      cases h; exact lv_dup2_11 hx hb hd ((tr_cat b _).trans hc.1) ((tr_cat b _).trans hc.2) k
    · cases h
  · split at h
    · rename_i hc
      cases h; exact lv_pop hx hb hd ((tr_cat b _).trans hc) k
    · cases h
  · cases h
/-- the locals: as the pure machine has them, where it has any -/
def lrl (b : Nat) (ls : List Value) (A : Array Slot) : Prop := A.size = ls.length ∧ lv_wf A ∧ ∀ (i : Nat) (v : Value), ls[i]? = some v → v ≠ .null → A[i]? = some (.val (tr b v))
theorem wI_spec {o : Option Value} {v : Value} (h : wI o = some v) : ∃ x, o = some (.int x) ∧ v = .int x := by
  unfold wI at h
  split at h
  · rename_i x; cases h; exact ⟨x, rfl, rfl⟩
  · cases h
theorem wL_spec {o : Option Value} {v : Value} (h : wL o = some v) : ∃ x, o = some (.long x) ∧ v = .long x := by
  unfold wL at h
  split at h
  · rename_i x; cases h; exact ⟨x, rfl, rfl⟩
  · cases h
theorem wR_spec {o : Option Value} {v : Value} (h : wR o = some v) : ∃ x, o = some (.ref x) ∧ v = .ref x := by
  unfold wR at h
  split at h
  · rename_i x; cases h; exact ⟨x, rfl, rfl⟩
  · cases h
set_option maxHeartbeats 4000000 in
theorem sim_load {ls st : List Value} {v : Value} (hx : p.tables.exec = Jvm.exec) (hb : c.code = cc) (hl : lrl b ls A) (h : loadOp i ls = some v) (hd : decode cc pc = .ok (i, stdLen i))
    (k : W p l e R s m args below meth c H locs cells slots Q (F0 m (pc + stdLen i) A ((v :: st).map (tr b)))) : W p l e R s m args below meth c H locs cells slots Q (F0 m pc A (st.map (tr b))) := by
  unfold loadOp at h
  split at h
  · obtain ⟨x, h1, rfl⟩ := wI_spec h
    exact lv_iload_n hx hb hd rfl (hl.2.2 _ _ h1 (by simp)) k
  · obtain ⟨x, h1, rfl⟩ := wI_spec h
    exact lv_iload hx hb hd (hl.2.2 _ _ h1 (by simp)) k
  · obtain ⟨x, h1, rfl⟩ := wL_spec h
    exact lv_lload_n hx hb hd rfl (hl.2.2 _ _ h1 (by simp)) k
  · obtain ⟨x, h1, rfl⟩ := wL_spec h
    exact lv_lload hx hb hd (hl.2.2 _ _ h1 (by simp)) k
  · obtain ⟨x, h1, rfl⟩ := wR_spec h
    exact lv_aload_n hx hb hd rfl (hl.2.2 _ _ h1 (by simp)) k
  · obtain ⟨x, h1, rfl⟩ := wR_spec h
    exact lv_aload hx hb hd (hl.2.2 _ _ h1 (by simp)) k
  · cases h
def lvO (b : Nat) (ls : List Value) : List (Nat × Value) := ((List.range ls.length).map (fun k => (k, ls.getD k .null))).filterMap (fun q => if q.2 = .null then none else some (q.1, tr b q.2))
theorem lvO_mem {ls : List Value} {k : Nat} {v : Value} (h : ls[k]? = some v) (hv : v ≠ .null) : (k, tr b v) ∈ lvO b ls := by
  have hk : k < ls.length := (List.getElem?_eq_some_iff.mp h).1
  refine List.mem_filterMap.mpr ⟨(k, v), List.mem_map.mpr ⟨k, List.mem_range.mpr hk, ?_⟩, by simp [hv]⟩
  simp [List.getD_eq_getElem?_getD, h]
theorem lvO_has {ls : List Value} (hl : lrl b ls A) : lv_has A ls.length (lvO b ls) := by
  refine ⟨hl.1, hl.2.1, fun q hq => ?_⟩
  obtain ⟨r, hr, h2⟩ := List.mem_filterMap.mp hq
  obtain ⟨k, hk, rfl⟩ := List.mem_map.mp hr
  have hk' := List.mem_range.mp hk
  by_cases hn : ls.getD k .null = .null
  · dsimp only at h2
    rw [if_pos hn] at h2
    cases h2
  · dsimp only at h2
    rw [if_neg hn] at h2
    cases h2
    refine hl.2.2 k _ ?_ hn
    simp [List.getD_eq_getElem?_getD, hk']
theorem lrl_of1 {ls : List Value} {k : Nat} {v : Value} {A' : Array Slot} (hk : k < ls.length) (hn : noL ls k = true) (h : lv_has A' ls.length ((k, tr b v) :: (lvO b ls).filter (fun q => !(q.1 == k) && !(q.1 + 1 == k && q.2.category == 2)))) : lrl b (ls.set k v) A' := by
  refine ⟨by rw [List.length_set]; exact h.1, h.2.1, fun q u hq hu => ?_⟩
  by_cases e : q = k
  · subst e
    rw [List.getElem?_set_self hk] at hq
    cases hq
    exact h.2.2 _ List.mem_cons_self
  · rw [List.getElem?_set_ne (Ne.symm e)] at hq
    refine h.2.2 (q, tr b u) (List.mem_cons_of_mem _ (List.mem_filter.mpr ⟨lvO_mem hq hu, ?_⟩))
    have h1 : (q == k) = false := by simpa using e
    simp only [h1, Bool.not_false, Bool.true_and, Bool.not_eq_true', Bool.and_eq_false_iff]
    by_cases e2 : q + 1 = k
    · subst e2
      simp only [noL, hq] at hn
      right
      rw [tr_cat]
      have := eq_of_beq hn
      rw [this]
      rfl
    · left
      simpa using e2
theorem lrl_of2 {ls : List Value} {k : Nat} {v : Value} {A' : Array Slot} (hk : k + 1 < ls.length) (hn : noL ls k = true) (h : lv_has A' ls.length ((k, tr b v) :: (lvO b ls).filter (fun q => !(q.1 == k) && (!(q.1 == k + 1) && !(q.1 + 1 == k && q.2.category == 2))))) : lrl b ((ls.set k v).set (k + 1) .null) A' := by
  refine ⟨by rw [List.length_set, List.length_set]; exact h.1, h.2.1, fun q u hq hu => ?_⟩
  by_cases e3 : q = k + 1
  · subst e3
    rw [List.getElem?_set_self (by rw [List.length_set]; exact hk)] at hq
    cases hq
    exact absurd rfl hu
  · rw [List.getElem?_set_ne (Ne.symm e3)] at hq
    by_cases e : q = k
    · subst e
      rw [List.getElem?_set_self (by omega)] at hq
      cases hq
      exact h.2.2 _ List.mem_cons_self
    · rw [List.getElem?_set_ne (Ne.symm e)] at hq
      refine h.2.2 (q, tr b u) (List.mem_cons_of_mem _ (List.mem_filter.mpr ⟨lvO_mem hq hu, ?_⟩))
      have h1 : (q == k) = false := by simpa using e
      have h2 : (q == k + 1) = false := by simpa using e3
      simp only [h1, h2, Bool.not_false, Bool.true_and, Bool.not_eq_true', Bool.and_eq_false_iff]
      by_cases e2 : q + 1 = k
      · subst e2
        simp only [noL, hq] at hn
        right
        rw [tr_cat]
        have := eq_of_beq hn
        rw [this]
        rfl
      · left
        simpa using e2
theorem st1_spec {ls ls' : List Value} {k : Nat} {v : Value} (h : st1 ls k v = some ls') : k < ls.length ∧ noL ls k = true ∧ ls' = ls.set k v := by
  unfold st1 at h
  split at h
  · rename_i hc
    cases h
    exact ⟨hc.1, hc.2, rfl⟩
  · cases h
theorem st2_spec {ls ls' : List Value} {k : Nat} {v : Value} (h : st2 ls k v = some ls') : k + 1 < ls.length ∧ noL ls k = true ∧ ls' = (ls.set k v).set (k + 1) .null := by
  unfold st2 at h
  split at h
  · rename_i hc
    cases h
    exact ⟨hc.1, hc.2, rfl⟩
  · cases h
set_option maxHeartbeats 4000000 in
theorem sim_store {ls st : List Value} {q : List Value × List Value} (hx : p.tables.exec = Jvm.exec) (hb : c.code = cc) (hl : lrl b ls A) (h : storeOp i ls st = some q) (hd : decode cc pc = .ok (i, stdLen i))
    (k : ∀ A' : Array Slot, lrl b q.1 A' → W p l e R s m args below meth c H locs cells slots Q (F0 m (pc + stdLen i) A' (q.2.map (tr b)))) : W p l e R s m args below meth c H locs cells slots Q (F0 m pc A (st.map (tr b))) := by
  unfold storeOp at h
  split at h
  · obtain ⟨l1, h1, rfl⟩ := Option.map_eq_some_iff.mp h
    obtain ⟨g1, g2, rfl⟩ := st1_spec h1
    exact lv_istore_n hx hb hd rfl (lvO_has hl) g1 rfl (fun A' h' => k A' (lrl_of1 g1 g2 h'))
  · obtain ⟨l1, h1, rfl⟩ := Option.map_eq_some_iff.mp h
    obtain ⟨g1, g2, rfl⟩ := st1_spec h1
    exact lv_istore hx hb hd (lvO_has hl) g1 rfl (fun A' h' => k A' (lrl_of1 g1 g2 h'))
  · obtain ⟨l1, h1, rfl⟩ := Option.map_eq_some_iff.mp h
    obtain ⟨g1, g2, rfl⟩ := st1_spec h1
    exact lv_astore_n hx hb hd rfl (lvO_has hl) g1 rfl (fun A' h' => k A' (lrl_of1 g1 g2 h'))
  · obtain ⟨l1, h1, rfl⟩ := Option.map_eq_some_iff.mp h
    obtain ⟨g1, g2, rfl⟩ := st1_spec h1
    exact lv_astore hx hb hd (lvO_has hl) g1 rfl (fun A' h' => k A' (lrl_of1 g1 g2 h'))
  · obtain ⟨l1, h1, rfl⟩ := Option.map_eq_some_iff.mp h
    obtain ⟨g1, g2, rfl⟩ := st2_spec h1
    exact lv_lstore_n hx hb hd rfl (lvO_has hl) g1 rfl (fun A' h' => k A' (lrl_of2 g1 g2 h'))
  · obtain ⟨l1, h1, rfl⟩ := Option.map_eq_some_iff.mp h
    obtain ⟨g1, g2, rfl⟩ := st2_spec h1
    exact lv_lstore hx hb hd (lvO_has hl) g1 rfl (fun A' h' => k A' (lrl_of2 g1 g2 h'))
  · split at h
    · rename_i x hx2
      obtain ⟨l1, h1, rfl⟩ := Option.map_eq_some_iff.mp h
      obtain ⟨g1, g2, rfl⟩ := st1_spec h1
      obtain ⟨kk, hkk⟩ := List.getElem?_of_mem (lvO_mem (b := b) hx2 (by simp))
      exact lv_iinc hx hb hd (lvO_has hl) hkk rfl g1 rfl (fun A' h' => k A' (lrl_of1 g1 g2 h'))
    · cases h
  · cases h
theorem tgt_spec {off : Int} {t : Nat} (h : tgt pc off = some t) : (pc : Int) + off = (t : Int) := by
  unfold tgt at h
  split at h
  · cases h
    omega
  · cases h
set_option maxHeartbeats 4000000 in
theorem sim_br {st : List Value} {q : Nat × List Value} {len : Nat} (hx : p.tables.exec = Jvm.exec) (hb : c.code = cc) (h : brOp i pc st = some q) (hd : decode cc pc = .ok (i, len)) (hlen : isSw i = true ∨ len = stdLen i)
    (k : W p l e R s m args below meth c H locs cells slots Q (F0 m q.1 A (q.2.map (tr b)))) : W p l e R s m args below meth c H locs cells slots Q (F0 m pc A (st.map (tr b))) := by
  unfold brOp at h
  split at h
  · obtain ⟨t, h1, rfl⟩ := Option.map_eq_some_iff.mp h
    have hlen := hlen.resolve_left (by simp [isSw]); subst hlen
    exact lv_goto hx hb hd (tgt_spec h1) k
  · rename_i cd off x st
    obtain ⟨t, h1, rfl⟩ := Option.map_eq_some_iff.mp h
    have hlen := hlen.resolve_left (by simp [isSw]); subst hlen
    have ht := tgt_spec h1
    cases cd
    · refine lv_if_eq hx hb hd ht (fun hc => ?_) (fun hc => ?_) <;> simpa [cnd, hc] using k
    · refine lv_if_ne hx hb hd ht (fun hc => ?_) (fun hc => ?_) <;> simpa [cnd, hc] using k
    · refine lv_if_lt hx hb hd ht (fun hc => ?_) (fun hc => ?_) <;> simpa only [cnd, hc, decide_true, decide_false, if_true, if_false, Bool.false_eq_true] using k
    · refine lv_if_ge hx hb hd ht (fun hc => ?_) (fun hc => ?_) <;> simpa only [cnd, hc, decide_true, decide_false, if_true, if_false, Bool.false_eq_true] using k
    · refine lv_if_gt hx hb hd ht (fun hc => ?_) (fun hc => ?_) <;> simpa only [cnd, hc, decide_true, decide_false, if_true, if_false, Bool.false_eq_true] using k
    · refine lv_if_le hx hb hd ht (fun hc => ?_) (fun hc => ?_) <;> simpa only [cnd, hc, decide_true, decide_false, if_true, if_false, Bool.false_eq_true] using k
  · rename_i cd off y x st
    obtain ⟨t, h1, rfl⟩ := Option.map_eq_some_iff.mp h
    have hlen := hlen.resolve_left (by simp [isSw]); subst hlen
    have ht := tgt_spec h1
    cases cd
    · refine lv_icmp_eq hx hb hd ht (fun hc => ?_) (fun hc => ?_) <;> simpa [cnd, hc] using k
    · refine lv_icmp_ne hx hb hd ht (fun hc => ?_) (fun hc => ?_) <;> simpa [cnd, hc] using k
    · refine lv_icmp_lt hx hb hd ht (fun hc => ?_) (fun hc => ?_) <;> simpa only [cnd, hc, decide_true, decide_false, if_true, if_false, Bool.false_eq_true] using k
    · refine lv_icmp_ge hx hb hd ht (fun hc => ?_) (fun hc => ?_) <;> simpa only [cnd, hc, decide_true, decide_false, if_true, if_false, Bool.false_eq_true] using k
    · refine lv_icmp_gt hx hb hd ht (fun hc => ?_) (fun hc => ?_) <;> simpa only [cnd, hc, decide_true, decide_false, if_true, if_false, Bool.false_eq_true] using k
    · refine lv_icmp_le hx hb hd ht (fun hc => ?_) (fun hc => ?_) <;> simpa only [cnd, hc, decide_true, decide_false, if_true, if_false, Bool.false_eq_true] using k
  · split at h
    · rename_i hc
      obtain ⟨t, h1, rfl⟩ := Option.map_eq_some_iff.mp h
      exact lv_tableOut hx hb hd hc (tgt_spec h1) k
    · rename_i hc
      obtain ⟨off, h0, h2⟩ := Option.bind_eq_some_iff.mp h
      obtain ⟨t, h1, rfl⟩ := Option.map_eq_some_iff.mp h2
      exact lv_tableIn hx hb hd (fun z => hc (Or.inl z)) (fun z => hc (Or.inr z)) h0 (tgt_spec h1) k
  · split at h
    · rename_i hc
      obtain ⟨t, h1, rfl⟩ := Option.map_eq_some_iff.mp h
      exact lv_lookup hx hb hd hc rfl (tgt_spec h1) k
    · cases h
  · cases h
end SimA
