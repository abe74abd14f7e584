/-! THE SIMULATION: what the pure machine answers, the true one answers -/
theorem heapW_mono {j : Nat} {i : Instr} {st : List Value} {w : Wd} {q : List Value × Wd} (h : heapW j i st w = some q) : w.length ≤ q.2.length ∧ wsz w ≤ wsz q.2 := by
  unfold heapW at h
  split at h
  · obtain ⟨f, hf, h1⟩ := Option.bind_eq_some_iff.mp h
    obtain ⟨w', h2, rfl⟩ := Option.map_eq_some_iff.mp h1
    unfold pfW at h2
    split at h2
    · rename_i q hq
      split at h2
      · cases h2
        obtain ⟨z1, z2⟩ := cell_same (q' := (q.1, q.2.set f.2 _)) hq (by simp) rfl
        exact ⟨Nat.le_of_eq z1.symm, Nat.le_of_eq z2.symm⟩
      · cases h2
    · cases h2
  · obtain ⟨w', h2, rfl⟩ := Option.map_eq_some_iff.mp h
    obtain ⟨q, hq, ht, h0, hlt, rfl⟩ := asW_spec h2
    obtain ⟨z1, z2⟩ := cell_same (q' := (q.1, q.2.set _ _)) hq (by simp) rfl
    exact ⟨Nat.le_of_eq z1.symm, Nat.le_of_eq z2.symm⟩
  · split at h
    · obtain ⟨w', h2, rfl⟩ := Option.map_eq_some_iff.mp h
      obtain ⟨q, hq, ht, h0, hlt, rfl⟩ := asW_spec h2
      obtain ⟨z1, z2⟩ := cell_same (q' := (q.1, q.2.set _ _)) hq (by simp) rfl
      exact ⟨Nat.le_of_eq z1.symm, Nat.le_of_eq z2.symm⟩
    · cases h
  · obtain ⟨w', h2, rfl⟩ := Option.map_eq_some_iff.mp h
    unfold aaW at h2
    split at h2
    · rename_i q u hq hu
      split at h2
      · cases h2
        obtain ⟨z1, z2⟩ := cell_same (q' := (q.1, q.2.set _ _)) hq (by simp) rfl
        exact ⟨Nat.le_of_eq z1.symm, Nat.le_of_eq z2.symm⟩
      · cases h2
    · cases h2
  · split at h
    · split at h
      · cases h
        exact ⟨by simp, by rw [wsz_push]; omega⟩
      · cases h
    · cases h
  · split at h
    · cases h
    · cases h
      exact ⟨by simp, by rw [wsz_push]; omega⟩
  · split at h
    · cases h
    · cases h
      exact ⟨by simp, by rw [wsz_push]; omega⟩
  · split at h
    · cases h
    · split at h
      · cases h
        exact ⟨by simp, by rw [wsz_push]; omega⟩
      · cases h
        exact ⟨by simp, by rw [wsz_push]; omega⟩
      · cases h
  · cases h
theorem natOp_mono {j : Nat} {i : Instr} {st : List Value} {w : Wd} {q : List Value × Wd} (h : natOp j i st w = some q) : q.2.length = w.length ∧ wsz q.2 = wsz w := by
  unfold natOp at h
  split at h
  · split at h
    · cases h; exact ⟨rfl, rfl⟩
    · cases h
  · split at h
    · obtain ⟨w', h2, rfl⟩ := Option.map_eq_some_iff.mp h
      unfold acW at h2
      split at h2
      · rename_i q u hq hu
        split at h2
        · cases h2
          exact cell_same (q' := (u.1, cpV q.2 u.2 _ _ _)) hu (by simp [cpV]) rfl
        · cases h2
      · cases h2
    · cases h
  · split at h
    · split at h
      · cases h; exact ⟨rfl, rfl⟩
      · cases h
    · split at h
      · cases h; exact ⟨rfl, rfl⟩
      · cases h
    · cases h
  · cases h
theorem ev_mono : ∀ (n d j pc : Nat) (ls st : List Value) (w w' : Wd) (v : Option Value), ev n d j pc ls st w = some (w', v) → w.length ≤ w'.length ∧ wsz w ≤ wsz w'
  | 0, _, _, _, _, _, _, _, _, h => by cases h
  | n + 1, d, j, pc, ls, st, w, w', v, h => by
    unfold ev at h
    split at h
    · cases h
    · split at h
      · obtain ⟨q, h1, h2⟩ := Option.bind_eq_some_iff.mp h
        exact ev_mono n _ _ _ _ _ _ _ _ h2
      · obtain ⟨q, h1, h2⟩ := Option.bind_eq_some_iff.mp h
        exact ev_mono n _ _ _ _ _ _ _ _ h2
      · obtain ⟨q, h1, h2⟩ := Option.bind_eq_some_iff.mp h
        exact ev_mono n _ _ _ _ _ _ _ _ h2
      · obtain ⟨q, h1, h2⟩ := Option.bind_eq_some_iff.mp h
        exact ev_mono n _ _ _ _ _ _ _ _ h2
      · obtain ⟨q, h1, h2⟩ := Option.bind_eq_some_iff.mp h
        exact ev_mono n _ _ _ _ _ _ _ _ h2
      · obtain ⟨q, h1, h2⟩ := Option.bind_eq_some_iff.mp h
        have a := heapW_mono h1
        have b := ev_mono n _ _ _ _ _ _ _ _ h2
        exact ⟨Nat.le_trans a.1 b.1, Nat.le_trans a.2 b.2⟩
      · split at h
        · split at h
          · cases h
          · split at h
            · obtain ⟨q, h1, h2⟩ := Option.bind_eq_some_iff.mp h
              have a := ev_mono n _ _ _ _ _ _ q.1 q.2 h1
              have b := ev_mono n _ _ _ _ _ _ _ _ h2
              exact ⟨Nat.le_trans a.1 b.1, Nat.le_trans a.2 b.2⟩
            · cases h
        · obtain ⟨q, h1, h2⟩ := Option.bind_eq_some_iff.mp h
          have a := natOp_mono h1
          have b := ev_mono n _ _ _ _ _ _ _ _ h2
          exact ⟨by rw [← a.1]; exact b.1, by rw [← a.2]; exact b.2⟩
      · obtain ⟨q, h1, h2⟩ := Option.map_eq_some_iff.mp h
        cases h2
        exact ⟨Nat.le_refl _, Nat.le_refl _⟩
def S_ (l : Launch) (n : Nat) : Prop := ∀ (d j pc : Nat) (ls st : List Value) (w w' : Wd) (rv : Option Value), ev n d j pc ls st w = some (w', rv) → ∀ (p : Program) (e : Env) (R : Room) (s : State) (m : MethodId) (args : Array Value) (below : List Frame) (meth : Method) (c : Code) (H : Heap) (locs : List Loc) (b : Nat) (D : va_G) (cs : CS) (A : Array Slot) (x0 y0 : Nat),
  Cx p m c s args (cdj j) (mxj j) (RC (owc j)) D cs → meth.sig.returnType = rtj j → meth.locks = false → meth.name = (yj j).name → lrl b ls A → ls.length = mxj j → va_P D vwCl (trW b cs w) H → va_S (fun q => b ≤ q) s.heap H locs → s.heap.size = b + x0 → x0 ≤ w.length → y0 ≤ wsz w → w'.length - x0 ≤ R.cells → wsz w' - y0 ≤ R.slots → d + 1 ≤ R.frames → 60 * (d + 1) ≤ R.locals →
  W p l e R s m args below meth c H locs (w.length - x0) (wsz w - y0) (MQ below (QC b D cs w' rv) args s (w'.length - x0) (wsz w' - y0) (fun q => b ≤ q)) (F0 m pc A (st.map (tr b)))
theorem lay_args {b : Nat} : ∀ (As : List Value) (k i : Nat) (v : Value), (layA As)[i]? = some v → v ≠ .null → (k + i, tr b v) ∈ lv_args k (As.map (tr b))
  | [], k, i, v, h, _ => by simp [layA] at h
  | a :: As, k, i, v, h, hv => by
    simp only [layA] at h
    by_cases hc : a.category = 2
    · rw [if_pos hc] at h
      simp only [List.map_cons, lv_args, tr_cat, hc, if_true]
      match i, h with
      | 0, h =>
        simp at h
        subst h
        exact List.mem_cons_self
      | 1, h =>
        simp at h
        exact absurd h.symm hv
      | i + 2, h =>
        have := lay_args (b := b) As (k + 2) i v (by simpa using h) hv
        refine List.mem_cons_of_mem _ ?_
        have e : k + 2 + i = k + (i + 2) := by omega
        rw [e] at this
        exact this
    · rw [if_neg hc] at h
      simp only [List.map_cons, lv_args, tr_cat, hc, if_false]
      match i, h with
      | 0, h =>
        simp at h
        subst h
        exact List.mem_cons_self
      | i + 1, h =>
        have := lay_args (b := b) As (k + 1) i v (by simpa using h) hv
        refine List.mem_cons_of_mem _ ?_
        have e : k + 1 + i = k + (i + 1) := by omega
        rw [e] at this
        exact this
theorem lay_len {b : Nat} : ∀ (As : List Value), (lg_sl (As.map (tr b))).length = (layA As).length
  | [] => rfl
  | a :: As => by
    have := lay_len (b := b) As
    simp only [lg_sl, List.map_cons, List.flatMap_cons, List.length_append, layA, tr_cat] at this ⊢
    by_cases hc : a.category = 2
    · simp only [hc, if_true, List.length_cons, List.length_nil] at this ⊢
      omega
    · simp only [hc, if_false, List.length_cons, List.length_nil] at this ⊢
      omega
theorem ent_lrl {b j : Nat} {As : List Value} (h : (layA As).length ≤ mxj j) : lrl b (entL j As) ((lg_sl (As.map (tr b)) ++ List.replicate (mxj j - (lg_sl (As.map (tr b))).length) Slot.unset).toArray) ∧ (entL j As).length = mxj j := by
  have hl : (entL j As).length = mxj j := by simp [entL]; omega
  have h1 := lv_entry (As.map (tr b)) (n := mxj j) (by rw [lay_len]; exact h)
  refine ⟨⟨h1.1.trans hl.symm, h1.2.1, fun i v hi hv => ?_⟩, hl⟩
  have h2 : (layA As)[i]? = some v := by
    unfold entL at hi
    by_cases hi2 : i < (layA As).length
    · rw [List.getElem?_append_left hi2] at hi
      exact hi
    · rw [List.getElem?_append_right (by omega)] at hi
      have := List.eq_of_mem_replicate (List.mem_of_getElem? hi)
      exact absurd this hv
  have h3 := lay_args (b := b) As 0 i v h2 hv
  rw [Nat.zero_add] at h3
  exact h1.2.2 _ h3
theorem ev_ins {n d j pc : Nat} {ls st : List Value} {w : Wd} {r : Wd × Option Value} (h : ev n d j pc ls st w = some r) : ∃ i, insAt j pc = some i := by
  cases n with
  | zero => cases h
  | succ n =>
    unfold ev at h
    split at h
    · cases h
    · rename_i i hi
      exact ⟨i, hi⟩
set_option maxHeartbeats 4000000 in
/-- the contract of a method, out of what the pure machine answers -/
theorem met_of {l : Launch} {n : Nat} (hS : S_ l n) {d j : Nat} {As : List Value} {w w' : Wd} {rv : Option Value} (hev : ev n d j 0 (entL j As) [] w = some (w', rv)) (hla : (layA As).length ≤ mxj j) (b : Nat) (D : va_G) (cs : CS) :
    Met l (yj j) (wsj j) (rmd d (w'.length - w.length) (wsz w' - wsz w)) (PcJ b D cs As w) (QC b D cs w' rv) (w'.length - w.length) (wsz w' - wsz w) (fun q => b ≤ q) := by
  obtain ⟨i0, hi0⟩ := ev_ins hev
  obtain ⟨q, hq⟩ := mt_of hi0
  obtain ⟨n1, n2, n3, n4, n5, n6⟩ := mt_name hq
  refine Met.ofW (cc := cdj j) (maxL := mxj j) (ret := rtj j) n1 rfl ?_
  intro p e s m args below meth c s₁ B hml hv
  obtain ⟨rfl, hsz, hP, hK, hN, hA1, hA2⟩ := hv
  have hts := atoms_spec (ws := wsj j) B.pre
  have hown : s.vm.findClass (RC (owc j)) = some m.cls := by rw [← n2]; exact findClass_of_methodNamed B.named
  have hname : meth.name = (yj j).name := (name_of_methodNamed B.named B.method).1
  rw [lg_entry_eq]
  obtain ⟨hl, hlen⟩ := ent_lrl (b := b) hla
  have := hS d j 0 (entL j As) [] w w' rv hev p e (headSpec (wsj j) (rmd d (w'.length - w.length) (wsz w' - wsz w))).room s m (As.map (tr b)).toArray below meth c s.heap [] b D cs _ w.length (wsz w)
    ⟨⟨B.exec, B.bytes, hml, hown, fun w hw => hts w (List.mem_cons_of_mem _ hw)⟩, hN, ⟨hA1, hA2⟩, hK⟩ B.returns B.notSynchronized hname hl hlen hP va_S.rf hsz (Nat.le_refl _) (Nat.le_refl _) (Nat.le_refl _) (Nat.le_refl _) (Nat.le_refl _) (Nat.le_refl _)
  rw [Nat.sub_self, Nat.sub_self] at this
  exact this
theorem nosw {i : Instr} (h : kdI i ≠ 3) : isSw i = false := by cases i <;> first | rfl | exact absurd rfl h
theorem len_call {j : Nat} {i : Instr} (h : kdI i = 6) : stdLen i = 3 := by cases i <;> first | rfl | (simp [kdI] at h)
theorem len_ret {j : Nat} {i : Instr} {st : List Value} {v : Option Value} (h : retOp j i st = some v) : stdLen i = 1 := by
  unfold retOp at h
  split at h <;> first | rfl | cases h
theorem storeOp_len {i : Instr} {ls st : List Value} {q : List Value × List Value} (h : storeOp i ls st = some q) : q.1.length = ls.length := by
  unfold storeOp at h
  split at h
  · obtain ⟨l1, h1, rfl⟩ := Option.map_eq_some_iff.mp h
    obtain ⟨g1, g2, rfl⟩ := st1_spec h1
    simp
  · obtain ⟨l1, h1, rfl⟩ := Option.map_eq_some_iff.mp h
    obtain ⟨g1, g2, rfl⟩ := st1_spec h1
    simp
  · obtain ⟨l1, h1, rfl⟩ := Option.map_eq_some_iff.mp h
    obtain ⟨g1, g2, rfl⟩ := st1_spec h1
    simp
  · obtain ⟨l1, h1, rfl⟩ := Option.map_eq_some_iff.mp h
    obtain ⟨g1, g2, rfl⟩ := st1_spec h1
    simp
  · obtain ⟨l1, h1, rfl⟩ := Option.map_eq_some_iff.mp h
    obtain ⟨g1, g2, rfl⟩ := st2_spec h1
    simp
  · obtain ⟨l1, h1, rfl⟩ := Option.map_eq_some_iff.mp h
    obtain ⟨g1, g2, rfl⟩ := st2_spec h1
    simp
  · split at h
    · obtain ⟨l1, h1, rfl⟩ := Option.map_eq_some_iff.mp h
      obtain ⟨g1, g2, rfl⟩ := st1_spec h1
      simp
    · cases h
  · cases h
set_option maxHeartbeats 8000000 in
theorem sim (l : Launch) : ∀ n, S_ l n := by
  intro n
  induction n with
  | zero => intro d j pc ls st w w' rv h; cases h
  | succ n ih =>
    intro d j pc ls st w w' rv h p e R s m args below meth c H locs b D cs A x0 y0 C hr hlk hnm hl hll hP hS hsz hx0 hy0 hRc hRs hRf hRl
    have hmono := ev_mono _ _ _ _ _ _ _ _ _ h
    have hA : A.size = mxj j := hl.1.trans hll
    have hbs : b ≤ s.heap.size := by omega
    have hx := C.1.1
    have hb := C.1.2.1
    have hown := C.1.2.2.2.1
    have hts := C.1.2.2.2.2
    unfold ev at h
    split at h
    · cases h
    · rename_i i hi
      split at h
      · rename_i hk
        obtain ⟨st', h1, h2⟩ := Option.bind_eq_some_iff.mp h
        exact sim_pure hx hb hown hts h1 (mt_decS hi (nosw (by rw [hk]; decide))) (ih _ _ _ _ _ _ _ _ h2 p e R s m args below meth c H locs b D cs A x0 y0 C hr hlk hnm hl hll hP hS hsz hx0 hy0 hRc hRs hRf hRl)
      · rename_i hk
        obtain ⟨v, h1, h2⟩ := Option.bind_eq_some_iff.mp h
        exact sim_load hx hb hl h1 (mt_decS hi (nosw (by rw [hk]; decide))) (ih _ _ _ _ _ _ _ _ h2 p e R s m args below meth c H locs b D cs A x0 y0 C hr hlk hnm hl hll hP hS hsz hx0 hy0 hRc hRs hRf hRl)
      · rename_i hk
        obtain ⟨q, h1, h2⟩ := Option.bind_eq_some_iff.mp h
        exact sim_store hx hb hl h1 (mt_decS hi (nosw (by rw [hk]; decide))) (fun A' hl' => ih _ _ _ _ _ _ _ _ h2 p e R s m args below meth c H locs b D cs A' x0 y0 C hr hlk hnm hl' ((storeOp_len h1).trans hll) hP hS hsz hx0 hy0 hRc hRs hRf hRl)
      · rename_i hk
        obtain ⟨q, h1, h2⟩ := Option.bind_eq_some_iff.mp h
        obtain ⟨len, hd, hlen⟩ := mt_dec hi
        exact sim_br hx hb h1 hd hlen (ih _ _ _ _ _ _ _ _ h2 p e R s m args below meth c H locs b D cs A x0 y0 C hr hlk hnm hl hll hP hS hsz hx0 hy0 hRc hRs hRf hRl)
      · rename_i hk
        obtain ⟨st', h1, h2⟩ := Option.bind_eq_some_iff.mp h
        exact sim_hr C hP h1 (mt_decS hi (nosw (by rw [hk]; decide))) (ih _ _ _ _ _ _ _ _ h2 p e R s m args below meth c H locs b D cs A x0 y0 C hr hlk hnm hl hll hP hS hsz hx0 hy0 hRc hRs hRf hRl)
      · rename_i hk
        obtain ⟨q, h1, h2⟩ := Option.bind_eq_some_iff.mp h
        have m1 := heapW_mono h1
        have m2 := ev_mono _ _ _ _ _ _ _ _ _ h2
        have e1 : w.length - x0 + (q.2.length - w.length) = q.2.length - x0 := by omega
        have e2 : wsz w - y0 + (wsz q.2 - wsz w) = wsz q.2 - y0 := by omega
        refine sim_hw C hnm hP hS hbs (by omega) h1 (mt_decS hi (nosw (by rw [hk]; decide))) (by omega) (by omega) (fun H1 locs1 p1 s1 => ?_)
        rw [e1, e2]
        exact ih _ _ _ _ _ _ _ _ h2 p e R s m args below meth c H1 locs1 b D cs A x0 y0 C hr hlk hnm hl hll p1 s1 hsz (by omega) (by omega) hRc hRs hRf hRl
      · rename_i hk
        have hd := mt_decS hi (nosw (by rw [hk]; decide))
        rw [len_call (j := j) hk] at hd
        split at h
        · rename_i cl hcl
          split at h
          · cases h
          · rename_i d'
            split at h
            · rename_i hla
              obtain ⟨r, h1, h2⟩ := Option.bind_eq_some_iff.mp h
              obtain ⟨w1, rv1⟩ := r
              have m1 := ev_mono _ _ _ _ _ _ _ _ _ h1
              have m2 := ev_mono _ _ _ _ _ _ _ _ _ h2
              obtain ⟨i0, hi0⟩ := ev_ins h1
              obtain ⟨q, hq⟩ := mt_of hi0
              have e1 : w.length - x0 + (w1.length - w.length) = w1.length - x0 := by omega
              have e2 : wsz w - y0 + (wsz w1 - wsz w) = wsz w1 - y0 := by omega
              dsimp only at m1 m2 h2
              refine sim_call C hA hP hS hbs (by omega) hcl hd (d := d') (by omega) (by omega) hq (met_of ih h1 hla b D cs) (by omega) (by omega) (fun H1 locs1 p1 s1 => ?_)
              rw [e1, e2]
              exact ih _ _ _ _ _ _ _ _ h2 p e R s m args below meth c H1 locs1 b D cs A x0 y0 C hr hlk hnm hl hll p1 s1 hsz (by omega) (by omega) hRc hRs hRf hRl
            · cases h
        · obtain ⟨q, h1, h2⟩ := Option.bind_eq_some_iff.mp h
          have m1 := natOp_mono h1
          refine sim_nat C hA hP hS h1 hd (by omega) (by omega) (by omega) (by omega) (fun H1 locs1 p1 s1 => ?_)
          have := ih _ _ _ _ _ _ _ _ h2 p e R s m args below meth c H1 locs1 b D cs A x0 y0 C hr hlk hnm hl hll p1 s1 hsz (by omega) (by omega) hRc hRs hRf hRl
          rw [m1.1, m1.2] at this
          exact this
      · rename_i hk0 hk1 hk2 hk3 hk4 hk5 hk6
        obtain ⟨v, h1, h2⟩ := Option.map_eq_some_iff.mp h
        cases h2
        have hd := mt_decS hi (nosw hk3)
        rw [len_ret h1] at hd
        exact sim_ret hx hb hr hlk h1 hd (fun t ht _ => ⟨rfl, by rw [ht]; exact hP, hS.F ht⟩) hS.2.2
