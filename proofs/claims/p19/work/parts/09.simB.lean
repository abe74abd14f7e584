/-! THE WORLD of the pure machine in the true heap: cell i lies at the address b + i -/
abbrev CS : Type := ClassId × ClassId × ClassId × ClassId
def asI : Value → Int32
  | .int x => x
  | _ => 0
def asR (b : Nat) : Value → Option Nat
  | .ref i => some (b + i)
  | _ => none
def trE (b : Nat) (cs : CS) (q : Nat × List Value) : va_E :=
  if q.1 = 100 then .inl (cs.1, q.2.length, .inl (fun k => asI (q.2.getD k .null)))
  else if q.1 = 101 then .inl (cs.2.1, q.2.length, .inl (fun k => asI (q.2.getD k .null)))
  else if q.1 = 102 then .inl (cs.2.2.1, q.2.length, .inr (.inr (.inr (.inr (fun k => asR b (q.2.getD k .null))))))
  else if q.1 = 103 then .inl (cs.2.2.2, q.2.length, .inr (.inr (.inr (.inr (fun k => asR b (q.2.getD k .null))))))
  else .inr (q.1, q.2.map (tr b))
def trW (b : Nat) (cs : CS) (w : Wd) : va_W := w.mapIdx (fun i q => (b + i, trE b cs q))
def tysC (cs : CS) : List (ClassId × FieldType) := [(cs.1, .int), (cs.2.1, .boolean), (cs.2.2.1, .object "SupperTales$Scroll"), (cs.2.2.2, .object "SupperTales$Telling")]
def nwl : List Cond := ftabN.map fwdN ++ (ctab.filter isN).map cwdN
theorem trW_get {b : Nat} {cs : CS} {w : Wd} {i : Nat} {q : Nat × List Value} (h : w[i]? = some q) : (trW b cs w)[i]? = some (b + i, trE b cs q) := by
  simp [trW, List.getElem?_mapIdx, h]
theorem trW_inv {b : Nat} {cs : CS} {w : Wd} {i : Nat} {x : Nat × va_E} (h : (trW b cs w)[i]? = some x) : ∃ q, w[i]? = some q ∧ x = (b + i, trE b cs q) := by
  simp only [trW, List.getElem?_mapIdx, Option.map_eq_some_iff] at h
  obtain ⟨q, h1, h2⟩ := h
  exact ⟨q, h1, h2.symm⟩
theorem trW_set {b : Nat} {cs : CS} {w : Wd} {i : Nat} (q : Nat × List Value) : (trW b cs w).set i (b + i, trE b cs q) = trW b cs (w.set i q) := by
  apply List.ext_getElem?
  intro k
  simp only [trW, List.getElem?_set, List.getElem?_mapIdx, List.length_mapIdx]
  by_cases h : i = k
  · subst h
    by_cases h2 : i < w.length
    · simp [h2]
    · simp [h2]
  · simp [h]
theorem trW_push {b : Nat} {cs : CS} {w : Wd} (q : Nat × List Value) : trW b cs w ++ [(b + w.length, trE b cs q)] = trW b cs (w ++ [q]) := by
  simp [trW, List.mapIdx_append]
theorem trW_len {b : Nat} {cs : CS} {w : Wd} : (trW b cs w).length = w.length := by simp [trW]
theorem trW_D {b : Nat} {cs : CS} {w : Wd} : va_D (fun q => b ≤ q) (trW b cs w) := by
  refine ⟨fun i j x y hi hj hxy => ?_, fun k q hk => ?_⟩
  · obtain ⟨_, -, rfl⟩ := trW_inv hi
    obtain ⟨_, -, rfl⟩ := trW_inv hj
    have : b + i = b + j := hxy
    omega
  · obtain ⟨_, -, rfl⟩ := trW_inv hk
    exact Nat.le_add_right b k
theorem trE_o {b : Nat} {cs : CS} {q : Nat × List Value} (h : q.1 < 9) : trE b cs q = .inr (q.1, q.2.map (tr b)) := by
  unfold trE
  rw [if_neg (by omega), if_neg (by omega), if_neg (by omega), if_neg (by omega)]
theorem vw_lt {ci : Nat} {r : vw_C} (h : vwCl[ci]? = some r) : ci < 9 := (List.getElem?_eq_some_iff.mp h).1
theorem nf_some {ci k : Nat} (h : k < nfC ci) : ∃ r, vwCl[ci]? = some r ∧ nfC ci = r.2.2 := by
  unfold nfC at h ⊢
  cases hq : vwCl[ci]? with
  | none => rw [hq] at h; exact absurd h (Nat.not_lt_zero _)
  | some q => exact ⟨q, rfl, rfl⟩
theorem cls_ok : ∀ (ci : Nat) (r : vw_C), vwCl[ci]? = some r → r.1 = RC ci ∧ (∀ k, k < r.2.2 → parseFieldDescriptor (r.2.1 k).2.2.1 = some (tyC ci k)) ∧ (∀ a, a < r.2.2 → ∀ b, b < r.2.2 → a ≠ b → (r.2.1 a).2.1 ≠ (r.2.1 b).2.1) := by
  intro ci r h
  have hl := vw_lt h
  match ci, hl with
  | 0, _ => cases h; exact ⟨rfl, tyX0_ok, nmX0⟩
  | 1, _ => cases h; exact ⟨rfl, tyX1_ok, nmX1⟩
  | 2, _ => cases h; exact ⟨rfl, tyX2_ok, nmX2⟩
  | 3, _ => cases h; exact ⟨rfl, tyX3_ok, nmX3⟩
  | 4, _ => cases h; exact ⟨rfl, tyX4_ok, nmX4⟩
  | 5, _ => cases h; exact ⟨rfl, tyX5_ok, nmX5⟩
  | 6, _ => cases h; exact ⟨rfl, tyX6_ok, nmX6⟩
  | 7, _ => cases h; exact ⟨rfl, tyX7_ok, nmX7⟩
  | 8, _ => cases h; exact ⟨rfl, tyX8_ok, nmX8⟩
theorem decl_ok : ∀ (ci : Nat) (r : vw_C), vwCl[ci]? = some r → ∀ k, k < r.2.2 → (r.2.1 k).1 = RC ci := by
  intro ci r h
  have hl := vw_lt h
  match ci, hl with
  | 0, _ => cases h; decide +kernel
  | 1, _ => cases h; decide +kernel
  | 2, _ => cases h; decide +kernel
  | 3, _ => cases h; decide +kernel
  | 4, _ => cases h; decide +kernel
  | 5, _ => cases h; decide +kernel
  | 6, _ => cases h; decide +kernel
  | 7, _ => cases h; decide +kernel
  | 8, _ => cases h; decide +kernel
/-- what a walk has beside the heap: the machine, the words, the classes -/
def Cx (p : Program) (m : MethodId) (c : Code) (s : State) (args : Array Value) (cc : ByteArray) (nL : Nat) (own : String) (D : va_G) (cs : CS) : Prop :=
  CallFix p m c cc nL s args tw own ∧ (∀ w ∈ nwl, va_Nw w s) ∧ (va_AO "SupperTales$Scroll" s ∧ va_AO "SupperTales$Telling" s) ∧ va_K D vwCl (tysC cs) s
section SimB
variable {p : Program} {l : Launch} {e : Env} {R : Room} {s : State} {m : MethodId} {args : Array Value} {below : List Frame} {meth : Method} {c : Code} {H : Heap} {locs : List Loc} {cells slots : Nat} {Q : State → Prop}
variable {cc : ByteArray} {pc ow b nL : Nat} {A : Array Slot} {i : Instr} {D : va_G} {cs : CS} {w : Wd}
theorem W_sz {g : JFrame} (h : H.size ≤ s.heap.size + cells → W p l e R s m args below meth c H locs cells slots Q g) : W p l e R s m args below meth c H locs cells slots Q g := by
  intro T hT X
  refine h ?_ T hT X
  have h1 := X.same.2.2.1
  rw [← hT]
  exact h1
theorem P_sz (hP : va_P D vwCl (trW b cs w) H) (hb : b ≤ H.size) : b + w.length ≤ H.size := by
  by_cases h : w.length = 0
  · omega
  · have hk : w.length - 1 < w.length := by omega
    have h1 := (hP (w.length - 1) _ (trW_get (List.getElem?_eq_getElem hk))).lt
    have h2 : b + (w.length - 1) < H.size := h1
    omega
theorem fld_mem {f : Nat × Nat} {idx : Nat} (h : fldT ow idx = some f) : ((ow, idx), f) ∈ ftab ∨ ((ow, idx), f) ∈ ftabN := List.mem_append.mp (lk_mem h)
set_option maxHeartbeats 4000000 in
theorem sim_get {idx ad : Nat} {f : Nat × Nat} {q : Nat × List Value} {v : Value} {rest : List Value} (C : Cx p m c s args cc nL (RC ow) D cs) (hP : va_P D vwCl (trW b cs w) H) (hf : fldT ow idx = some f) (hq : w[ad]? = some q) (h1 : q.1 = f.1) (h2 : f.2 < nfC f.1) (hv : q.2[f.2]? = some v) (hd : decode cc pc = .ok (.getfield idx, 3))
    (k : W p l e R s m args below meth c H locs cells slots Q (F0 m (pc + 3) A (tr b v :: rest))) : W p l e R s m args below meth c H locs cells slots Q (F0 m pc A (.ref (b + ad) :: rest)) := by
  obtain ⟨⟨hx, hb, hml, hown, hts⟩, hN, hAO, hK⟩ := C
  obtain ⟨r, hr, hn⟩ := nf_some h2
  have hl := vw_lt hr
  have he : (trW b cs w)[ad]? = some (b + ad, .inr (f.1, q.2.map (tr b))) := by rw [trW_get hq, trE_o (by omega), h1]
  have hv' : (q.2.map (tr b))[f.2]? = some (tr b v) := by rw [List.getElem?_map, hv]; rfl
  have hin : ∀ w ∈ u_ws r.1 r.2.1 r.2.2, w ∈ tw := utab_in r (List.mem_of_getElem? hr)
  rcases fld_mem hf with hm | hm
  · have hw := ftab_in _ hm
    simp only [fwd, hr] at hw
    exact va_get hx hb hts hin hown hK hP ad he hr f.2 (hn ▸ h2) (hts _ hw) (fun _ h => h) hv' hd k
  · have hw := hN (fwdN ((ow, idx), f)) (List.mem_append_left _ (List.mem_map_of_mem hm))
    simp only [fwdN, hr] at hw
    exact va_getN hx hb hts hin hown hK hP ad he hr f.2 (hn ▸ h2) (va_Nw.use rfl hw) (fun _ h => h) hv' hd k
theorem getD_of {vs : List Value} {k : Nat} {v : Value} (h : vs[k]? = some v) : vs.getD k .null = v := by simp [List.getD_eq_getElem?_getD, h]
theorem lt_of {α : Type} {vs : List α} {k : Nat} {v : α} (h : vs[k]? = some v) : k < vs.length := (List.getElem?_eq_some_iff.mp h).1
theorem vin_of {x : Int32} {n : Nat} (h0 : ¬ x < 0) (h : x.toNatClampNeg < n) : vp_in x n := fun z => z.elim h0 (fun z => by omega)
theorem elA_spec {t ad : Nat} {x : Int32} {v : Value} (h : elA w t ad x = some v) : ∃ q, w[ad]? = some q ∧ q.1 = t ∧ ¬ x < 0 ∧ q.2[x.toNatClampNeg]? = some v := by
  unfold elA at h
  split at h
  · rename_i q hq
    split at h
    · rename_i hc
      exact ⟨q, hq, hc.1, hc.2, h⟩
    · cases h
  · cases h
set_option maxHeartbeats 4000000 in
theorem sim_hr {st st' : List Value} (C : Cx p m c s args cc nL (RC ow) D cs) (hP : va_P D vwCl (trW b cs w) H) (h : heapR ow i st w = some st') (hd : decode cc pc = .ok (i, stdLen i))
    (k : W p l e R s m args below meth c H locs cells slots Q (F0 m (pc + stdLen i) A (st'.map (tr b)))) : W p l e R s m args below meth c H locs cells slots Q (F0 m pc A (st.map (tr b))) := by
  unfold heapR at h
  split at h
  · obtain ⟨f, hf, h1⟩ := Option.bind_eq_some_iff.mp h
    obtain ⟨v, h2, rfl⟩ := Option.map_eq_some_iff.mp h1
    unfold gfR at h2
    split at h2
    · rename_i q hq
      split at h2
      · rename_i hc
        exact sim_get C hP hf hq hc.1 hc.2 h2 hd k
      · cases h2
    · cases h2
  · obtain ⟨v, h2, rfl⟩ := Option.map_eq_some_iff.mp h
    obtain ⟨y, h3, rfl⟩ := wI_spec h2
    obtain ⟨q, hq, ht, h0, hv⟩ := elA_spec h3
    obtain ⟨⟨hx, hb, hml, hown, hts⟩, hN, hAO, hK⟩ := C
    have he := trW_get (b := b) (cs := cs) hq
    unfold trE at he
    rw [if_pos ht] at he
    refine va_iald hx hb hK hP _ 0 he rfl (vin_of h0 (lt_of hv)) hd ?_
    rw [getD_of hv]
    exact k
  · obtain ⟨v, h2, rfl⟩ := Option.map_eq_some_iff.mp h
    obtain ⟨y, h3, rfl⟩ := wI_spec h2
    obtain ⟨q, hq, ht, h0, hv⟩ := elA_spec h3
    obtain ⟨⟨hx, hb, hml, hown, hts⟩, hN, hAO, hK⟩ := C
    have he := trW_get (b := b) (cs := cs) hq
    unfold trE at he
    rw [if_neg (by omega), if_pos ht] at he
    refine va_zald hx hb hK hP _ 1 he rfl (vin_of h0 (lt_of hv)) hd ?_
    rw [getD_of hv]
    exact k
  · obtain ⟨v, h2, rfl⟩ := Option.map_eq_some_iff.mp h
    unfold aaR at h2
    split at h2
    · rename_i q hq
      split at h2
      · rename_i hc
        obtain ⟨y, hv, rfl⟩ := wR_spec h2
        obtain ⟨⟨hx, hb, hml, hown, hts⟩, hN, hAO, hK⟩ := C
        have he := trW_get (b := b) (cs := cs) hq
        unfold trE at he
        rcases hc.1 with ht | ht
        · rw [if_neg (by omega), if_neg (by omega), if_pos ht] at he
          refine va_aldq hx hb hK hP _ 2 he rfl (vin_of hc.2 (lt_of hv)) hd ?_
          rw [getD_of hv]
          exact k
        · rw [if_neg (by omega), if_neg (by omega), if_neg (by omega), if_pos ht] at he
          refine va_aldq hx hb hK hP _ 3 he rfl (vin_of hc.2 (lt_of hv)) hd ?_
          rw [getD_of hv]
          exact k
      · cases h2
    · cases h2
  · obtain ⟨v, h2, rfl⟩ := Option.map_eq_some_iff.mp h
    unfold alR at h2
    split at h2
    · rename_i q hq
      split at h2
      · rename_i hc
        cases h2
        obtain ⟨⟨hx, hb, hml, hown, hts⟩, hN, hAO, hK⟩ := C
        have he := trW_get (b := b) (cs := cs) hq
        unfold trE at he
        rcases (by omega : q.1 = 100 ∨ q.1 = 101 ∨ q.1 = 102 ∨ q.1 = 103) with ht | ht | ht | ht
        · rw [if_pos ht] at he
          exact va_alen hx hb hK hP _ 0 he rfl rfl hd k
        · rw [if_neg (by omega), if_pos ht] at he
          exact va_alen hx hb hK hP _ 1 he rfl rfl hd k
        · rw [if_neg (by omega), if_neg (by omega), if_pos ht] at he
          exact va_alen hx hb hK hP _ 2 he rfl rfl hd k
        · rw [if_neg (by omega), if_neg (by omega), if_neg (by omega), if_pos ht] at he
          exact va_alen hx hb hK hP _ 3 he rfl rfl hd k
      · cases h2
    · cases h2
  · cases h
end SimB
