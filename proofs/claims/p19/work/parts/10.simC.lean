/-! THE HEAP WRITTEN -/
def wsz (w : Wd) : Nat := (w.map (fun q => q.2.length)).sum
theorem wsz_push (w : Wd) (q : Nat × List Value) : wsz (w ++ [q]) = wsz w + q.2.length := by simp [wsz]
theorem wsz_set : ∀ (w : Wd) (i : Nat) (q q' : Nat × List Value), w[i]? = some q → q'.2.length = q.2.length → wsz (w.set i q') = wsz w
  | [], i, q, q', h, _ => by simp at h
  | a :: w, 0, q, q', h, hl => by
    simp at h
    subst h
    simp [wsz, hl]
  | a :: w, i + 1, q, q', h, hl => by
    have := wsz_set w i q q' (by simpa using h) hl
    simp only [wsz, List.set_cons_succ, List.map_cons, List.sum_cons] at this ⊢
    omega
theorem catS_tr {b : Nat} (st : List Value) : ((st.map (tr b)).map (fun v => v.category)).sum = catS st := by
  unfold catS
  rw [List.map_map]
  congr 1
  apply List.map_congr_left
  intro v _
  exact tr_cat b v
theorem okT_spec {b : Nat} {ty : FieldType} {v : Value} (h : okT ty v = true) : narrow ty (tr b v) = tr b v ∧ fits ty (tr b v) = true := by
  unfold okT at h
  split at h
  · exact ⟨rfl, rfl⟩
  · rename_i x
    simp only [Bool.or_eq_true, beq_iff_eq] at h
    rcases h with rfl | rfl <;> exact ⟨rfl, rfl⟩
  · exact ⟨rfl, rfl⟩
  · exact ⟨rfl, rfl⟩
  · exact ⟨rfl, rfl⟩
  · cases h
theorem int32_2000 {n : Int32} (h0 : ¬ n < 0) (h : ¬ 2000 < n) : n.toNatClampNeg ≤ 2000 := by
  have h1 : n.toInt ≤ 2000 := by
    have := Int32.not_lt.mp h
    simpa using Int32.le_iff_toInt_le.mp this
  show n.toInt.toNat ≤ 2000
  omega
section SimC
variable {p : Program} {l : Launch} {e : Env} {R : Room} {s : State} {m : MethodId} {args : Array Value} {below : List Frame} {meth : Method} {c : Code} {H : Heap} {locs : List Loc} {cells slots : Nat} {Q : State → Prop}
variable {cc : ByteArray} {pc ow b nL j : Nat} {A : Array Slot} {i : Instr} {D : va_G} {cs : CS} {w : Wd}
theorem trE_arr {t : Nat} {vs : List Value} {k : Nat} {x : Int32} (hk : k < vs.length) : (fun z => asI ((vs.set k (.int x)).getD z .null)) = upd (fun z => asI (vs.getD z .null)) k x := by
  funext z
  by_cases h : z = k
  · subst h
    simp [upd, List.getD_eq_getElem?_getD, hk, asI]
  · simp [upd, h, List.getD_eq_getElem?_getD, List.getElem?_set, Ne.symm h]
theorem trE_arq {vs : List Value} {k r : Nat} (hk : k < vs.length) : (fun z => asR b ((vs.set k (.ref r)).getD z .null)) = va_up (fun z => asR b (vs.getD z .null)) k (some (b + r)) := by
  funext z
  by_cases h : z = k
  · subst h
    simp [va_up, List.getD_eq_getElem?_getD, hk, asR]
  · simp [va_up, h, List.getD_eq_getElem?_getD, List.getElem?_set, Ne.symm h]
theorem new_addr {q : Nat} {E : va_E} {H1 : Heap} (hP : va_P D vwCl (trW b cs w ++ [(q, E)]) H1) (hD : va_D (fun q => b ≤ q) (trW b cs w ++ [(q, E)])) (hz : H1.size ≤ b + w.length + 1) : q = b + w.length := by
  have hl : (trW b cs w ++ [(q, E)])[w.length]? = some (q, E) := by
    rw [List.getElem?_append_right (by rw [trW_len]; omega), trW_len, Nat.sub_self]
    rfl
  have h1 : b ≤ q := hD.2 _ _ hl
  have h2 : q < H1.size := (hP _ _ hl).lt
  by_cases h : q = b + w.length
  · exact h
  · exfalso
    have hk : q - b < w.length := by omega
    have hg : (trW b cs w ++ [(q, E)])[q - b]? = some (b + (q - b), trE b cs w[q - b]) := by
      rw [List.getElem?_append_left (by rw [trW_len]; exact hk)]
      exact trW_get (List.getElem?_eq_getElem hk)
    have := hD.1 (q - b) w.length _ _ hg hl (by show b + (q - b) = q; omega)
    omega
theorem asW_spec {t ad : Nat} {x : Int32} {v : Value} {w' : Wd} (h : asW w t ad x v = some w') : ∃ q, w[ad]? = some q ∧ q.1 = t ∧ ¬ x < 0 ∧ x.toNatClampNeg < q.2.length ∧ w' = w.set ad (q.1, q.2.set x.toNatClampNeg v) := by
  unfold asW at h
  split at h
  · rename_i q hq
    split at h
    · rename_i hc
      cases h
      exact ⟨q, hq, hc.1, hc.2.1, hc.2.2, rfl⟩
    · cases h
  · cases h
theorem cell_same {w' : Wd} {ad : Nat} {q q' : Nat × List Value} (hq : w[ad]? = some q) (hl : q'.2.length = q.2.length) (hw : w' = w.set ad q') : w'.length = w.length ∧ wsz w' = wsz w := by
  subst hw
  exact ⟨List.length_set, wsz_set w ad q q' hq hl⟩
set_option maxHeartbeats 4000000 in
theorem sim_hw {st : List Value} {q : List Value × Wd} (C : Cx p m c s args cc nL (RC (owc j)) D cs) (hnm : meth.name = (yj j).name) (hP : va_P D vwCl (trW b cs w) H) (hS : va_S (fun q => b ≤ q) s.heap H locs) (hbs : b ≤ s.heap.size) (hsz : s.heap.size + cells = b + w.length) (h : heapW j i st w = some q) (hd : decode cc pc = .ok (i, stdLen i))
    (hc : cells + (q.2.length - w.length) ≤ R.cells) (hsl : slots + (wsz q.2 - wsz w) ≤ R.slots)
    (k : ∀ (H1 : Heap) (locs1 : List Loc), va_P D vwCl (trW b cs q.2) H1 → va_S (fun q => b ≤ q) s.heap H1 locs1 → W p l e R s m args below meth c H1 locs1 (cells + (q.2.length - w.length)) (slots + (wsz q.2 - wsz w)) Q (F0 m (pc + stdLen i) A (q.1.map (tr b)))) : W p l e R s m args below meth c H locs cells slots Q (F0 m pc A (st.map (tr b))) := by
  obtain ⟨⟨hx, hb, hml, hown, hts⟩, hN, hAO, hK⟩ := C
  have hA : ∀ q, s.heap.size ≤ q → b ≤ q := fun q h => Nat.le_trans hbs h
  unfold heapW at h
  split at h
  · rename_i idx v ad st0
    obtain ⟨f, hf, h1⟩ := Option.bind_eq_some_iff.mp h
    obtain ⟨w', h2, rfl⟩ := Option.map_eq_some_iff.mp h1
    unfold pfW at h2
    split at h2
    · rename_i q hq
      split at h2
      · rename_i hcd
        obtain ⟨c1, c2, c3, c4, c5⟩ := hcd
        cases h2
        obtain ⟨r, hr, hn⟩ := nf_some c2
        have hl := vw_lt hr
        have he : (trW b cs w)[ad]? = some (b + ad, .inr (f.1, q.2.map (tr b))) := by rw [trW_get hq, trE_o (by omega), c1]
        have hin : ∀ w ∈ u_ws r.1 r.2.1 r.2.2, w ∈ tw := utab_in r (List.mem_of_getElem? hr)
        obtain ⟨g1, g2, g3⟩ := cls_ok f.1 r hr
        have hw := ftab_in _ (lk_mem hf)
        simp only [fwd, hr] at hw
        obtain ⟨o1, o2⟩ := okT_spec (b := b) c4
        obtain ⟨z1, z2⟩ := cell_same (q' := (q.1, q.2.set f.2 v)) hq (by simp) rfl
        have hfl : f.2 < (q.2.map (tr b)).length := by rw [List.length_map]; exact c3
        have key : ∀ (H1 : Heap) (locs1 : List Loc), va_P D vwCl ((trW b cs w).set ad (b + ad, .inr (f.1, (q.2.map (tr b)).set f.2 (tr b v)))) H1 → va_D (fun q => b ≤ q) ((trW b cs w).set ad (b + ad, .inr (f.1, (q.2.map (tr b)).set f.2 (tr b v)))) → va_S (fun q => b ≤ q) s.heap H1 locs1 → W p l e R s m args below meth c H1 locs1 cells slots Q (F0 m (pc + 3) A (st0.map (tr b))) := by
          intro H1 locs1 p1 _ s1
          have e1 : (Sum.inr (f.1, (q.2.map (tr b)).set f.2 (tr b v)) : va_E) = trE b cs (q.1, q.2.set f.2 v) := by
            rw [trE_o (show (q.1, q.2.set f.2 v).1 < 9 by show q.1 < 9; omega), c1, List.map_set]
          rw [e1, trW_set] at p1
          have := k H1 locs1 p1 s1
          simp only [z1, z2, Nat.sub_self, Nat.add_zero] at this
          exact this
        by_cases hfin : finC f.1 f.2 = true
        · have hfin' : (r.2.1 f.2).2.2.2 = true := by
            unfold finC at hfin
            rw [hr] at hfin
            exact hfin
          obtain ⟨i1, i2⟩ := c5 hfin
          exact va_putF hx hb hts hin (tyC f.1) g2 g3 hown hK hP trW_D hS ad he hr f.2 (hn ▸ c2) (hts _ hw) (fun _ h => h) hfin' (hnm.trans i1) (by rw [decl_ok f.1 r hr f.2 (hn ▸ c2), i2]) (g2 f.2 (hn ▸ c2)) o1 o2 hfl hd key
        · have hfin' : (r.2.1 f.2).2.2.2 = false := by
            unfold finC at hfin
            rw [hr] at hfin
            simpa using hfin
          exact va_put hx hb hts hin (tyC f.1) g2 g3 hown hK hP trW_D hS ad he hr f.2 (hn ▸ c2) (hts _ hw) (fun _ h => h) hfin' (g2 f.2 (hn ▸ c2)) o1 o2 hfl hd key
      · cases h2
    · cases h2
  · rename_i v x ad st0
    obtain ⟨w', h2, rfl⟩ := Option.map_eq_some_iff.mp h
    obtain ⟨q, hq, ht, h0, hlt, rfl⟩ := asW_spec h2
    have he := trW_get (b := b) (cs := cs) hq
    unfold trE at he
    rw [if_pos ht] at he
    refine va_iast hx hb hK hP trW_D hS _ 0 he rfl (vin_of h0 hlt) hd (fun H1 locs1 p1 _ s1 => ?_)
    rw [← trE_arr (t := 0) hlt] at p1
    have e1 : (Sum.inl (cs.1, q.2.length, .inl (fun z => asI ((q.2.set x.toNatClampNeg (.int v)).getD z .null))) : va_E) = trE b cs (q.1, q.2.set x.toNatClampNeg (.int v)) := by
      unfold trE
      rw [if_pos ht, List.length_set]
    rw [e1, trW_set] at p1
    obtain ⟨z1, z2⟩ := cell_same (q' := (q.1, q.2.set x.toNatClampNeg (.int v))) hq (by simp) rfl
    have := k H1 locs1 p1 s1
    simp only [z1, z2, Nat.sub_self, Nat.add_zero] at this
    exact this
  · split at h
    · rename_i v x ad st0 hv
      obtain ⟨w', h2, rfl⟩ := Option.map_eq_some_iff.mp h
      obtain ⟨q, hq, ht, h0, hlt, rfl⟩ := asW_spec h2
      have he := trW_get (b := b) (cs := cs) hq
      unfold trE at he
      rw [if_neg (by omega), if_pos ht] at he
      refine va_zast hx hb hK hP trW_D hS _ 1 he rfl (vin_of h0 hlt) hd (fun H1 locs1 p1 _ s1 => ?_)
      have hv2 : vp_nar .boolean v = v := by rcases hv with rfl | rfl <;> rfl
      rw [hv2, ← trE_arr (t := 0) hlt] at p1
      have e1 : (Sum.inl (cs.2.1, q.2.length, .inl (fun z => asI ((q.2.set x.toNatClampNeg (.int v)).getD z .null))) : va_E) = trE b cs (q.1, q.2.set x.toNatClampNeg (.int v)) := by
        unfold trE
        rw [if_neg (by show ¬ q.1 = 100; omega), if_pos ht, List.length_set]
      rw [e1, trW_set] at p1
      obtain ⟨z1, z2⟩ := cell_same (q' := (q.1, q.2.set x.toNatClampNeg (.int v))) hq (by simp) rfl
      have := k H1 locs1 p1 s1
      simp only [z1, z2, Nat.sub_self, Nat.add_zero] at this
      exact this
    · cases h
  · rename_i r x ad st0
    obtain ⟨w', h2, rfl⟩ := Option.map_eq_some_iff.mp h
    unfold aaW at h2
    split at h2
    · rename_i q u hq hu
      split at h2
      · rename_i hcd
        obtain ⟨c1, c2, c3, c4⟩ := hcd
        cases h2
        have he := trW_get (b := b) (cs := cs) hq
        unfold trE at he
        obtain ⟨z1, z2⟩ := cell_same (q' := (q.1, q.2.set x.toNatClampNeg (.ref r))) hq (by simp) rfl
        rcases c1 with ht | ht
        · have hu1 : u.1 = 2 := by rw [c2, ht]; rfl
          have hv : (trW b cs w)[r]? = some (b + r, .inr (2, u.2.map (tr b))) := by rw [trW_get hu, trE_o (by omega), hu1]
          rw [if_neg (by omega), if_neg (by omega), if_pos ht] at he
          refine va_astq hx hb hK hP trW_D hS ad 2 r 2 he rfl hv rfl (vin_of c3 c4) hd (fun H1 locs1 p1 _ s1 => ?_)
          rw [← trE_arq c4] at p1
          have e1 : (Sum.inl (cs.2.2.1, q.2.length, .inr (.inr (.inr (.inr (fun z => asR b ((q.2.set x.toNatClampNeg (.ref r)).getD z .null)))))) : va_E) = trE b cs (q.1, q.2.set x.toNatClampNeg (.ref r)) := by
            unfold trE
            rw [if_neg (by show ¬ q.1 = 100; omega), if_neg (by show ¬ q.1 = 101; omega), if_pos ht, List.length_set]
          rw [e1, trW_set] at p1
          have := k H1 locs1 p1 s1
          simp only [z1, z2, Nat.sub_self, Nat.add_zero] at this
          exact this
        · have hu1 : u.1 = 6 := by rw [c2, ht]; rfl
          have hv : (trW b cs w)[r]? = some (b + r, .inr (6, u.2.map (tr b))) := by rw [trW_get hu, trE_o (by omega), hu1]
          rw [if_neg (by omega), if_neg (by omega), if_neg (by omega), if_pos ht] at he
          refine va_astq hx hb hK hP trW_D hS ad 3 r 6 he rfl hv rfl (vin_of c3 c4) hd (fun H1 locs1 p1 _ s1 => ?_)
          rw [← trE_arq c4] at p1
          have e1 : (Sum.inl (cs.2.2.2, q.2.length, .inr (.inr (.inr (.inr (fun z => asR b ((q.2.set x.toNatClampNeg (.ref r)).getD z .null)))))) : va_E) = trE b cs (q.1, q.2.set x.toNatClampNeg (.ref r)) := by
            unfold trE
            rw [if_neg (by show ¬ q.1 = 100; omega), if_neg (by show ¬ q.1 = 101; omega), if_neg (by show ¬ q.1 = 102; omega), if_pos ht, List.length_set]
          rw [e1, trW_set] at p1
          have := k H1 locs1 p1 s1
          simp only [z1, z2, Nat.sub_self, Nat.add_zero] at this
          exact this
      · cases h2
    · cases h2
  · rename_i idx
    split at h
    · rename_i ci hci
      split at h
      · rename_i hlt
        cases h
        have hr : vwCl[ci]? = some vwCl[ci] := List.getElem?_eq_getElem hlt
        generalize vwCl[ci] = r at hr
        obtain ⟨g1, g2, g3⟩ := cls_ok ci r hr
        have hin : ∀ w ∈ u_ws r.1 r.2.1 r.2.2, w ∈ tw := utab_in r (List.mem_of_getElem? hr)
        have hii := itab_in r (List.mem_of_getElem? hr)
        have hcl := ntab_in _ (lk_mem hci)
        dsimp only at hcl
        rw [← g1] at hcl
        have hnf : nfC ci = r.2.2 := by unfold nfC; rw [hr]
        have hlen : (newO ci).2.length = r.2.2 := by simp [newO, hnf]
        have e0 : (w ++ [newO ci]).length - w.length = 1 := by simp
        have e00 : wsz (w ++ [newO ci]) - wsz w = r.2.2 := by rw [wsz_push, hlen]; omega
        dsimp only at hc hsl k
        rw [e0] at hc k
        rw [e00] at hsl k
        refine va_new (fs := (newO ci).2.map (tr b)) hx hb hts hin (tyC ci) g2 hown (hts _ hcl) (hts _ (hii _ (by simp))) (hts _ (hii _ (by simp))) hK hP trW_D hS hA hr (fun z hz => ?_) hc hsl hd (fun q H1 p1 d1 s1 => ?_)
        · have hz2 : z < nfC ci := by rw [hnf]; exact hz
          simp only [vp_V, newO, List.getD_eq_getElem?_getD, List.getElem?_map, List.getElem?_range hz2, Option.map_some, Option.getD_some]
          cases tyC ci z <;> rfl
        · refine W_sz (fun hz => ?_)
          have hq := new_addr p1 d1 (by omega)
          subst hq
          have e1 : (Sum.inr (ci, (newO ci).2.map (tr b)) : va_E) = trE b cs (newO ci) := (trE_o (show (newO ci).1 < 9 from hlt)).symm
          rw [e1, trW_push] at p1
          exact k H1 locs p1 s1
      · cases h
    · cases h
  · split at h
    · cases h
    · rename_i n st0 hn
      cases h
      have h0 : ¬ n < 0 := fun z => hn (Or.inl z)
      have h2 : n.toNatClampNeg ≤ 2000 := int32_2000 h0 (fun z => hn (Or.inr z))
      have e0 : (w ++ [((100 : Nat), List.replicate n.toNatClampNeg (Value.int 0))]).length - w.length = 1 := by simp
      have e00 : wsz (w ++ [((100 : Nat), List.replicate n.toNatClampNeg (Value.int 0))]) - wsz w = n.toNatClampNeg := by rw [wsz_push, List.length_replicate]; omega
      dsimp only at hc hsl k
      rw [e0] at hc k
      rw [e00] at hsl k
      refine va_newa (a0 := (n.toNatClampNeg, .inl (fun _ => 0))) hx hb (hts _ (misc_in _ (by simp [newarray.typeOf]))) rfl hK hP trW_D hS hA (fun cA => rfl) h0 rfl (by show n.toNatClampNeg * 4 ≤ 536870912; omega) hc hsl hd (fun q cA H1 k1 p1 d1 s1 => ?_)
      refine W_sz (fun hz => ?_)
      have hq := new_addr p1 d1 (by omega)
      subst hq
      have hcA : cA = cs.1 := Option.some.inj (((k1.2 4 (cA, .int) rfl).2).symm.trans (hK.2 0 (cs.1, .int) rfl).2)
      subst hcA
      have e1 : (Sum.inl (cs.1, n.toNatClampNeg, .inl (fun _ => (0 : Int32))) : va_E) = trE b cs ((100 : Nat), List.replicate n.toNatClampNeg (Value.int 0)) := by
        unfold trE
        rw [if_pos rfl, List.length_replicate]
        congr 4
        funext z
        by_cases hz : z < n.toNatClampNeg <;> simp [List.getD_eq_getElem?_getD, List.getElem?_replicate, hz, asI]
      rw [e1, trW_push] at p1
      exact k H1 locs p1 s1
  · split at h
    · cases h
    · rename_i n st0 hn
      cases h
      have h0 : ¬ n < 0 := fun z => hn (Or.inl z)
      have h2 : n.toNatClampNeg ≤ 2000 := int32_2000 h0 (fun z => hn (Or.inr z))
      have e0 : (w ++ [((101 : Nat), List.replicate n.toNatClampNeg (Value.int 0))]).length - w.length = 1 := by simp
      have e00 : wsz (w ++ [((101 : Nat), List.replicate n.toNatClampNeg (Value.int 0))]) - wsz w = n.toNatClampNeg := by rw [wsz_push, List.length_replicate]; omega
      dsimp only at hc hsl k
      rw [e0] at hc k
      rw [e00] at hsl k
      refine va_newa (a0 := (n.toNatClampNeg, .inl (fun _ => 0))) hx hb (hts _ (misc_in _ (by simp [newarray.typeOf]))) rfl hK hP trW_D hS hA (fun cA => rfl) h0 rfl (by show n.toNatClampNeg * 1 ≤ 536870912; omega) hc hsl hd (fun q cA H1 k1 p1 d1 s1 => ?_)
      refine W_sz (fun hz => ?_)
      have hq := new_addr p1 d1 (by omega)
      subst hq
      have hcA : cA = cs.2.1 := Option.some.inj (((k1.2 4 (cA, .boolean) rfl).2).symm.trans (hK.2 1 (cs.2.1, .boolean) rfl).2)
      subst hcA
      have e1 : (Sum.inl (cs.2.1, n.toNatClampNeg, .inl (fun _ => (0 : Int32))) : va_E) = trE b cs ((101 : Nat), List.replicate n.toNatClampNeg (Value.int 0)) := by
        unfold trE
        rw [if_neg (by simp), if_pos rfl, List.length_replicate]
        congr 4
        funext z
        by_cases hz : z < n.toNatClampNeg <;> simp [List.getD_eq_getElem?_getD, List.getElem?_replicate, hz, asI]
      rw [e1, trW_push] at p1
      exact k H1 locs p1 s1
  · split at h
    · cases h
    · rename_i idx n st0 hn
      have h0 : ¬ n < 0 := fun z => hn (Or.inl z)
      have h2 : n.toNatClampNeg ≤ 2000 := int32_2000 h0 (fun z => hn (Or.inr z))
      split at h
      · rename_i hci
        cases h
        have hcl := ntab_in _ (lk_mem hci)
        have e0 : (w ++ [((102 : Nat), List.replicate n.toNatClampNeg Value.null)]).length - w.length = 1 := by simp
        have e00 : wsz (w ++ [((102 : Nat), List.replicate n.toNatClampNeg Value.null)]) - wsz w = n.toNatClampNeg := by rw [wsz_push, List.length_replicate]; omega
        dsimp only at hc hsl k
        rw [e0] at hc k
        rw [e00] at hsl k
        refine va_newq (C := "SupperTales$Scroll") hx hb hown (hts _ hcl) hAO.1 hK hP trW_D hS hA h0 rfl (by omega) hc hsl hd (fun q cA H1 k1 p1 d1 s1 => ?_)
        refine W_sz (fun hz => ?_)
        have hq := new_addr p1 d1 (by omega)
        subst hq
        obtain ⟨_, _, _, _, _, f1⟩ := (k1.2 4 (cA, .object "SupperTales$Scroll") rfl).2
        obtain ⟨_, _, _, _, _, f2⟩ := (hK.2 2 (cs.2.2.1, .object "SupperTales$Scroll") rfl).2
        have hcA : cA = cs.2.2.1 := Option.some.inj (f1.symm.trans f2)
        subst hcA
        have e1 : (Sum.inl (cs.2.2.1, n.toNatClampNeg, .inr (.inr (.inr (.inr (fun _ => (none : Option Nat)))))) : va_E) = trE b cs ((102 : Nat), List.replicate n.toNatClampNeg Value.null) := by
          unfold trE
          rw [if_neg (by simp), if_neg (by simp), if_pos rfl, List.length_replicate]
          congr 7
          funext z
          by_cases hz : z < n.toNatClampNeg <;> simp [List.getD_eq_getElem?_getD, List.getElem?_replicate, hz, asR]
        rw [e1, trW_push] at p1
        exact k H1 locs p1 s1
      · rename_i hci
        cases h
        have hcl := ntab_in _ (lk_mem hci)
        have e0 : (w ++ [((103 : Nat), List.replicate n.toNatClampNeg Value.null)]).length - w.length = 1 := by simp
        have e00 : wsz (w ++ [((103 : Nat), List.replicate n.toNatClampNeg Value.null)]) - wsz w = n.toNatClampNeg := by rw [wsz_push, List.length_replicate]; omega
        dsimp only at hc hsl k
        rw [e0] at hc k
        rw [e00] at hsl k
        refine va_newq (C := "SupperTales$Telling") hx hb hown (hts _ hcl) hAO.2 hK hP trW_D hS hA h0 rfl (by omega) hc hsl hd (fun q cA H1 k1 p1 d1 s1 => ?_)
        refine W_sz (fun hz => ?_)
        have hq := new_addr p1 d1 (by omega)
        subst hq
        obtain ⟨_, _, _, _, _, f1⟩ := (k1.2 4 (cA, .object "SupperTales$Telling") rfl).2
        obtain ⟨_, _, _, _, _, f2⟩ := (hK.2 3 (cs.2.2.2, .object "SupperTales$Telling") rfl).2
        have hcA : cA = cs.2.2.2 := Option.some.inj (f1.symm.trans f2)
        subst hcA
        have e1 : (Sum.inl (cs.2.2.2, n.toNatClampNeg, .inr (.inr (.inr (.inr (fun _ => (none : Option Nat)))))) : va_E) = trE b cs ((103 : Nat), List.replicate n.toNatClampNeg Value.null) := by
          unfold trE
          rw [if_neg (by simp), if_neg (by simp), if_neg (by simp), if_pos rfl, List.length_replicate]
          congr 7
          funext z
          by_cases hz : z < n.toNatClampNeg <;> simp [List.getD_eq_getElem?_getD, List.getElem?_replicate, hz, asR]
        rw [e1, trW_push] at p1
        exact k H1 locs p1 s1
      · cases h
  · cases h
end SimC
