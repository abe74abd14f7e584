-- X7_tell#s
set_option maxRecDepth 10000 in
theorem s_tell {d : Nat} {M : Mt} {L : Lt} {Q : Option Value → Mt → Lt → Prop} {n : Nat} {c pw : Row} {na : Nat} {ra : Nat → Row} {a : Int32} (hI : Inv M) (hn : n ≤ 5) (en : M 4 2 = nI n) (hc : HE n (M 5) c) (hp : LQ n (M 6) pw) (hw : wedOk n c) (hna : na ≤ 12) (hA : acX n na ra M) (hd : 6 ≤ d) (hq : ∀ (r : Int32) (N : Mt), St (fun i k => (4 ≤ i ∧ i ≤ 6) ∨ (10 ≤ i ∧ i ≤ 14) ∨ i = 59 ∨ (i = 0 ∧ k = 14)) M N → ((r = -1 ∧ ¬ (∃ k, k < 3 ∧ a = nI k) ∧ N = M) ∨ (∃ t z k, t < 3 ∧ a = nI t ∧ z ≤ 24 ∧ M (70 + 2 * t) 1 = nI z ∧ sndT (M (70 + 2 * t + 1)) z k ∧ HE n (N 5) (dawnS (runF n (deedV (M (70 + 2 * t + 1))) (nI 0) (k / 3) (c, pw, nI 0, nI 0))).1 ∧ LQ n (N 6) pw ∧ N 4 2 = nI n ∧ r = (runF n (deedV (M (70 + 2 * t + 1))) (nI 0) (k / 3) (c, pw, nI 0, nI 0)).2.2.2 ∧ acX n (pushN na) (pushR na ra c) N)) → Q (some (.int r)) N L) : Wp d 85 0 [.ref 0, .int a] [] M L Q := by
  refine (show ∀ N : Mt, N = M → St (fun i k => (4 ≤ i ∧ i ≤ 6) ∨ (10 ≤ i ∧ i ≤ 14) ∨ i = 59 ∨ (i = 0 ∧ k = 14)) M N → Wp d 85 0 [.ref 0, .int a] [] N L Q from ?_) M rfl (St.rf hI)
  intro N hNM hS
  have kz0 : N (4) 2 = nI n := by rw [hNM]; exact en
  refine w_load (.iload_n 1) 1 (by decide +kernel) rfl rfl ?_
  refine w_callS1 111 1 4 (by decide +kernel) (Nat.le_of_ble_eq_true rfl) rfl (by decide) (by omega) ?_
  refine k_111 hS.1  (by omega) (fun r1 hr1 => ?_)
  dsimp only [Option.toList, List.cons_append, List.nil_append]
  rcases hr1 with ⟨rfl, k2, hk2, rfl⟩ | ⟨rfl, hnok2⟩
  · skip
    refine w_ine 9 7 (by decide +kernel) (fun _ => ?_) (fun hz => absurd hz (by decide))
    refine w_load (.aload_n 0) 10 (by decide +kernel) rfl rfl ?_
    refine w_callV0 121 7 1 13 (by decide +kernel) sh_0 (Nat.le_of_ble_eq_true rfl)  (by decide) (by omega) ?_
    refine s_holdAct hS.1 (by omega) (by omega) (by rw [hNM]; exact hA) (by rw [hNM]; exact hc) (by omega) (fun Nr4 hTr4 hr4 => ?_)
    have kn5 := (hTr4.2 (4) 2 (by (try dsimp only); first | omega | (simp only [Hs, Tl, Sc, isHs, isScr, isTs] at *; omega))).trans kz0
    have hS := hS.tr hTr4 (by intro i k; first | exact rfl | exact fun h => h.elim | omega | (dsimp only; omega) | (simp only [Hs, Tl, Sc, isHs, isScr, isTs] at *; omega))
    dsimp only [Option.toList, List.nil_append]
    refine w_load (.aload_n 0) 14 (by decide +kernel) rfl rfl ?_
    refine w_getR (k := 4) (r := 10) 17 (by decide +kernel) sh_0 rfl ?_
    refine w_load (.aload_n 0) 18 (by decide +kernel) rfl rfl ?_
    refine w_getR (k := 2) (r := 4) 21 (by decide +kernel) sh_0 rfl ?_
    refine w_load (.aload_n 0) 22 (by decide +kernel) rfl rfl ?_
    refine w_getR (k := 1) (r := 3) 25 (by decide +kernel) sh_0 rfl ?_
    refine w_load (.iload_n 1) 26 (by decide +kernel) rfl rfl ?_
    refine w_tale 27 (by decide +kernel) (by omega) ?_
    refine w_callV2 68 6 5 30 (by decide +kernel) sh_10 (Nat.le_of_ble_eq_true rfl) rfl rfl (by decide) (by omega) ?_
    obtain ⟨n6, hn6, en6⟩ := inv_s hS.1 (sc_tale k2 (by omega))
    refine s_hearAll hS.1 tl_10 hs_4 (sc_tale k2 (by omega)) (by omega) kn5 (by rw [hTr4.row (fun k => by (try dsimp only); first | omega | (simp only [Hs, Tl, Sc, isHs, isScr, isTs] at *; omega)), hNM]; exact hc) (by rw [hTr4.row (fun k => by (try dsimp only); first | omega | (simp only [Hs, Tl, Sc, isHs, isScr, isTs] at *; omega)), hNM]; exact hp) hw (by omega) en6 (by omega) (fun Nr7 hTr7 hr7 => ?_)
    have kn8 := (hTr7.2 (4) 2 (by (try dsimp only); first | omega | (simp only [Hs, Tl, Sc, isHs, isScr, isTs] at *; omega))).trans kn5
    have hS := hS.tr hTr7 (by intro i k; first | exact rfl | exact fun h => h.elim | omega | (dsimp only; omega) | (simp only [Hs, Tl, Sc, isHs, isScr, isTs] at *; omega))
    obtain ⟨kt, hkt, hSt, hGt, hPt⟩ := hr7
    have hrw1 : Nr4 (70 + 2 * k2 + 1) = M (70 + 2 * k2 + 1) := by rw [hTr4.row (fun k => by (try dsimp only); first | omega | (simp only [Hs, Tl, Sc, isHs, isScr, isTs] at *; omega)), hNM]
    have hrw0 : Nr4 (70 + 2 * k2) = M (70 + 2 * k2) := by rw [hTr4.row (fun k => by (try dsimp only); first | omega | (simp only [Hs, Tl, Sc, isHs, isScr, isTs] at *; omega)), hNM]
    rw [hrw1] at hkt hSt
    have hzM : M (70 + 2 * k2) 1 = nI n6 := by rw [← hrw0]; exact en6
    dsimp only [Option.toList, List.nil_append]
    refine w_load (.aload_n 0) 31 (by decide +kernel) rfl rfl ?_
    refine w_getR (k := 2) (r := 4) 34 (by decide +kernel) sh_0 rfl ?_
    refine w_load (.aload_n 0) 35 (by decide +kernel) rfl rfl ?_
    refine w_getR (k := 4) (r := 10) 38 (by decide +kernel) sh_0 rfl ?_
    refine w_getR (k := 0) (r := 11) 41 (by decide +kernel) sh_10 rfl ?_
    refine w_callV1 9 1 2 44 (by decide +kernel) sh_4 (Nat.le_of_ble_eq_true rfl) rfl (by decide) (by omega) ?_
    refine k_9 hS.1 hs_4 hs_11 (by omega) (fun Nr9 hTr9 hr9 => ?_)
    have hS := hS.tr hTr9 (by intro i k; first | exact rfl | exact fun h => h.elim | omega | (dsimp only; omega) | (simp only [Hs, Tl, Sc, isHs, isScr, isTs] at *; omega))
    dsimp only [Option.toList, List.nil_append]
    refine w_load (.aload_n 0) 45 (by decide +kernel) rfl rfl ?_
    refine w_getR (k := 4) (r := 10) 48 (by decide +kernel) sh_0 rfl ?_
    refine w_getI (k := 2) 51 (by decide +kernel) sh_10 rfl ?_
    exact w_ret (by decide +kernel) (hq _ Nr9 hS (Or.inr ⟨_, n6, kt, by assumption, rfl, by omega, hzM, hkt, by rw [hr9]; exact dawn_row hn hSt.1, by rw [hr9]; exact dawn_pw hn (by decide) hPt, by rw [hr9]; exact cpH_g'.trans hGt, by rw [hTr9.2 10 2 (by (try dsimp only); first | omega | (simp only [Hs, Tl, Sc, isHs, isScr, isTs] at *; omega))]; exact hSt.2.2.2, hr4.keep ((hTr9.2 0 14 (by (try dsimp only); first | omega | (simp only [Hs, Tl, Sc, isHs, isScr, isTs] at *; omega))).trans (hTr7.2 0 14 (by (try dsimp only); first | omega | (simp only [Hs, Tl, Sc, isHs, isScr, isTs] at *; omega)))) ((hTr9.row (fun k => (by (try dsimp only); first | omega | (simp only [Hs, Tl, Sc, isHs, isScr, isTs] at *; omega)))).trans (hTr7.row (fun k => (by (try dsimp only); first | omega | (simp only [Hs, Tl, Sc, isHs, isScr, isTs] at *; omega)))))⟩))
  · skip
    refine w_ine 9 7 (by decide +kernel) (fun hz => absurd hz (by decide)) (fun _ => ?_)
    refine w_push (-1) 8 (by decide +kernel) ?_
    exact w_ret (by decide +kernel) (hq _ N hS (Or.inl ⟨rfl, by assumption, hNM⟩))
-- X7_give#s
set_option maxRecDepth 10000 in
theorem s_give {d : Nat} {M : Mt} {L : Lt} {Q : Option Value → Mt → Lt → Prop} {n : Nat} {c pw : Row} {na : Nat} {ra : Nat → Row} {g : Int32} {a : Int32} (hI : Inv M) (hn : n ≤ 5) (en : M 4 2 = nI n) (hc : HE n (M 5) c) (hp : LQ n (M 6) pw) (hna : na ≤ 12) (hA : acX n na ra M) (hd : 3 ≤ d) (hq : ∀ (r : Int32) (N : Mt), St (fun i k => i = 5 ∨ i = 59 ∨ (i = 0 ∧ k = 14)) M N → ((r = -1 ∧ ¬ (∃ k, k < n ∧ g = nI k) ∧ N = M) ∨ (∃ k, k < n ∧ g = nI k ∧ ((r = -2 ∧ ¬ (∃ k, k < 4 ∧ a = nI k) ∧ N = M) ∨ (∃ b, b < 4 ∧ a = nI b ∧ ((r = -3 ∧ ¬ (tb (c 15) k = true ∧ ¬ c k = nI b) ∧ N = M) ∨ ((tb (c 15) k = true ∧ ¬ c k = nI b) ∧ r = c k ∧ HE n (N 5) (up1 c k (nI b)) ∧ acX n (pushN na) (pushR na ra c) N)))))) → Q (some (.int r)) N L) : Wp d 86 0 [.ref 0, .int g, .int a, .null] [] M L Q := by
  refine (show ∀ N : Mt, N = M → St (fun i k => i = 5 ∨ i = 59 ∨ (i = 0 ∧ k = 14)) M N → Wp d 86 0 [.ref 0, .int g, .int a, .null] [] N L Q from ?_) M rfl (St.rf hI)
  intro N hNM hS
  have kz0 : N (4) 2 = nI n := by rw [hNM]; exact en
  refine w_load (.aload_n 0) 1 (by decide +kernel) rfl rfl ?_
  refine w_getR (k := 2) (r := 4) 4 (by decide +kernel) sh_0 rfl ?_
  refine w_load (.iload_n 1) 5 (by decide +kernel) rfl rfl ?_
  refine w_callV1 11 1 2 8 (by decide +kernel) sh_4 (Nat.le_of_ble_eq_true rfl) rfl (by decide) (by omega) ?_
  refine k_11 hS.1 hs_4 (by omega) kz0 (by omega) (fun r1 hr1 => ?_)
  dsimp only [Option.toList, List.cons_append, List.nil_append]
  rcases hr1 with ⟨rfl, k2, hk2, rfl⟩ | ⟨rfl, hnok2⟩
  · skip
    refine w_ine 13 11 (by decide +kernel) (fun _ => ?_) (fun hz => absurd hz (by decide))
    refine w_load (.iload_n 2) 14 (by decide +kernel) rfl rfl ?_
    refine w_callS1 113 1 17 (by decide +kernel) (Nat.le_of_ble_eq_true rfl) rfl (by decide) (by omega) ?_
    refine k_113 hS.1  (by omega) (fun r4 hr4 => ?_)
    dsimp only [Option.toList, List.cons_append, List.nil_append]
    rcases hr4 with ⟨rfl, k5, hk5, rfl⟩ | ⟨rfl, hnok5⟩
    · skip
      refine w_ine 23 20 (by decide +kernel) (fun _ => ?_) (fun hz => absurd hz (by decide))
      refine w_load (.aload_n 0) 24 (by decide +kernel) rfl rfl ?_
      refine w_getR (k := 2) (r := 4) 27 (by decide +kernel) sh_0 rfl ?_
      refine w_load (.iload_n 1) 28 (by decide +kernel) rfl rfl ?_
      refine w_callV1 12 1 2 31 (by decide +kernel) sh_4 (Nat.le_of_ble_eq_true rfl) rfl (by decide) (by omega) ?_
      refine s_nameOf hS.1 hs_4 (by omega) kz0 (by rw [hNM]; exact hc) (by omega) (by omega) (fun r7 hr7 => ?_)
      dsimp only [Option.toList, List.cons_append, List.nil_append]
      rcases hr7 with rfl
      · skip
        refine w_topi (fun v8 ev8 => ?_)
        refine w_store (ls' := [.ref 0, .int (nI k2), .int (nI k5), .int v8]) (.istore_n 3) 32 (by decide +kernel) rfl rfl ?_
        have ewas := ev8
        refine w_load (.aload_n 0) 33 (by decide +kernel) rfl rfl ?_
        refine w_getR (k := 2) (r := 4) 36 (by decide +kernel) sh_0 rfl ?_
        refine w_load (.iload_n 1) 37 (by decide +kernel) rfl rfl ?_
        refine w_callV1 16 1 2 40 (by decide +kernel) sh_4 (Nat.le_of_ble_eq_true rfl) rfl (by decide) (by omega) ?_
        refine s_lives hS.1 hs_4 (by omega) kz0 (by rw [hNM]; exact hc) (by omega) (by omega) (fun r9 hr9 => ?_)
        dsimp only [Option.toList, List.cons_append, List.nil_append]
        rcases hr9 with ⟨rfl, htr9⟩ | ⟨rfl, htr9⟩
        · skip
          refine w_ieq 48 43 (by decide +kernel) (fun hz => absurd hz (by decide)) (fun _ => ?_)
          refine w_load (.iload_n 3) 44 (by decide +kernel) rfl rfl ?_
          refine w_load (.iload_n 2) 45 (by decide +kernel) rfl rfl ?_
          refine w_cne 51 48 (by decide +kernel) (fun h11 => ?_) (fun h11 => ?_)
          · skip
            refine w_load (.aload_n 0) 52 (by decide +kernel) rfl rfl ?_
            refine w_callV0 121 7 1 55 (by decide +kernel) sh_0 (Nat.le_of_ble_eq_true rfl)  (by decide) (by omega) ?_
            refine s_holdAct hS.1 (by omega) (by omega) (by rw [hNM]; exact hA) (by rw [hNM]; exact hc) (by omega) (fun Nr12 hTr12 hr12 => ?_)
            have kn13 := (hTr12.2 (4) 2 (by (try dsimp only); first | omega | (simp only [Hs, Tl, Sc, isHs, isScr, isTs] at *; omega))).trans kz0
            have hS := hS.tr hTr12 (by intro i k; first | exact rfl | exact fun h => h.elim | omega | (dsimp only; omega) | (simp only [Hs, Tl, Sc, isHs, isScr, isTs] at *; omega))
            dsimp only [Option.toList, List.nil_append]
            refine w_load (.aload_n 0) 56 (by decide +kernel) rfl rfl ?_
            refine w_getR (k := 2) (r := 4) 59 (by decide +kernel) sh_0 rfl ?_
            refine w_load (.iload_n 1) 60 (by decide +kernel) rfl rfl ?_
            refine w_load (.iload_n 2) 61 (by decide +kernel) rfl rfl ?_
            refine w_callV2 26 1 3 64 (by decide +kernel) sh_4 (Nat.le_of_ble_eq_true rfl) rfl rfl (by decide) (by omega) ?_
            refine s_rename hS.1 hs_4 (by omega) kn13 (by rw [hTr12.row (fun k => by (try dsimp only); first | omega | (simp only [Hs, Tl, Sc, isHs, isScr, isTs] at *; omega)), hNM]; exact hc) (by omega) (by omega) (fun Nr14 hTr14 hr14 => ?_)
            have kn15 := (hTr14.2 (4) 2 (by (try dsimp only); first | omega | (simp only [Hs, Tl, Sc, isHs, isScr, isTs] at *; omega))).trans kn13
            have hS := hS.tr hTr14 (by intro i k; first | exact rfl | exact fun h => h.elim | omega | (dsimp only; omega) | (simp only [Hs, Tl, Sc, isHs, isScr, isTs] at *; omega))
            dsimp only [Option.toList, List.nil_append]
            refine w_load (.iload_n 3) 65 (by decide +kernel) rfl rfl ?_
            exact w_ret (by decide +kernel) (hq _ Nr14 hS (Or.inr ⟨_, by assumption, rfl, Or.inr ⟨_, by assumption, rfl, Or.inr ⟨⟨by assumption, by rw [← ewas]; assumption⟩, ewas, hr14, hr12.keep (hTr14.2 0 14 (by (try dsimp only); first | omega | (simp only [Hs, Tl, Sc, isHs, isScr, isTs] at *; omega))) (hTr14.row (fun k => (by (try dsimp only); first | omega | (simp only [Hs, Tl, Sc, isHs, isScr, isTs] at *; omega))))⟩⟩⟩))
          · skip
            refine w_push (-3) 50 (by decide +kernel) ?_
            exact w_ret (by decide +kernel) (hq _ N hS (Or.inr ⟨_, by assumption, rfl, Or.inr ⟨_, by assumption, rfl, Or.inl ⟨rfl, fun hz => by first | exact absurd (hz.1.symm.trans (show tb (c 15) _ = false by assumption)) (by decide) | exact absurd (by rw [← ewas]; assumption) hz.2, hNM⟩⟩⟩))
        · skip
          refine w_ieq 48 43 (by decide +kernel) (fun _ => ?_) (fun hz => absurd hz (by decide))
          refine w_push (-3) 50 (by decide +kernel) ?_
          exact w_ret (by decide +kernel) (hq _ N hS (Or.inr ⟨_, by assumption, rfl, Or.inr ⟨_, by assumption, rfl, Or.inl ⟨rfl, fun hz => by first | exact absurd (hz.1.symm.trans (show tb (c 15) _ = false by assumption)) (by decide) | exact absurd (by rw [← ewas]; assumption) hz.2, hNM⟩⟩⟩))
    · skip
      refine w_ine 23 20 (by decide +kernel) (fun hz => absurd hz (by decide)) (fun _ => ?_)
      refine w_push (-2) 22 (by decide +kernel) ?_
      exact w_ret (by decide +kernel) (hq _ N hS (Or.inr ⟨_, by assumption, rfl, Or.inl ⟨rfl, by assumption, hNM⟩⟩))
  · skip
    refine w_ine 13 11 (by decide +kernel) (fun hz => absurd hz (by decide)) (fun _ => ?_)
    refine w_push (-1) 12 (by decide +kernel) ?_
    exact w_ret (by decide +kernel) (hq _ N hS (Or.inl ⟨rfl, by assumption, hNM⟩))
-- X7_undo#s
set_option maxRecDepth 10000 in
theorem s_undo {d : Nat} {M : Mt} {L : Lt} {Q : Option Value → Mt → Lt → Prop} {n : Nat} {c pw : Row} {na : Nat} {ra : Nat → Row}  (hI : Inv M) (hn : n ≤ 5) (en : M 4 2 = nI n) (hc : HE n (M 5) c) (hp : LQ n (M 6) pw) (hna : na ≤ 12) (hA : acX n na ra M) (hd : 2 ≤ d) (hq : ∀ (r : Int32) (N : Mt), St (fun i k => i = 5 ∨ (i = 0 ∧ k = 14)) M N → ((r = -3 ∧ na = 0 ∧ N = M) ∨ (0 < na ∧ r = nI (na - 1) ∧ HE n (N 5) (ra (na - 1)) ∧ acX n (na - 1) ra N)) → Q (some (.int r)) N L) : Wp d 87 0 [.ref 0] [] M L Q := by
  refine (show ∀ N : Mt, N = M → St (fun i k => i = 5 ∨ (i = 0 ∧ k = 14)) M N → Wp d 87 0 [.ref 0] [] N L Q from ?_) M rfl (St.rf hI)
  intro N hNM hS
  have kz0 : N (4) 2 = nI n := by rw [hNM]; exact en
  have kz1 : N (0) 14 = nI na := by rw [hNM]; exact hA.1
  refine w_load (.aload_n 0) 1 (by decide +kernel) rfl rfl ?_
  refine w_getK (k := 14) 4 (by decide +kernel) sh_0 rfl kz1 ?_
  refine w_ineN 10 7 (by decide +kernel) (by omega) (fun h1 => ?_) (fun h1 => ?_)
  · skip
    refine w_load (.aload_n 0) 11 (by decide +kernel) rfl rfl ?_
    refine w_pure .dup 12 (by decide +kernel) rfl rfl ?_
    refine w_getK (k := 14) 15 (by decide +kernel) sh_0 rfl kz1 ?_
    refine w_pushN 1 16 (by decide +kernel) ?_
    refine w_subN (na - 1) 17 (by decide +kernel) (by omega) rfl ?_
    refine w_putE (k := 14) 20 (by decide +kernel) sh_0 rfl hS (rg_acts (by omega)) (by first | exact rfl | omega | (dsimp only; omega) | (simp only [Hs, Tl, Sc, isHs, isScr, isTs] at *; omega)) (fun Nq2 hS hq2 oq2 mq2 => ?_)
    have kn3 := (oq2 (4) 2 (by first | omega | (simp only [Hs, Tl, Sc, isHs, isScr, isTs] at *; omega))).trans kz0
    refine w_load (.aload_n 0) 21 (by decide +kernel) rfl rfl ?_
    refine w_getR (k := 7) (r := 58) 24 (by decide +kernel) sh_0 rfl ?_
    refine w_load (.aload_n 0) 25 (by decide +kernel) rfl rfl ?_
    refine w_getK (k := 14) 28 (by decide +kernel) sh_0 rfl hq2 ?_
    refine w_load (.aload_n 0) 29 (by decide +kernel) rfl rfl ?_
    refine w_getR (k := 2) (r := 4) 32 (by decide +kernel) sh_0 rfl ?_
    refine w_callV2 56 4 3 35 (by decide +kernel) sh_58 (Nat.le_of_ble_eq_true rfl) rfl rfl (by decide) (by omega) ?_
    refine s_fetch hS.1 shf_58 (by decide) (by omega) hs_4 (by omega) (by omega) (fun Nr4 hTr4 hr4 => ?_)
    have kn5 := (hTr4.2 (4) 2 (by (try dsimp only); first | omega | (simp only [Hs, Tl, Sc, isHs, isScr, isTs] at *; omega))).trans kn3
    have kn6 := (hTr4.2 (0) 14 (by (try dsimp only); first | omega | (simp only [Hs, Tl, Sc, isHs, isScr, isTs] at *; omega))).trans hq2
    have hS := hS.tr hTr4 (by intro i k; first | exact rfl | exact fun h => h.elim | omega | (dsimp only; omega) | (simp only [Hs, Tl, Sc, isHs, isScr, isTs] at *; omega))
    dsimp only [Option.toList, List.nil_append]
    refine w_load (.aload_n 0) 36 (by decide +kernel) rfl rfl ?_
    refine w_getK (k := 14) 39 (by decide +kernel) sh_0 rfl kn6 ?_
    exact w_ret (by decide +kernel) (hq _ Nr4 hS (Or.inr ⟨by omega, rfl, und_row hn (hA.2 (na - 1) (by omega)) (by rw [hr4, mq2, hNM]), und_ac hA (by omega) (by rw [hTr4.2 0 14 (by (try dsimp only); first | omega | (simp only [Hs, Tl, Sc, isHs, isScr, isTs] at *; omega)), mq2, up2_eq]) (by rw [hTr4.row (fun k => (by (try dsimp only); first | omega | (simp only [Hs, Tl, Sc, isHs, isScr, isTs] at *; omega))), mq2, row_ne (by decide), hNM])⟩))
  · skip
    refine w_push (-3) 9 (by decide +kernel) ?_
    exact w_ret (by decide +kernel) (hq _ N hS (Or.inl ⟨rfl, by omega, hNM⟩))
-- X7_keep#s
set_option maxRecDepth 10000 in
theorem s_keep {d : Nat} {M : Mt} {L : Lt} {Q : Option Value → Mt → Lt → Prop} {n : Nat} {c pw : Row} {hk : Nat → Bool} {rk : Nat → Row} {a : Int32} (hI : Inv M) (hn : n ≤ 5) (en : M 4 2 = nI n) (hc : HE n (M 5) c) (hp : LQ n (M 6) pw) (hK : slX n hk rk M) (hd : 2 ≤ d) (hq : ∀ (r : Int32) (N : Mt), St (fun i k => i = 61 ∨ (i = 0 ∧ k = 15)) M N → ((r = -1 ∧ ¬ (∃ k, k < 2 ∧ a = nI k) ∧ N = M) ∨ (∃ s, s < 2 ∧ a = nI s ∧ r = bcI (c 15) ∧ slX n (upB hk s) (upK rk s c) N)) → Q (some (.int r)) N L) : Wp d 107 0 [.ref 0, .int a] [] M L Q := by
  refine (show ∀ N : Mt, N = M → St (fun i k => i = 61 ∨ (i = 0 ∧ k = 15)) M N → Wp d 107 0 [.ref 0, .int a] [] N L Q from ?_) M rfl (St.rf hI)
  intro N hNM hS
  have kz0 : N (4) 2 = nI n := by rw [hNM]; exact en
  refine w_load (.iload_n 1) 1 (by decide +kernel) rfl rfl ?_
  refine w_callS1 112 1 4 (by decide +kernel) (Nat.le_of_ble_eq_true rfl) rfl (by decide) (by omega) ?_
  refine k_112 hS.1  (by omega) (fun r1 hr1 => ?_)
  dsimp only [Option.toList, List.cons_append, List.nil_append]
  rcases hr1 with ⟨rfl, k2, hk2, rfl⟩ | ⟨rfl, hnok2⟩
  · skip
    refine w_ine 9 7 (by decide +kernel) (fun _ => ?_) (fun hz => absurd hz (by decide))
    refine w_load (.aload_n 0) 10 (by decide +kernel) rfl rfl ?_
    refine w_getR (k := 8) (r := 60) 13 (by decide +kernel) sh_0 rfl ?_
    refine w_load (.iload_n 1) 14 (by decide +kernel) rfl rfl ?_
    refine w_load (.aload_n 0) 15 (by decide +kernel) rfl rfl ?_
    refine w_getR (k := 2) (r := 4) 18 (by decide +kernel) sh_0 rfl ?_
    refine w_callV2 55 4 3 21 (by decide +kernel) sh_60 (Nat.le_of_ble_eq_true rfl) rfl rfl (by decide) (by omega) ?_
    refine s_put hS.1 shf_60 (by decide) (by omega) hs_4 (by omega) (by omega) (fun Nr4 hTr4 hr4 => ?_)
    have kn5 := (hTr4.2 (4) 2 (by (try dsimp only); first | omega | (simp only [Hs, Tl, Sc, isHs, isScr, isTs] at *; omega))).trans kz0
    have hS := hS.tr hTr4 (by intro i k; first | exact rfl | exact fun h => h.elim | omega | (dsimp only; omega) | (simp only [Hs, Tl, Sc, isHs, isScr, isTs] at *; omega))
    dsimp only [Option.toList, List.nil_append]
    refine w_load (.aload_n 0) 22 (by decide +kernel) rfl rfl ?_
    refine w_pure .dup 23 (by decide +kernel) rfl rfl ?_
    refine w_getI (k := 15) 26 (by decide +kernel) sh_0 rfl ?_
    refine w_pushN 1 27 (by decide +kernel) ?_
    refine w_load (.iload_n 1) 28 (by decide +kernel) rfl rfl ?_
    refine w_pure .ishl 29 (by decide +kernel) rfl rfl ?_
    refine w_pure .ior 30 (by decide +kernel) rfl rfl ?_
    refine w_putE (k := 15) 33 (by decide +kernel) sh_0 rfl hS (rg_0 (by decide)) (by first | exact rfl | omega | (dsimp only; omega) | (simp only [Hs, Tl, Sc, isHs, isScr, isTs] at *; omega)) (fun Nq6 hS hq6 oq6 mq6 => ?_)
    have kn7 := (oq6 (4) 2 (by first | omega | (simp only [Hs, Tl, Sc, isHs, isScr, isTs] at *; omega))).trans kn5
    refine w_load (.aload_n 0) 34 (by decide +kernel) rfl rfl ?_
    refine w_getR (k := 2) (r := 4) 37 (by decide +kernel) sh_0 rfl ?_
    refine w_callV0 19 1 1 40 (by decide +kernel) sh_4 (Nat.le_of_ble_eq_true rfl)  (by decide) (by omega) ?_
    refine s_living hS.1 hs_4 (by omega) kn7 (by rw [mq6, row_ne (by first | omega | (simp only [Hs, Tl, Sc, isHs, isScr, isTs] at *; omega)), hTr4.row (fun k => by (try dsimp only); first | omega | (simp only [Hs, Tl, Sc, isHs, isScr, isTs] at *; omega)), hNM]; exact hc) (by omega) (fun r8 hr8 => ?_)
    dsimp only [Option.toList, List.cons_append, List.nil_append]
    rcases hr8 with rfl
    · skip
      refine w_callS1 200 1 43 (by decide +kernel) (Nat.le_of_ble_eq_true rfl) rfl (by decide) (by omega) ?_
      refine s_bitCount hS.1  (by omega) (fun r9 hr9 => ?_)
      dsimp only [Option.toList, List.cons_append, List.nil_append]
      rcases hr9 with rfl
      · skip
        exact w_ret (by decide +kernel) (hq _ Nq6 hS (Or.inr ⟨_, by assumption, rfl, rfl, sl_keep hn (by assumption) hK hc (by rw [hr4, hNM]) mq6⟩))
  · skip
    refine w_ine 9 7 (by decide +kernel) (fun hz => absurd hz (by decide)) (fun _ => ?_)
    refine w_push (-1) 8 (by decide +kernel) ?_
    exact w_ret (by decide +kernel) (hq _ N hS (Or.inl ⟨rfl, by assumption, hNM⟩))
-- X7_again#s
set_option maxRecDepth 10000 in
theorem s_again {d : Nat} {M : Mt} {L : Lt} {Q : Option Value → Mt → Lt → Prop} {n : Nat} {c pw : Row} {hk : Nat → Bool} {rk : Nat → Row} {a : Int32} (hI : Inv M) (hn : n ≤ 5) (en : M 4 2 = nI n) (hc : HE n (M 5) c) (hp : LQ n (M 6) pw) (hK : slX n hk rk M) (hd : 2 ≤ d) (hq : ∀ (r : Int32) (N : Mt), St (fun i k => i = 5 ∨ (i = 0 ∧ k = 14)) M N → ((r = -1 ∧ ¬ (∃ k, k < 2 ∧ a = nI k) ∧ N = M) ∨ (∃ s, s < 2 ∧ a = nI s ∧ ((r = -3 ∧ hk s = false ∧ N = M) ∨ (hk s = true ∧ HE n (N 5) (rk s) ∧ r = bcI (rk s 15) ∧ N 0 14 = nI 0)))) → Q (some (.int r)) N L) : Wp d 108 0 [.ref 0, .int a] [] M L Q := by
  refine (show ∀ N : Mt, N = M → St (fun i k => i = 5 ∨ (i = 0 ∧ k = 14)) M N → Wp d 108 0 [.ref 0, .int a] [] N L Q from ?_) M rfl (St.rf hI)
  intro N hNM hS
  have kz0 : N (4) 2 = nI n := by rw [hNM]; exact en
  refine w_load (.iload_n 1) 1 (by decide +kernel) rfl rfl ?_
  refine w_callS1 112 1 4 (by decide +kernel) (Nat.le_of_ble_eq_true rfl) rfl (by decide) (by omega) ?_
  refine k_112 hS.1  (by omega) (fun r1 hr1 => ?_)
  dsimp only [Option.toList, List.cons_append, List.nil_append]
  rcases hr1 with ⟨rfl, k2, hk2, rfl⟩ | ⟨rfl, hnok2⟩
  · skip
    refine w_ine 9 7 (by decide +kernel) (fun _ => ?_) (fun hz => absurd hz (by decide))
    refine w_load (.aload_n 0) 10 (by decide +kernel) rfl rfl ?_
    refine w_getI (k := 15) 13 (by decide +kernel) sh_0 rfl ?_
    refine w_load (.iload_n 1) 14 (by decide +kernel) rfl rfl ?_
    refine w_callS2 115 2 17 (by decide +kernel) (Nat.le_of_ble_eq_true rfl) rfl rfl (by decide) (by omega) ?_
    refine s_holds hS.1 (by omega) (by omega) (fun r4 hr4 => ?_)
    dsimp only [Option.toList, List.cons_append, List.nil_append]
    rcases hr4 with ⟨rfl, htr4⟩ | ⟨rfl, htr4⟩
    · skip
      refine w_ine 23 20 (by decide +kernel) (fun _ => ?_) (fun hz => absurd hz (by decide))
      refine w_load (.aload_n 0) 24 (by decide +kernel) rfl rfl ?_
      refine w_getR (k := 8) (r := 60) 27 (by decide +kernel) sh_0 rfl ?_
      refine w_load (.iload_n 1) 28 (by decide +kernel) rfl rfl ?_
      refine w_load (.aload_n 0) 29 (by decide +kernel) rfl rfl ?_
      refine w_getR (k := 2) (r := 4) 32 (by decide +kernel) sh_0 rfl ?_
      refine w_callV2 56 4 3 35 (by decide +kernel) sh_60 (Nat.le_of_ble_eq_true rfl) rfl rfl (by decide) (by omega) ?_
      refine s_fetch hS.1 shf_60 (by decide) (by omega) hs_4 (by omega) (by omega) (fun Nr6 hTr6 hr6 => ?_)
      have kn7 := (hTr6.2 (4) 2 (by (try dsimp only); first | omega | (simp only [Hs, Tl, Sc, isHs, isScr, isTs] at *; omega))).trans kz0
      have hS := hS.tr hTr6 (by intro i k; first | exact rfl | exact fun h => h.elim | omega | (dsimp only; omega) | (simp only [Hs, Tl, Sc, isHs, isScr, isTs] at *; omega))
      have hks : hk k2 = true := ((hK k2 (by assumption)).1).symm.trans (by rw [← hNM]; assumption)
      have hro : HE n (Nr6 5) (rk k2) := ag_row hn ((hK k2 (by assumption)).2 hks) (by rw [hr6, hNM])
      dsimp only [Option.toList, List.nil_append]
      refine w_load (.aload_n 0) 36 (by decide +kernel) rfl rfl ?_
      refine w_pushN 0 37 (by decide +kernel) ?_
      refine w_putE (k := 14) 40 (by decide +kernel) sh_0 rfl hS (rg_acts (by omega)) (by first | exact rfl | omega | (dsimp only; omega) | (simp only [Hs, Tl, Sc, isHs, isScr, isTs] at *; omega)) (fun Nq8 hS hq8 oq8 mq8 => ?_)
      have kn9 := (oq8 (4) 2 (by first | omega | (simp only [Hs, Tl, Sc, isHs, isScr, isTs] at *; omega))).trans kn7
      have hrw : HE n (Nq8 5) (rk k2) := by rw [mq8, row_ne (by decide)]; exact hro
      refine w_load (.aload_n 0) 41 (by decide +kernel) rfl rfl ?_
      refine w_getR (k := 2) (r := 4) 44 (by decide +kernel) sh_0 rfl ?_
      refine w_callV0 19 1 1 47 (by decide +kernel) sh_4 (Nat.le_of_ble_eq_true rfl)  (by decide) (by omega) ?_
      refine s_living hS.1 hs_4 (by omega) kn9 hrw (by omega) (fun r10 hr10 => ?_)
      dsimp only [Option.toList, List.cons_append, List.nil_append]
      rcases hr10 with rfl
      · skip
        refine w_callS1 200 1 50 (by decide +kernel) (Nat.le_of_ble_eq_true rfl) rfl (by decide) (by omega) ?_
        refine s_bitCount hS.1  (by omega) (fun r11 hr11 => ?_)
        dsimp only [Option.toList, List.cons_append, List.nil_append]
        rcases hr11 with rfl
        · skip
          exact w_ret (by decide +kernel) (hq _ Nq8 hS (Or.inr ⟨_, by assumption, rfl, Or.inr ⟨hks, hrw, rfl, by rw [mq8, up2_eq]⟩⟩))
    · skip
      refine w_ine 23 20 (by decide +kernel) (fun hz => absurd hz (by decide)) (fun _ => ?_)
      refine w_push (-3) 22 (by decide +kernel) ?_
      exact w_ret (by decide +kernel) (hq _ N hS (Or.inr ⟨_, by assumption, rfl, Or.inl ⟨rfl, ((hK _ (by assumption)).1).symm.trans (by rw [← hNM]; assumption), hNM⟩⟩))
  · skip
    refine w_ine 9 7 (by decide +kernel) (fun hz => absurd hz (by decide)) (fun _ => ?_)
    refine w_push (-1) 8 (by decide +kernel) ?_
    exact w_ret (by decide +kernel) (hq _ N hS (Or.inl ⟨rfl, by assumption, hNM⟩))
-- X7_inn#s
set_option maxRecDepth 10000 in
theorem s_inn {d : Nat} {M : Mt} {L : Lt} {Q : Option Value → Mt → Lt → Prop} {z : Nat}  (hI : Inv M) (hz : z ≤ 24) (ez : M 1 1 = nI z) (hd : 3 ≤ d) (hq : ∀ (r : Int32) (N : Mt), St (fun i k => (4 ≤ i ∧ i ≤ 6) ∨ (i = 0 ∧ (k = 14 ∨ k = 15))) M N → ((r = -3 ∧ ¬ OkI (M 2) z ∧ N = M) ∨ (OkI (M 2) z ∧ r = nI ((z - 1) / 4) ∧ N 4 2 = nI ((z - 1) / 4) ∧ HE ((z - 1) / 4) (N 5) (innC (M 2) ((z - 1) / 4)) ∧ LQ ((z - 1) / 4) (N 6) (innP (M 2)) ∧ N 0 14 = nI 0 ∧ N 0 15 = nI 0)) → Q (some (.int r)) N L) : Wp d 79 0 [.ref 0] [] M L Q := by
  refine (show ∀ N : Mt, N = M → St (fun i k => (4 ≤ i ∧ i ≤ 6) ∨ (i = 0 ∧ (k = 14 ∨ k = 15))) M N → Wp d 79 0 [.ref 0] [] N L Q from ?_) M rfl (St.rf hI)
  intro N hNM hS
  have kz0 : N (1) 1 = nI z := by rw [hNM]; exact ez
  have hM : M 2 = N 2 := by rw [hNM]
  refine w_load (.aload_n 0) 1 (by decide +kernel) rfl rfl ?_
  refine w_getR (k := 0) (r := 1) 4 (by decide +kernel) sh_0 rfl ?_
  refine w_callV0 41 2 2 7 (by decide +kernel) sh_1 (Nat.le_of_ble_eq_true rfl)  (by decide) (by omega) ?_
  refine k_41 hS.1 sc_1 (by omega) kz0 (by omega) (fun r1 hr1 => ?_)
  dsimp only [Option.toList, List.cons_append, List.nil_append]
  refine w_push (-9) 9 (by decide +kernel) ?_
  refine w_ceq 15 12 (by decide +kernel) (fun h2 => ?_) (fun h2 => ?_)
  · skip
    have hok := (ft_ok hr1 (by omega)).mp h2
    have hnm := hok.2
    have hnf := hok.lt
    refine w_load (.aload_n 0) 16 (by decide +kernel) rfl rfl ?_
    refine w_getR (k := 2) (r := 4) 19 (by decide +kernel) sh_0 rfl ?_
    refine w_load (.aload_n 0) 20 (by decide +kernel) rfl rfl ?_
    refine w_getR (k := 0) (r := 1) 23 (by decide +kernel) sh_0 rfl ?_
    refine w_callV1 7 1 4 26 (by decide +kernel) sh_4 (Nat.le_of_ble_eq_true rfl) rfl (by decide) (by omega) ?_
    refine s_settle hS.1 hs_4 sc_1 (by omega) kz0 (by omega) (fun Nr3 hTr3 hr3 => ?_)
    have kn4 := (hTr3.2 (1) 1 (by (try dsimp only); first | omega | (simp only [Hs, Tl, Sc, isHs, isScr, isTs] at *; omega))).trans kz0
    have hS := hS.tr hTr3 (by intro i k; first | exact rfl | exact fun h => h.elim | omega | (dsimp only; omega) | (simp only [Hs, Tl, Sc, isHs, isScr, isTs] at *; omega))
    dsimp only [Option.toList, List.nil_append]
    refine w_load (.aload_n 0) 27 (by decide +kernel) rfl rfl ?_
    refine w_pushN 0 28 (by decide +kernel) ?_
    refine w_putE (k := 14) 31 (by decide +kernel) sh_0 rfl hS (rg_acts (by omega)) (by first | exact rfl | omega | (dsimp only; omega) | (simp only [Hs, Tl, Sc, isHs, isScr, isTs] at *; omega)) (fun Nq5 hS hq5 oq5 mq5 => ?_)
    have kn6 := (oq5 (1) 1 (by first | omega | (simp only [Hs, Tl, Sc, isHs, isScr, isTs] at *; omega))).trans kn4
    have kn7 := (oq5 (4) 2 (by first | omega | (simp only [Hs, Tl, Sc, isHs, isScr, isTs] at *; omega))).trans hr3.2.2
    refine w_load (.aload_n 0) 32 (by decide +kernel) rfl rfl ?_
    refine w_pushN 0 33 (by decide +kernel) ?_
    refine w_putE (k := 15) 36 (by decide +kernel) sh_0 rfl hS (rg_0 (by decide)) (by first | exact rfl | omega | (dsimp only; omega) | (simp only [Hs, Tl, Sc, isHs, isScr, isTs] at *; omega)) (fun Nq8 hS hq8 oq8 mq8 => ?_)
    have kn9 := (oq8 (1) 1 (by first | omega | (simp only [Hs, Tl, Sc, isHs, isScr, isTs] at *; omega))).trans kn6
    have kn10 := (oq8 (4) 2 (by first | omega | (simp only [Hs, Tl, Sc, isHs, isScr, isTs] at *; omega))).trans kn7
    have kn11 := (oq8 (0) 14 (by first | omega | (simp only [Hs, Tl, Sc, isHs, isScr, isTs] at *; omega))).trans hq5
    refine w_load (.aload_n 0) 37 (by decide +kernel) rfl rfl ?_
    refine w_getR (k := 2) (r := 4) 40 (by decide +kernel) sh_0 rfl ?_
    refine w_callV0 10 1 1 43 (by decide +kernel) sh_4 (Nat.le_of_ble_eq_true rfl)  (by decide) (by omega) ?_
    refine k_10 hS.1 hs_4 (by omega) kn10 (by omega) (fun r12 hr12 => ?_)
    dsimp only [Option.toList, List.cons_append, List.nil_append]
    exact w_ret (by decide +kernel) (hq _ Nq8 hS (Or.inr ⟨by rw [hM]; exact hok, by assumption, by rw [mq8, up2_ne (by decide), mq5, up2_ne (by decide)]; exact hr3.2.2, by rw [mq8, row_ne (by decide), mq5, row_ne (by decide), hM]; exact hr3.1, by rw [mq8, row_ne (by decide), mq5, row_ne (by decide), hM]; exact hr3.2.1, by rw [mq8, up2_ne (by decide), mq5, up2_eq], by rw [mq8, up2_eq]⟩))
  · skip
    have hok := (not_congr (ft_ok hr1 (by omega))).mp h2
    refine w_push (-3) 14 (by decide +kernel) ?_
    exact w_ret (by decide +kernel) (hq _ N hS (Or.inl ⟨rfl, by rw [hM]; exact hok, hNM⟩))
