set_option maxRecDepth 10000 in
theorem case_0 {X : Lx} {k : Nat} {M : Mt} {L : Lt} (hX : X.ok) (hk : k + 5 ≤ X.n) (hI : Inv M) (hA : RelA M) (hR : RelH M) (hL : L 0 = L 76) (hSn : RelS M) {bb : Nat} (hbd : BdH bb M) (hbb : bb < 5000) (hb9 : 9 ≤ bb) (kk : ∀ (N : Mt) (L' : Lt), RelD (bb + 8) N L' → LW X 1174 k [] (wOf N L')) : LW X 184 k [] (wOf M L) := by
  obtain ⟨zt, hzt, tx1, tx2⟩ := hA.1
  obtain ⟨m, hm, se1, se2, hRs⟩ := id hSn
  obtain ⟨n, c, pw, hH, ⟨na, nx, ra, hAc⟩, hk0, rk0, hSl⟩ := id hR
  obtain ⟨hn, gu1, gu2, hc1, hc2, hp1, hp2, hok⟩ := id hH
  obtain ⟨T, hTx, hTm⟩ := tl_ex hI hA.2.2.1
  have ho1 : ∀ t, t < 3 → M 67 t = M 67 t := fun t _ => rfl
  have ho8 : ∀ t, t < 3 → M 85 t = M 67 t := fun t ht => (hA.2.2.2.2 t ht).symm
  obtain ⟨on, on8, hon⟩ := od_nat hI
  have on1 : ∀ t, t < 3 → M 67 t = nI (on t) := fun t ht => (hA.2.2.2.2 t ht).trans (on8 t ht)
  refine L_x hX 185 (by decide +kernel) ?_
  refine L_scr hX 1 190 (by decide +kernel) (by omega) (by decide) ?_
  refine L_callV1 hX 76 7 2 193 (by decide +kernel) sh_0 (Nat.le_of_ble_eq_true rfl) (by decide) ?_
  refine k_76 hI hzt tx1 (by decide) (fun r1 N1 hT1 hr1 => ?_)
  dsimp only [Option.toList, List.cons_append, List.nil_append]
  have tx2_1 := (hT1.2 76 4 (by first | exact fun h => h | ((try dsimp only); omega))).trans tx2
  refine L_pure hX .pop 194 (by decide +kernel) rfl ?_
  refine L_m hX 195 (by decide +kernel) ?_
  refine L_scr hX 1 200 (by decide +kernel) (by omega) (by decide) ?_
  refine L_callV1 hX 137 8 2 203 (by decide +kernel) sh_76 (Nat.le_of_ble_eq_true rfl) (by decide) ?_
  refine k_137 hT1.1 hzt tx2_1 (by decide) (fun r2 N2 hT2 hr2 => ?_)
  dsimp only [Option.toList, List.cons_append, List.nil_append]
  obtain ⟨hA2, hsame⟩ := wr_step hA hzt tx1 tx2 hr1 hr2
  have hR2 := hR.keep (fun i k hc => (hT2.2 i k (by first | exact fun h => h | (unfold core2 at hc; (try dsimp only); omega))).trans (hT1.2 i k (by first | exact fun h => h | (unfold core2 at hc; (try dsimp only); omega))))
  have hN2 := hSn.keep (fun i k hc => (hT2.2 i k (by first | exact fun h => h | (unfold core3 at hc; (try dsimp only); omega))).trans (hT1.2 i k (by first | exact fun h => h | (unfold core3 at hc; (try dsimp only); omega))))
  have hB2 := (hbd.keep (fun i k hc => (hT2.2 i k (by first | exact fun h => h | (unfold coreB at hc; (try dsimp only); omega))).trans (hT1.2 i k (by first | exact fun h => h | (unfold coreB at hc; (try dsimp only); omega))))).mono (Nat.le_add_right bb 8)
  have hL2 := hL
  refine L_pure hX .pop 204 (by decide +kernel) rfl ?_
  refine L_goto hX 1174 (by decide +kernel) ?_
  exact kk _ _ ⟨⟨⟨hT2.1, hA2, hR2, hL2⟩, hN2⟩, hB2, by omega⟩
set_option maxRecDepth 10000 in
theorem case_1 {X : Lx} {k : Nat} {M : Mt} {L : Lt} (hX : X.ok) (hk : k + 5 ≤ X.n) (hI : Inv M) (hA : RelA M) (hR : RelH M) (hL : L 0 = L 76) (hSn : RelS M) {bb : Nat} (hbd : BdH bb M) (hbb : bb < 5000) (hb9 : 9 ≤ bb) (kk : ∀ (N : Mt) (L' : Lt), RelD (bb + 8) N L' → LW X 1174 k [] (wOf N L')) : LW X 207 k [] (wOf M L) := by
  obtain ⟨zt, hzt, tx1, tx2⟩ := hA.1
  obtain ⟨m, hm, se1, se2, hRs⟩ := id hSn
  obtain ⟨n, c, pw, hH, ⟨na, nx, ra, hAc⟩, hk0, rk0, hSl⟩ := id hR
  obtain ⟨hn, gu1, gu2, hc1, hc2, hp1, hp2, hok⟩ := id hH
  obtain ⟨T, hTx, hTm⟩ := tl_ex hI hA.2.2.1
  have ho1 : ∀ t, t < 3 → M 67 t = M 67 t := fun t _ => rfl
  have ho8 : ∀ t, t < 3 → M 85 t = M 67 t := fun t ht => (hA.2.2.2.2 t ht).symm
  obtain ⟨on, on8, hon⟩ := od_nat hI
  have on1 : ∀ t, t < 3 → M 67 t = nI (on t) := fun t ht => (hA.2.2.2.2 t ht).trans (on8 t ht)
  refine L_x hX 208 (by decide +kernel) ?_
  refine L_callV0 hX 77 7 1 211 (by decide +kernel) sh_0 (Nat.le_of_ble_eq_true rfl) (by decide) ?_
  refine k_77 hI hzt tx1 (by decide) (fun r1 N1 hT1 hr1 => ?_)
  dsimp only [Option.toList, List.cons_append, List.nil_append]
  have tx2_1 := (hT1.2 76 4 (by first | exact fun h => h | ((try dsimp only); omega))).trans tx2
  refine L_pure hX .pop 212 (by decide +kernel) rfl ?_
  refine L_m hX 213 (by decide +kernel) ?_
  refine L_callV0 hX 138 8 2 216 (by decide +kernel) sh_76 (Nat.le_of_ble_eq_true rfl) (by decide) ?_
  refine k_138 hT1.1 hzt tx2_1 (by decide) (fun r2 N2 hT2 hr2 => ?_)
  dsimp only [Option.toList, List.cons_append, List.nil_append]
  obtain ⟨hA2, hsame⟩ := wi_step hA hr1 hr2
  have hR2 := hR.keep (fun i k hc => (hT2.2 i k (by first | exact fun h => h | (unfold core2 at hc; (try dsimp only); omega))).trans (hT1.2 i k (by first | exact fun h => h | (unfold core2 at hc; (try dsimp only); omega))))
  have hN2 := hSn.keep (fun i k hc => (hT2.2 i k (by first | exact fun h => h | (unfold core3 at hc; (try dsimp only); omega))).trans (hT1.2 i k (by first | exact fun h => h | (unfold core3 at hc; (try dsimp only); omega))))
  have hB2 := (hbd.keep (fun i k hc => (hT2.2 i k (by first | exact fun h => h | (unfold coreB at hc; (try dsimp only); omega))).trans (hT1.2 i k (by first | exact fun h => h | (unfold coreB at hc; (try dsimp only); omega))))).mono (Nat.le_add_right bb 8)
  have hL2 := hL
  refine L_pure hX .pop 217 (by decide +kernel) rfl ?_
  refine L_goto hX 1174 (by decide +kernel) ?_
  exact kk _ _ ⟨⟨⟨hT2.1, hA2, hR2, hL2⟩, hN2⟩, hB2, by omega⟩
set_option maxRecDepth 10000 in
theorem case_2 {X : Lx} {k : Nat} {M : Mt} {L : Lt} (hX : X.ok) (hk : k + 5 ≤ X.n) (hI : Inv M) (hA : RelA M) (hR : RelH M) (hL : L 0 = L 76) (hSn : RelS M) {bb : Nat} (hbd : BdH bb M) (hbb : bb < 5000) (hb9 : 9 ≤ bb) (kk : ∀ (N : Mt) (L' : Lt), RelD (bb + 8) N L' → LW X 1174 k [] (wOf N L')) : LW X 220 k [] (wOf M L) := by
  obtain ⟨zt, hzt, tx1, tx2⟩ := hA.1
  obtain ⟨m, hm, se1, se2, hRs⟩ := id hSn
  obtain ⟨n, c, pw, hH, ⟨na, nx, ra, hAc⟩, hk0, rk0, hSl⟩ := id hR
  obtain ⟨hn, gu1, gu2, hc1, hc2, hp1, hp2, hok⟩ := id hH
  obtain ⟨T, hTx, hTm⟩ := tl_ex hI hA.2.2.1
  have ho1 : ∀ t, t < 3 → M 67 t = M 67 t := fun t _ => rfl
  have ho8 : ∀ t, t < 3 → M 85 t = M 67 t := fun t ht => (hA.2.2.2.2 t ht).symm
  obtain ⟨on, on8, hon⟩ := od_nat hI
  have on1 : ∀ t, t < 3 → M 67 t = nI (on t) := fun t ht => (hA.2.2.2.2 t ht).trans (on8 t ht)
  refine L_x hX 221 (by decide +kernel) ?_
  refine L_callV0 hX 78 7 1 224 (by decide +kernel) sh_0 (Nat.le_of_ble_eq_true rfl) (by decide) ?_
  refine k_78 hI hzt tx1 (by decide) (fun r1 hr1 => ?_)
  dsimp only [Option.toList, List.cons_append, List.nil_append]
  refine L_pure hX .pop 225 (by decide +kernel) rfl ?_
  refine L_m hX 226 (by decide +kernel) ?_
  refine L_callV0 hX 140 8 2 229 (by decide +kernel) sh_76 (Nat.le_of_ble_eq_true rfl) (by decide) ?_
  refine k_140 hI hzt tx2 (by decide) (fun r2 hr2 => ?_)
  dsimp only [Option.toList, List.cons_append, List.nil_append]
  have hA2 := hA.keep (fun i k hc => rfl)
  have hR2 := hR.keep (fun i k hc => rfl)
  have hN2 := hSn.keep (fun i k hc => rfl)
  have hB2 := (hbd.keep (fun i k hc => rfl)).mono (Nat.le_add_right bb 8)
  have hL2 := hL
  refine L_pure hX .pop 230 (by decide +kernel) rfl ?_
  refine L_goto hX 1174 (by decide +kernel) ?_
  exact kk _ _ ⟨⟨⟨hI, hA2, hR2, hL2⟩, hN2⟩, hB2, by omega⟩
set_option maxRecDepth 10000 in
theorem case_3 {X : Lx} {k : Nat} {M : Mt} {L : Lt} (hX : X.ok) (hk : k + 5 ≤ X.n) (hI : Inv M) (hA : RelA M) (hR : RelH M) (hL : L 0 = L 76) (hSn : RelS M) {bb : Nat} (hbd : BdH bb M) (hbb : bb < 5000) (hb9 : 9 ≤ bb) (kk : ∀ (N : Mt) (L' : Lt), RelD (bb + 8) N L' → LW X 1174 k [] (wOf N L')) : LW X 233 k [] (wOf M L) := by
  obtain ⟨zt, hzt, tx1, tx2⟩ := hA.1
  obtain ⟨m, hm, se1, se2, hRs⟩ := id hSn
  obtain ⟨n, c, pw, hH, ⟨na, nx, ra, hAc⟩, hk0, rk0, hSl⟩ := id hR
  obtain ⟨hn, gu1, gu2, hc1, hc2, hp1, hp2, hok⟩ := id hH
  obtain ⟨T, hTx, hTm⟩ := tl_ex hI hA.2.2.1
  have ho1 : ∀ t, t < 3 → M 67 t = M 67 t := fun t _ => rfl
  have ho8 : ∀ t, t < 3 → M 85 t = M 67 t := fun t ht => (hA.2.2.2.2 t ht).symm
  obtain ⟨on, on8, hon⟩ := od_nat hI
  have on1 : ∀ t, t < 3 → M 67 t = nI (on t) := fun t ht => (hA.2.2.2.2 t ht).trans (on8 t ht)
  refine L_x hX 234 (by decide +kernel) ?_
  refine L_callV0 hX 79 7 1 237 (by decide +kernel) sh_0 (Nat.le_of_ble_eq_true rfl) (by decide) ?_
  refine s_inn hI hzt tx1 (by decide) (fun r1 N1 hT1 hr1 => ?_)
  dsimp only [Option.toList, List.cons_append, List.nil_append]
  have tx2_1 := (hT1.2 76 4 (by first | exact fun h => h | ((try dsimp only); omega))).trans tx2
  refine L_pure hX .pop 238 (by decide +kernel) rfl ?_
  refine L_m hX 239 (by decide +kernel) ?_
  refine L_callV0 hX 141 8 2 242 (by decide +kernel) sh_76 (Nat.le_of_ble_eq_true rfl) (by decide) ?_
  refine s_inn8 hT1.1 hzt tx2_1 (by decide) (fun r2 N2 hT2 hr2 => ?_)
  dsimp only [Option.toList, List.cons_append, List.nil_append]
  have hA2 := hA.keep (fun i k hc => (hT2.2 i k (by first | exact fun h => h | (unfold coreA at hc; (try dsimp only); omega))).trans (hT1.2 i k (by first | exact fun h => h | (unfold coreA at hc; (try dsimp only); omega))))
  obtain ⟨hR2, hsame⟩ := in_step2 hA.2.1 hR hzt hT1.2 hT2.2 hr1 hr2
  have hN2 := hSn.keep (fun i k hc => (hT2.2 i k (by first | exact fun h => h | (unfold core3 at hc; (try dsimp only); omega))).trans (hT1.2 i k (by first | exact fun h => h | (unfold core3 at hc; (try dsimp only); omega))))
  have hB2 := (in_bd hbd hb9 hzt hr1).keep (fun i k hc => hT2.2 i k (by first | exact fun h => h | (unfold coreB at hc; (try dsimp only); omega)))
  have hL2 := hL
  refine L_pure hX .pop 243 (by decide +kernel) rfl ?_
  refine L_goto hX 1174 (by decide +kernel) ?_
  exact kk _ _ ⟨⟨⟨hT2.1, hA2, hR2, hL2⟩, hN2⟩, hB2, by omega⟩
set_option maxRecDepth 10000 in
theorem case_4 {X : Lx} {k : Nat} {M : Mt} {L : Lt} (hX : X.ok) (hk : k + 5 ≤ X.n) (hI : Inv M) (hA : RelA M) (hR : RelH M) (hL : L 0 = L 76) (hSn : RelS M) {bb : Nat} (hbd : BdH bb M) (hbb : bb < 5000) (hb9 : 9 ≤ bb) (kk : ∀ (N : Mt) (L' : Lt), RelD (bb + 8) N L' → LW X 1174 k [] (wOf N L')) : LW X 246 k [] (wOf M L) := by
  obtain ⟨zt, hzt, tx1, tx2⟩ := hA.1
  obtain ⟨m, hm, se1, se2, hRs⟩ := id hSn
  obtain ⟨n, c, pw, hH, ⟨na, nx, ra, hAc⟩, hk0, rk0, hSl⟩ := id hR
  obtain ⟨hn, gu1, gu2, hc1, hc2, hp1, hp2, hok⟩ := id hH
  obtain ⟨T, hTx, hTm⟩ := tl_ex hI hA.2.2.1
  have ho1 : ∀ t, t < 3 → M 67 t = M 67 t := fun t _ => rfl
  have ho8 : ∀ t, t < 3 → M 85 t = M 67 t := fun t ht => (hA.2.2.2.2 t ht).symm
  obtain ⟨on, on8, hon⟩ := od_nat hI
  have on1 : ∀ t, t < 3 → M 67 t = nI (on t) := fun t ht => (hA.2.2.2.2 t ht).trans (on8 t ht)
  refine L_x hX 247 (by decide +kernel) ?_
  refine L_scr hX 1 252 (by decide +kernel) (by omega) (by decide) ?_
  refine L_scr hX 2 257 (by decide +kernel) (by omega) (by decide) ?_
  refine L_callV2 hX 80 7 3 260 (by decide +kernel) sh_0 (Nat.le_of_ble_eq_true rfl) (by decide) ?_
  refine k_80 hI  (by decide) (fun r1 N1 hT1 hr1 => ?_)
  dsimp only [Option.toList, List.cons_append, List.nil_append]
  refine L_pure hX .pop 261 (by decide +kernel) rfl ?_
  refine L_m hX 262 (by decide +kernel) ?_
  refine L_scr hX 1 267 (by decide +kernel) (by omega) (by decide) ?_
  refine L_scr hX 2 272 (by decide +kernel) (by omega) (by decide) ?_
  refine L_callV2 hX 143 8 3 275 (by decide +kernel) sh_76 (Nat.le_of_ble_eq_true rfl) (by decide) ?_
  refine k_143 hT1.1  (by decide) (fun r2 N2 hT2 hr2 => ?_)
  dsimp only [Option.toList, List.cons_append, List.nil_append]
  obtain ⟨hA2, hsame⟩ := qu_step hA hr1 hr2
  have hR2 := hR.keep (fun i k hc => (hT2.2 i k (by first | exact fun h => h | (unfold core2 at hc; (try dsimp only); omega))).trans (hT1.2 i k (by first | exact fun h => h | (unfold core2 at hc; (try dsimp only); omega))))
  have hN2 := hSn.keep (fun i k hc => (hT2.2 i k (by first | exact fun h => h | (unfold core3 at hc; (try dsimp only); omega))).trans (hT1.2 i k (by first | exact fun h => h | (unfold core3 at hc; (try dsimp only); omega))))
  have hB2 := (hbd.keep (fun i k hc => (hT2.2 i k (by first | exact fun h => h | (unfold coreB at hc; (try dsimp only); omega))).trans (hT1.2 i k (by first | exact fun h => h | (unfold coreB at hc; (try dsimp only); omega))))).mono (Nat.le_add_right bb 8)
  have hL2 := hL
  refine L_pure hX .pop 276 (by decide +kernel) rfl ?_
  refine L_goto hX 1174 (by decide +kernel) ?_
  exact kk _ _ ⟨⟨⟨hT2.1, hA2, hR2, hL2⟩, hN2⟩, hB2, by omega⟩
set_option maxRecDepth 10000 in
theorem case_5 {X : Lx} {k : Nat} {M : Mt} {L : Lt} (hX : X.ok) (hk : k + 5 ≤ X.n) (hI : Inv M) (hA : RelA M) (hR : RelH M) (hL : L 0 = L 76) (hSn : RelS M) {bb : Nat} (hbd : BdH bb M) (hbb : bb < 5000) (hb9 : 9 ≤ bb) (kk : ∀ (N : Mt) (L' : Lt), RelD (bb + 8) N L' → LW X 1174 k [] (wOf N L')) : LW X 279 k [] (wOf M L) := by
  obtain ⟨zt, hzt, tx1, tx2⟩ := hA.1
  obtain ⟨m, hm, se1, se2, hRs⟩ := id hSn
  obtain ⟨n, c, pw, hH, ⟨na, nx, ra, hAc⟩, hk0, rk0, hSl⟩ := id hR
  obtain ⟨hn, gu1, gu2, hc1, hc2, hp1, hp2, hok⟩ := id hH
  obtain ⟨T, hTx, hTm⟩ := tl_ex hI hA.2.2.1
  have ho1 : ∀ t, t < 3 → M 67 t = M 67 t := fun t _ => rfl
  have ho8 : ∀ t, t < 3 → M 85 t = M 67 t := fun t ht => (hA.2.2.2.2 t ht).symm
  obtain ⟨on, on8, hon⟩ := od_nat hI
  have on1 : ∀ t, t < 3 → M 67 t = nI (on t) := fun t ht => (hA.2.2.2.2 t ht).trans (on8 t ht)
  refine L_x hX 280 (by decide +kernel) ?_
  refine L_scr hX 1 285 (by decide +kernel) (by omega) (by decide) ?_
  refine L_callV1 hX 81 7 2 288 (by decide +kernel) sh_0 (Nat.le_of_ble_eq_true rfl) (by decide) ?_
  refine k_81 hI  (by decide) (fun r1 N1 hT1 hr1 => ?_)
  dsimp only [Option.toList, List.cons_append, List.nil_append]
  refine L_pure hX .pop 289 (by decide +kernel) rfl ?_
  refine L_m hX 290 (by decide +kernel) ?_
  refine L_scr hX 1 295 (by decide +kernel) (by omega) (by decide) ?_
  refine L_callV1 hX 144 8 3 298 (by decide +kernel) sh_76 (Nat.le_of_ble_eq_true rfl) (by decide) ?_
  refine k_144 hT1.1  (by decide) (fun r2 N2 hT2 hr2 => ?_)
  dsimp only [Option.toList, List.cons_append, List.nil_append]
  obtain ⟨hA2, hsame⟩ := bl_step hA hr1 hr2
  have hR2 := hR.keep (fun i k hc => (hT2.2 i k (by first | exact fun h => h | (unfold core2 at hc; (try dsimp only); omega))).trans (hT1.2 i k (by first | exact fun h => h | (unfold core2 at hc; (try dsimp only); omega))))
  have hN2 := hSn.keep (fun i k hc => (hT2.2 i k (by first | exact fun h => h | (unfold core3 at hc; (try dsimp only); omega))).trans (hT1.2 i k (by first | exact fun h => h | (unfold core3 at hc; (try dsimp only); omega))))
  have hB2 := (hbd.keep (fun i k hc => (hT2.2 i k (by first | exact fun h => h | (unfold coreB at hc; (try dsimp only); omega))).trans (hT1.2 i k (by first | exact fun h => h | (unfold coreB at hc; (try dsimp only); omega))))).mono (Nat.le_add_right bb 8)
  have hL2 := hL
  refine L_pure hX .pop 299 (by decide +kernel) rfl ?_
  refine L_goto hX 1174 (by decide +kernel) ?_
  exact kk _ _ ⟨⟨⟨hT2.1, hA2, hR2, hL2⟩, hN2⟩, hB2, by omega⟩
set_option maxRecDepth 10000 in
theorem case_6 {X : Lx} {k : Nat} {M : Mt} {L : Lt} (hX : X.ok) (hk : k + 5 ≤ X.n) (hI : Inv M) (hA : RelA M) (hR : RelH M) (hL : L 0 = L 76) (hSn : RelS M) {bb : Nat} (hbd : BdH bb M) (hbb : bb < 5000) (hb9 : 9 ≤ bb) (kk : ∀ (N : Mt) (L' : Lt), RelD (bb + 8) N L' → LW X 1174 k [] (wOf N L')) : LW X 302 k [] (wOf M L) := by
  obtain ⟨zt, hzt, tx1, tx2⟩ := hA.1
  obtain ⟨m, hm, se1, se2, hRs⟩ := id hSn
  obtain ⟨n, c, pw, hH, ⟨na, nx, ra, hAc⟩, hk0, rk0, hSl⟩ := id hR
  obtain ⟨hn, gu1, gu2, hc1, hc2, hp1, hp2, hok⟩ := id hH
  obtain ⟨T, hTx, hTm⟩ := tl_ex hI hA.2.2.1
  have ho1 : ∀ t, t < 3 → M 67 t = M 67 t := fun t _ => rfl
  have ho8 : ∀ t, t < 3 → M 85 t = M 67 t := fun t ht => (hA.2.2.2.2 t ht).symm
  obtain ⟨on, on8, hon⟩ := od_nat hI
  have on1 : ∀ t, t < 3 → M 67 t = nI (on t) := fun t ht => (hA.2.2.2.2 t ht).trans (on8 t ht)
  refine L_x hX 303 (by decide +kernel) ?_
  refine L_scr hX 1 308 (by decide +kernel) (by omega) (by decide) ?_
  refine L_callV1 hX 82 7 2 311 (by decide +kernel) sh_0 (Nat.le_of_ble_eq_true rfl) (by decide) ?_
  refine k_82 hI  (by decide) (fun r1 hr1 => ?_)
  dsimp only [Option.toList, List.cons_append, List.nil_append]
  refine L_pure hX .pop 312 (by decide +kernel) rfl ?_
  refine L_m hX 313 (by decide +kernel) ?_
  refine L_scr hX 1 318 (by decide +kernel) (by omega) (by decide) ?_
  refine L_callV1 hX 147 8 2 321 (by decide +kernel) sh_76 (Nat.le_of_ble_eq_true rfl) (by decide) ?_
  refine k_147 hI  (by decide) (fun r2 hr2 => ?_)
  dsimp only [Option.toList, List.cons_append, List.nil_append]
  have hA2 := hA.keep (fun i k hc => rfl)
  have hR2 := hR.keep (fun i k hc => rfl)
  have hN2 := hSn.keep (fun i k hc => rfl)
  have hB2 := (hbd.keep (fun i k hc => rfl)).mono (Nat.le_add_right bb 8)
  have hL2 := hL
  refine L_pure hX .pop 322 (by decide +kernel) rfl ?_
  refine L_goto hX 1174 (by decide +kernel) ?_
  exact kk _ _ ⟨⟨⟨hI, hA2, hR2, hL2⟩, hN2⟩, hB2, by omega⟩
set_option maxRecDepth 10000 in
theorem case_7 {X : Lx} {k : Nat} {M : Mt} {L : Lt} (hX : X.ok) (hk : k + 5 ≤ X.n) (hI : Inv M) (hA : RelA M) (hR : RelH M) (hL : L 0 = L 76) (hSn : RelS M) {bb : Nat} (hbd : BdH bb M) (hbb : bb < 5000) (hb9 : 9 ≤ bb) (kk : ∀ (N : Mt) (L' : Lt), RelD (bb + 8) N L' → LW X 1174 k [] (wOf N L')) : LW X 325 k [] (wOf M L) := by
  obtain ⟨zt, hzt, tx1, tx2⟩ := hA.1
  obtain ⟨m, hm, se1, se2, hRs⟩ := id hSn
  obtain ⟨n, c, pw, hH, ⟨na, nx, ra, hAc⟩, hk0, rk0, hSl⟩ := id hR
  obtain ⟨hn, gu1, gu2, hc1, hc2, hp1, hp2, hok⟩ := id hH
  obtain ⟨T, hTx, hTm⟩ := tl_ex hI hA.2.2.1
  have ho1 : ∀ t, t < 3 → M 67 t = M 67 t := fun t _ => rfl
  have ho8 : ∀ t, t < 3 → M 85 t = M 67 t := fun t ht => (hA.2.2.2.2 t ht).symm
  obtain ⟨on, on8, hon⟩ := od_nat hI
  have on1 : ∀ t, t < 3 → M 67 t = nI (on t) := fun t ht => (hA.2.2.2.2 t ht).trans (on8 t ht)
  refine L_x hX 326 (by decide +kernel) ?_
  refine L_scr hX 1 331 (by decide +kernel) (by omega) (by decide) ?_
  refine L_scr hX 2 336 (by decide +kernel) (by omega) (by decide) ?_
  refine L_callV2 hX 83 7 3 339 (by decide +kernel) sh_0 (Nat.le_of_ble_eq_true rfl) (by decide) ?_
  refine k_83 hI  (by decide) (fun r1 hr1 => ?_)
  dsimp only [Option.toList, List.cons_append, List.nil_append]
  refine L_pure hX .pop 340 (by decide +kernel) rfl ?_
  refine L_m hX 341 (by decide +kernel) ?_
  refine L_scr hX 1 346 (by decide +kernel) (by omega) (by decide) ?_
  refine L_scr hX 2 351 (by decide +kernel) (by omega) (by decide) ?_
  refine L_callV2 hX 151 8 3 354 (by decide +kernel) sh_76 (Nat.le_of_ble_eq_true rfl) (by decide) ?_
  refine k_151 hI  (by decide) (fun r2 hr2 => ?_)
  dsimp only [Option.toList, List.cons_append, List.nil_append]
  have hA2 := hA.keep (fun i k hc => rfl)
  have hR2 := hR.keep (fun i k hc => rfl)
  have hN2 := hSn.keep (fun i k hc => rfl)
  have hB2 := (hbd.keep (fun i k hc => rfl)).mono (Nat.le_add_right bb 8)
  have hL2 := hL
  refine L_pure hX .pop 355 (by decide +kernel) rfl ?_
  refine L_goto hX 1174 (by decide +kernel) ?_
  exact kk _ _ ⟨⟨⟨hI, hA2, hR2, hL2⟩, hN2⟩, hB2, by omega⟩
set_option maxRecDepth 10000 in
theorem case_8 {X : Lx} {k : Nat} {M : Mt} {L : Lt} (hX : X.ok) (hk : k + 5 ≤ X.n) (hI : Inv M) (hA : RelA M) (hR : RelH M) (hL : L 0 = L 76) (hSn : RelS M) {bb : Nat} (hbd : BdH bb M) (hbb : bb < 5000) (hb9 : 9 ≤ bb) (kk : ∀ (N : Mt) (L' : Lt), RelD (bb + 8) N L' → LW X 1174 k [] (wOf N L')) : LW X 358 k [] (wOf M L) := by
  obtain ⟨zt, hzt, tx1, tx2⟩ := hA.1
  obtain ⟨m, hm, se1, se2, hRs⟩ := id hSn
  obtain ⟨n, c, pw, hH, ⟨na, nx, ra, hAc⟩, hk0, rk0, hSl⟩ := id hR
  obtain ⟨hn, gu1, gu2, hc1, hc2, hp1, hp2, hok⟩ := id hH
  obtain ⟨T, hTx, hTm⟩ := tl_ex hI hA.2.2.1
  have ho1 : ∀ t, t < 3 → M 67 t = M 67 t := fun t _ => rfl
  have ho8 : ∀ t, t < 3 → M 85 t = M 67 t := fun t ht => (hA.2.2.2.2 t ht).symm
  obtain ⟨on, on8, hon⟩ := od_nat hI
  have on1 : ∀ t, t < 3 → M 67 t = nI (on t) := fun t ht => (hA.2.2.2.2 t ht).trans (on8 t ht)
  refine L_x hX 359 (by decide +kernel) ?_
  refine L_scr hX 1 364 (by decide +kernel) (by omega) (by decide) ?_
  refine L_callV1 hX 84 7 2 367 (by decide +kernel) sh_0 (Nat.le_of_ble_eq_true rfl) (by decide) ?_
  refine k_84 hI  (by decide) (fun r1 hr1 => ?_)
  dsimp only [Option.toList, List.cons_append, List.nil_append]
  refine L_pure hX .pop 368 (by decide +kernel) rfl ?_
  refine L_m hX 369 (by decide +kernel) ?_
  refine L_scr hX 1 374 (by decide +kernel) (by omega) (by decide) ?_
  refine L_callV1 hX 153 8 2 377 (by decide +kernel) sh_76 (Nat.le_of_ble_eq_true rfl) (by decide) ?_
  refine k_153 hI  (by decide) (fun r2 hr2 => ?_)
  dsimp only [Option.toList, List.cons_append, List.nil_append]
  have hA2 := hA.keep (fun i k hc => rfl)
  have hR2 := hR.keep (fun i k hc => rfl)
  have hN2 := hSn.keep (fun i k hc => rfl)
  have hB2 := (hbd.keep (fun i k hc => rfl)).mono (Nat.le_add_right bb 8)
  have hL2 := hL
  refine L_pure hX .pop 378 (by decide +kernel) rfl ?_
  refine L_goto hX 1174 (by decide +kernel) ?_
  exact kk _ _ ⟨⟨⟨hI, hA2, hR2, hL2⟩, hN2⟩, hB2, by omega⟩
set_option maxRecDepth 10000 in
theorem case_9 {X : Lx} {k : Nat} {M : Mt} {L : Lt} (hX : X.ok) (hk : k + 5 ≤ X.n) (hI : Inv M) (hA : RelA M) (hR : RelH M) (hL : L 0 = L 76) (hSn : RelS M) {bb : Nat} (hbd : BdH bb M) (hbb : bb < 5000) (hb9 : 9 ≤ bb) (kk : ∀ (N : Mt) (L' : Lt), RelD (bb + 8) N L' → LW X 1174 k [] (wOf N L')) : LW X 381 k [] (wOf M L) := by
  obtain ⟨zt, hzt, tx1, tx2⟩ := hA.1
  obtain ⟨m, hm, se1, se2, hRs⟩ := id hSn
  obtain ⟨n, c, pw, hH, ⟨na, nx, ra, hAc⟩, hk0, rk0, hSl⟩ := id hR
  obtain ⟨hn, gu1, gu2, hc1, hc2, hp1, hp2, hok⟩ := id hH
  obtain ⟨T, hTx, hTm⟩ := tl_ex hI hA.2.2.1
  have ho1 : ∀ t, t < 3 → M 67 t = M 67 t := fun t _ => rfl
  have ho8 : ∀ t, t < 3 → M 85 t = M 67 t := fun t ht => (hA.2.2.2.2 t ht).symm
  obtain ⟨on, on8, hon⟩ := od_nat hI
  have on1 : ∀ t, t < 3 → M 67 t = nI (on t) := fun t ht => (hA.2.2.2.2 t ht).trans (on8 t ht)
  refine L_x hX 382 (by decide +kernel) ?_
  refine L_scr hX 1 387 (by decide +kernel) (by omega) (by decide) ?_
  refine L_callV1 hX 85 7 2 390 (by decide +kernel) sh_0 (Nat.le_of_ble_eq_true rfl) (by decide) ?_
  refine s_tell hI hn gu1 hc1 hp1 hok.1 hAc.1 hAc.2.1 (by decide) (fun r1 N1 hT1 hr1 => ?_)
  dsimp only [Option.toList, List.cons_append, List.nil_append]
  have gu2_1 := (hT1.2 76 0 (by first | exact fun h => h | ((try dsimp only); omega))).trans gu2
  have hc2_1 := (show HE n (lvC N1 0) c by rw [lvC_row (hT1.row (fun k => (by first | exact fun h => h | ((try dsimp only); omega))))]; exact hc2)
  have hp2_1 := (show LQ n (N1 77) pw by rw [hT1.row (x := 77) (fun k => (by first | exact fun h => h | ((try dsimp only); omega)))]; exact hp2)
  have acm_1 := hAc.2.2.1.keep (hT1.2 76 8 (by first | exact fun h => h | ((try dsimp only); omega))) (hT1.2 76 9 (by first | exact fun h => h | ((try dsimp only); omega))) (hT1.row (fun k => (by first | exact fun h => h | ((try dsimp only); omega))))
  refine L_pure hX .pop 391 (by decide +kernel) rfl ?_
  refine L_m hX 392 (by decide +kernel) ?_
  refine L_scr hX 1 397 (by decide +kernel) (by omega) (by decide) ?_
  refine L_callV1 hX 162 8 2 400 (by decide +kernel) sh_76 (Nat.le_of_ble_eq_true rfl) (by decide) ?_
  refine s_tell8 hT1.1 hn gu2_1 hc2_1 hp2_1 hok.1 hAc.1 acm_1 (by decide) (fun r2 N2 hT2 hr2 => ?_)
  dsimp only [Option.toList, List.cons_append, List.nil_append]
  have hA2 := hA.keep (fun i k hc => (hT2.2 i k (by first | exact fun h => h | (unfold coreA at hc; (try dsimp only); omega))).trans (hT1.2 i k (by first | exact fun h => h | (unfold coreA at hc; (try dsimp only); omega))))
  obtain ⟨hR2, hsame⟩ := te_step hA.2.2.1 hH hAc hSl hT1.2 hT2.2 hr1 hr2
  have hN2 := hSn.keep (fun i k hc => (hT2.2 i k (by first | exact fun h => h | (unfold core3 at hc; (try dsimp only); omega))).trans (hT1.2 i k (by first | exact fun h => h | (unfold core3 at hc; (try dsimp only); omega))))
  have hB2 := (te_bd hbd hbb hH hAc hSl hT1.2 hr1).keep (fun i k hc => hT2.2 i k (by first | exact fun h => h | (unfold coreB at hc; (try dsimp only); omega)))
  have hL2 := hL
  refine L_pure hX .pop 401 (by decide +kernel) rfl ?_
  refine L_goto hX 1174 (by decide +kernel) ?_
  exact kk _ _ ⟨⟨⟨hT2.1, hA2, hR2, hL2⟩, hN2⟩, hB2, by omega⟩
set_option maxRecDepth 10000 in
theorem case_10 {X : Lx} {k : Nat} {M : Mt} {L : Lt} (hX : X.ok) (hk : k + 5 ≤ X.n) (hI : Inv M) (hA : RelA M) (hR : RelH M) (hL : L 0 = L 76) (hSn : RelS M) {bb : Nat} (hbd : BdH bb M) (hbb : bb < 5000) (hb9 : 9 ≤ bb) (kk : ∀ (N : Mt) (L' : Lt), RelD (bb + 8) N L' → LW X 1174 k [] (wOf N L')) : LW X 404 k [] (wOf M L) := by
  obtain ⟨zt, hzt, tx1, tx2⟩ := hA.1
  obtain ⟨m, hm, se1, se2, hRs⟩ := id hSn
  obtain ⟨n, c, pw, hH, ⟨na, nx, ra, hAc⟩, hk0, rk0, hSl⟩ := id hR
  obtain ⟨hn, gu1, gu2, hc1, hc2, hp1, hp2, hok⟩ := id hH
  obtain ⟨T, hTx, hTm⟩ := tl_ex hI hA.2.2.1
  have ho1 : ∀ t, t < 3 → M 67 t = M 67 t := fun t _ => rfl
  have ho8 : ∀ t, t < 3 → M 85 t = M 67 t := fun t ht => (hA.2.2.2.2 t ht).symm
  obtain ⟨on, on8, hon⟩ := od_nat hI
  have on1 : ∀ t, t < 3 → M 67 t = nI (on t) := fun t ht => (hA.2.2.2.2 t ht).trans (on8 t ht)
  refine L_x hX 405 (by decide +kernel) ?_
  refine L_scr hX 1 410 (by decide +kernel) (by omega) (by decide) ?_
  refine L_scr hX 2 415 (by decide +kernel) (by omega) (by decide) ?_
  refine L_callV2 hX 86 7 4 418 (by decide +kernel) sh_0 (Nat.le_of_ble_eq_true rfl) (by decide) ?_
  refine s_give hI hn gu1 hc1 hp1 hAc.1 hAc.2.1 (by decide) (fun r1 N1 hT1 hr1 => ?_)
  dsimp only [Option.toList, List.cons_append, List.nil_append]
  have gu2_1 := (hT1.2 76 0 (by first | exact fun h => h | ((try dsimp only); omega))).trans gu2
  have hc2_1 := (show HE n (lvC N1 0) c by rw [lvC_row (hT1.row (fun k => (by first | exact fun h => h | ((try dsimp only); omega))))]; exact hc2)
  have hp2_1 := (show LQ n (N1 77) pw by rw [hT1.row (x := 77) (fun k => (by first | exact fun h => h | ((try dsimp only); omega)))]; exact hp2)
  have acm_1 := hAc.2.2.1.keep (hT1.2 76 8 (by first | exact fun h => h | ((try dsimp only); omega))) (hT1.2 76 9 (by first | exact fun h => h | ((try dsimp only); omega))) (hT1.row (fun k => (by first | exact fun h => h | ((try dsimp only); omega))))
  refine L_pure hX .pop 419 (by decide +kernel) rfl ?_
  refine L_m hX 420 (by decide +kernel) ?_
  refine L_scr hX 1 425 (by decide +kernel) (by omega) (by decide) ?_
  refine L_scr hX 2 430 (by decide +kernel) (by omega) (by decide) ?_
  refine L_callV2 hX 163 8 4 433 (by decide +kernel) sh_76 (Nat.le_of_ble_eq_true rfl) (by decide) ?_
  refine s_give8 hT1.1 hn gu2_1 hc2_1 hp2_1 hAc.1 acm_1 (by decide) (fun r2 N2 hT2 hr2 => ?_)
  dsimp only [Option.toList, List.cons_append, List.nil_append]
  have hA2 := hA.keep (fun i k hc => (hT2.2 i k (by first | exact fun h => h | (unfold coreA at hc; (try dsimp only); omega))).trans (hT1.2 i k (by first | exact fun h => h | (unfold coreA at hc; (try dsimp only); omega))))
  obtain ⟨hR2, hsame⟩ := gi_step hH hAc hSl hT1.2 hT2.2 hr1 hr2
  have hN2 := hSn.keep (fun i k hc => (hT2.2 i k (by first | exact fun h => h | (unfold core3 at hc; (try dsimp only); omega))).trans (hT1.2 i k (by first | exact fun h => h | (unfold core3 at hc; (try dsimp only); omega))))
  have hB2 := (gi_bd hbd hH hAc hSl hT1.2 hr1).keep (fun i k hc => hT2.2 i k (by first | exact fun h => h | (unfold coreB at hc; (try dsimp only); omega)))
  have hL2 := hL
  refine L_pure hX .pop 434 (by decide +kernel) rfl ?_
  refine L_goto hX 1174 (by decide +kernel) ?_
  exact kk _ _ ⟨⟨⟨hT2.1, hA2, hR2, hL2⟩, hN2⟩, hB2, by omega⟩
set_option maxRecDepth 10000 in
theorem case_11 {X : Lx} {k : Nat} {M : Mt} {L : Lt} (hX : X.ok) (hk : k + 5 ≤ X.n) (hI : Inv M) (hA : RelA M) (hR : RelH M) (hL : L 0 = L 76) (hSn : RelS M) {bb : Nat} (hbd : BdH bb M) (hbb : bb < 5000) (hb9 : 9 ≤ bb) (kk : ∀ (N : Mt) (L' : Lt), RelD (bb + 8) N L' → LW X 1174 k [] (wOf N L')) : LW X 437 k [] (wOf M L) := by
  obtain ⟨zt, hzt, tx1, tx2⟩ := hA.1
  obtain ⟨m, hm, se1, se2, hRs⟩ := id hSn
  obtain ⟨n, c, pw, hH, ⟨na, nx, ra, hAc⟩, hk0, rk0, hSl⟩ := id hR
  obtain ⟨hn, gu1, gu2, hc1, hc2, hp1, hp2, hok⟩ := id hH
  obtain ⟨T, hTx, hTm⟩ := tl_ex hI hA.2.2.1
  have ho1 : ∀ t, t < 3 → M 67 t = M 67 t := fun t _ => rfl
  have ho8 : ∀ t, t < 3 → M 85 t = M 67 t := fun t ht => (hA.2.2.2.2 t ht).symm
  obtain ⟨on, on8, hon⟩ := od_nat hI
  have on1 : ∀ t, t < 3 → M 67 t = nI (on t) := fun t ht => (hA.2.2.2.2 t ht).trans (on8 t ht)
  refine L_x hX 438 (by decide +kernel) ?_
  refine L_callV0 hX 87 7 1 441 (by decide +kernel) sh_0 (Nat.le_of_ble_eq_true rfl) (by decide) ?_
  refine s_undo hI hn gu1 hc1 hp1 hAc.1 hAc.2.1 (by decide) (fun r1 N1 hT1 hr1 => ?_)
  dsimp only [Option.toList, List.cons_append, List.nil_append]
  have gu2_1 := (hT1.2 76 0 (by first | exact fun h => h | ((try dsimp only); omega))).trans gu2
  have hc2_1 := (show HE n (lvC N1 0) c by rw [lvC_row (hT1.row (fun k => (by first | exact fun h => h | ((try dsimp only); omega))))]; exact hc2)
  have hp2_1 := (show LQ n (N1 77) pw by rw [hT1.row (x := 77) (fun k => (by first | exact fun h => h | ((try dsimp only); omega)))]; exact hp2)
  have acm_1 := hAc.2.2.1.keep (hT1.2 76 8 (by first | exact fun h => h | ((try dsimp only); omega))) (hT1.2 76 9 (by first | exact fun h => h | ((try dsimp only); omega))) (hT1.row (fun k => (by first | exact fun h => h | ((try dsimp only); omega))))
  refine L_pure hX .pop 442 (by decide +kernel) rfl ?_
  refine L_m hX 443 (by decide +kernel) ?_
  refine L_callV0 hX 164 8 2 446 (by decide +kernel) sh_76 (Nat.le_of_ble_eq_true rfl) (by decide) ?_
  refine s_undo8 hT1.1 hn gu2_1 hc2_1 hp2_1 hAc.1 acm_1 (by decide) (fun r2 N2 hT2 hr2 => ?_)
  dsimp only [Option.toList, List.cons_append, List.nil_append]
  have hA2 := hA.keep (fun i k hc => (hT2.2 i k (by first | exact fun h => h | (unfold coreA at hc; (try dsimp only); omega))).trans (hT1.2 i k (by first | exact fun h => h | (unfold coreA at hc; (try dsimp only); omega))))
  obtain ⟨hR2, hsame⟩ := un_step2 hH hAc hSl hT1.2 hT2.2 hr1 hr2
  have hN2 := hSn.keep (fun i k hc => (hT2.2 i k (by first | exact fun h => h | (unfold core3 at hc; (try dsimp only); omega))).trans (hT1.2 i k (by first | exact fun h => h | (unfold core3 at hc; (try dsimp only); omega))))
  have hB2 := (un_bd hbd hH hAc hSl hT1.2 hr1).keep (fun i k hc => hT2.2 i k (by first | exact fun h => h | (unfold coreB at hc; (try dsimp only); omega)))
  have hL2 := hL
  refine L_pure hX .pop 447 (by decide +kernel) rfl ?_
  refine L_goto hX 1174 (by decide +kernel) ?_
  exact kk _ _ ⟨⟨⟨hT2.1, hA2, hR2, hL2⟩, hN2⟩, hB2, by omega⟩
set_option maxRecDepth 10000 in
theorem case_12 {X : Lx} {k : Nat} {M : Mt} {L : Lt} (hX : X.ok) (hk : k + 5 ≤ X.n) (hI : Inv M) (hA : RelA M) (hR : RelH M) (hL : L 0 = L 76) (hSn : RelS M) {bb : Nat} (hbd : BdH bb M) (hbb : bb < 5000) (hb9 : 9 ≤ bb) (kk : ∀ (N : Mt) (L' : Lt), RelD (bb + 8) N L' → LW X 1174 k [] (wOf N L')) : LW X 450 k [] (wOf M L) := by
  obtain ⟨zt, hzt, tx1, tx2⟩ := hA.1
  obtain ⟨m, hm, se1, se2, hRs⟩ := id hSn
  obtain ⟨n, c, pw, hH, ⟨na, nx, ra, hAc⟩, hk0, rk0, hSl⟩ := id hR
  obtain ⟨hn, gu1, gu2, hc1, hc2, hp1, hp2, hok⟩ := id hH
  obtain ⟨T, hTx, hTm⟩ := tl_ex hI hA.2.2.1
  have ho1 : ∀ t, t < 3 → M 67 t = M 67 t := fun t _ => rfl
  have ho8 : ∀ t, t < 3 → M 85 t = M 67 t := fun t ht => (hA.2.2.2.2 t ht).symm
  obtain ⟨on, on8, hon⟩ := od_nat hI
  have on1 : ∀ t, t < 3 → M 67 t = nI (on t) := fun t ht => (hA.2.2.2.2 t ht).trans (on8 t ht)
  refine L_x hX 451 (by decide +kernel) ?_
  refine L_scr hX 1 456 (by decide +kernel) (by omega) (by decide) ?_
  refine L_scr hX 2 461 (by decide +kernel) (by omega) (by decide) ?_
  refine L_callV2 hX 88 7 3 464 (by decide +kernel) sh_0 (Nat.le_of_ble_eq_true rfl) (by decide) ?_
  refine k_88 hI  (by decide) (fun r1 N1 hT1 hr1 => ?_)
  dsimp only [Option.toList, List.cons_append, List.nil_append]
  refine L_pure hX .pop 465 (by decide +kernel) rfl ?_
  refine L_m hX 466 (by decide +kernel) ?_
  refine L_scr hX 1 471 (by decide +kernel) (by omega) (by decide) ?_
  refine L_scr hX 2 476 (by decide +kernel) (by omega) (by decide) ?_
  refine L_callV2 hX 167 8 4 479 (by decide +kernel) sh_76 (Nat.le_of_ble_eq_true rfl) (by decide) ?_
  refine k_167 hT1.1  (by decide) (fun r2 N2 hT2 hr2 => ?_)
  dsimp only [Option.toList, List.cons_append, List.nil_append]
  have hA2 := hA.keep (fun i k hc => (hT2.2 i k (by first | exact fun h => h | (unfold coreA at hc; (try dsimp only); omega))).trans (hT1.2 i k (by first | exact fun h => h | (unfold coreA at hc; (try dsimp only); omega))))
  have hR2 := hR.keep (fun i k hc => (hT2.2 i k (by first | exact fun h => h | (unfold core2 at hc; (try dsimp only); omega))).trans (hT1.2 i k (by first | exact fun h => h | (unfold core2 at hc; (try dsimp only); omega))))
  have hN2 := hSn.keep (fun i k hc => (hT2.2 i k (by first | exact fun h => h | (unfold core3 at hc; (try dsimp only); omega))).trans (hT1.2 i k (by first | exact fun h => h | (unfold core3 at hc; (try dsimp only); omega))))
  have hB2 := (hbd.keep (fun i k hc => (hT2.2 i k (by first | exact fun h => h | (unfold coreB at hc; (try dsimp only); omega))).trans (hT1.2 i k (by first | exact fun h => h | (unfold coreB at hc; (try dsimp only); omega))))).mono (Nat.le_add_right bb 8)
  have hL2 := hL
  refine L_pure hX .pop 480 (by decide +kernel) rfl ?_
  refine L_goto hX 1174 (by decide +kernel) ?_
  exact kk _ _ ⟨⟨⟨hT2.1, hA2, hR2, hL2⟩, hN2⟩, hB2, by omega⟩
set_option maxRecDepth 10000 in
theorem case_13 {X : Lx} {k : Nat} {M : Mt} {L : Lt} (hX : X.ok) (hk : k + 5 ≤ X.n) (hI : Inv M) (hA : RelA M) (hR : RelH M) (hL : L 0 = L 76) (hSn : RelS M) {bb : Nat} (hbd : BdH bb M) (hbb : bb < 5000) (hb9 : 9 ≤ bb) (kk : ∀ (N : Mt) (L' : Lt), RelD (bb + 8) N L' → LW X 1174 k [] (wOf N L')) : LW X 483 k [] (wOf M L) := by
  obtain ⟨zt, hzt, tx1, tx2⟩ := hA.1
  obtain ⟨m, hm, se1, se2, hRs⟩ := id hSn
  obtain ⟨n, c, pw, hH, ⟨na, nx, ra, hAc⟩, hk0, rk0, hSl⟩ := id hR
  obtain ⟨hn, gu1, gu2, hc1, hc2, hp1, hp2, hok⟩ := id hH
  obtain ⟨T, hTx, hTm⟩ := tl_ex hI hA.2.2.1
  have ho1 : ∀ t, t < 3 → M 67 t = M 67 t := fun t _ => rfl
  have ho8 : ∀ t, t < 3 → M 85 t = M 67 t := fun t ht => (hA.2.2.2.2 t ht).symm
  obtain ⟨on, on8, hon⟩ := od_nat hI
  have on1 : ∀ t, t < 3 → M 67 t = nI (on t) := fun t ht => (hA.2.2.2.2 t ht).trans (on8 t ht)
  refine L_x hX 484 (by decide +kernel) ?_
  refine L_scr hX 1 489 (by decide +kernel) (by omega) (by decide) ?_
  refine L_scr hX 2 494 (by decide +kernel) (by omega) (by decide) ?_
  refine L_callV2 hX 89 7 3 497 (by decide +kernel) sh_0 (Nat.le_of_ble_eq_true rfl) (by decide) ?_
  refine k_89 hI  (by decide) (fun r1 N1 hT1 hr1 => ?_)
  dsimp only [Option.toList, List.cons_append, List.nil_append]
  refine L_pure hX .pop 498 (by decide +kernel) rfl ?_
  refine L_m hX 499 (by decide +kernel) ?_
  refine L_scr hX 1 504 (by decide +kernel) (by omega) (by decide) ?_
  refine L_scr hX 2 509 (by decide +kernel) (by omega) (by decide) ?_
  refine L_callV2 hX 168 8 3 512 (by decide +kernel) sh_76 (Nat.le_of_ble_eq_true rfl) (by decide) ?_
  refine k_168 hT1.1  (by decide) (fun r2 N2 hT2 hr2 => ?_)
  dsimp only [Option.toList, List.cons_append, List.nil_append]
  have hA2 := hA.keep (fun i k hc => (hT2.2 i k (by first | exact fun h => h | (unfold coreA at hc; (try dsimp only); omega))).trans (hT1.2 i k (by first | exact fun h => h | (unfold coreA at hc; (try dsimp only); omega))))
  have hR2 := hR.keep (fun i k hc => (hT2.2 i k (by first | exact fun h => h | (unfold core2 at hc; (try dsimp only); omega))).trans (hT1.2 i k (by first | exact fun h => h | (unfold core2 at hc; (try dsimp only); omega))))
  have hN2 := hSn.keep (fun i k hc => (hT2.2 i k (by first | exact fun h => h | (unfold core3 at hc; (try dsimp only); omega))).trans (hT1.2 i k (by first | exact fun h => h | (unfold core3 at hc; (try dsimp only); omega))))
  have hB2 := (hbd.keep (fun i k hc => (hT2.2 i k (by first | exact fun h => h | (unfold coreB at hc; (try dsimp only); omega))).trans (hT1.2 i k (by first | exact fun h => h | (unfold coreB at hc; (try dsimp only); omega))))).mono (Nat.le_add_right bb 8)
  have hL2 := hL
  refine L_pure hX .pop 513 (by decide +kernel) rfl ?_
  refine L_goto hX 1174 (by decide +kernel) ?_
  exact kk _ _ ⟨⟨⟨hT2.1, hA2, hR2, hL2⟩, hN2⟩, hB2, by omega⟩
set_option maxRecDepth 10000 in
theorem case_14 {X : Lx} {k : Nat} {M : Mt} {L : Lt} (hX : X.ok) (hk : k + 5 ≤ X.n) (hI : Inv M) (hA : RelA M) (hR : RelH M) (hL : L 0 = L 76) (hSn : RelS M) {bb : Nat} (hbd : BdH bb M) (hbb : bb < 5000) (hb9 : 9 ≤ bb) (kk : ∀ (N : Mt) (L' : Lt), RelD (bb + 8) N L' → LW X 1174 k [] (wOf N L')) : LW X 516 k [] (wOf M L) := by
  obtain ⟨zt, hzt, tx1, tx2⟩ := hA.1
  obtain ⟨m, hm, se1, se2, hRs⟩ := id hSn
  obtain ⟨n, c, pw, hH, ⟨na, nx, ra, hAc⟩, hk0, rk0, hSl⟩ := id hR
  obtain ⟨hn, gu1, gu2, hc1, hc2, hp1, hp2, hok⟩ := id hH
  obtain ⟨T, hTx, hTm⟩ := tl_ex hI hA.2.2.1
  have ho1 : ∀ t, t < 3 → M 67 t = M 67 t := fun t _ => rfl
  have ho8 : ∀ t, t < 3 → M 85 t = M 67 t := fun t ht => (hA.2.2.2.2 t ht).symm
  obtain ⟨on, on8, hon⟩ := od_nat hI
  have on1 : ∀ t, t < 3 → M 67 t = nI (on t) := fun t ht => (hA.2.2.2.2 t ht).trans (on8 t ht)
  refine L_x hX 517 (by decide +kernel) ?_
  refine L_scr hX 1 522 (by decide +kernel) (by omega) (by decide) ?_
  refine L_scr hX 2 527 (by decide +kernel) (by omega) (by decide) ?_
  refine L_scr hX 3 532 (by decide +kernel) (by omega) (by decide) ?_
  refine L_callV3 hX 90 7 5 535 (by decide +kernel) sh_0 (Nat.le_of_ble_eq_true rfl) (by decide) ?_
  refine k_90 hI  (by decide) (fun r1 N1 hT1 hr1 => ?_)
  dsimp only [Option.toList, List.cons_append, List.nil_append]
  refine L_pure hX .pop 536 (by decide +kernel) rfl ?_
  refine L_m hX 537 (by decide +kernel) ?_
  refine L_scr hX 1 542 (by decide +kernel) (by omega) (by decide) ?_
  refine L_scr hX 2 547 (by decide +kernel) (by omega) (by decide) ?_
  refine L_scr hX 3 552 (by decide +kernel) (by omega) (by decide) ?_
  refine L_callV3 hX 172 8 5 555 (by decide +kernel) sh_76 (Nat.le_of_ble_eq_true rfl) (by decide) ?_
  refine k_172 hT1.1  (by decide) (fun r2 N2 hT2 hr2 => ?_)
  dsimp only [Option.toList, List.cons_append, List.nil_append]
  have hA2 := hA.keep (fun i k hc => (hT2.2 i k (by first | exact fun h => h | (unfold coreA at hc; (try dsimp only); omega))).trans (hT1.2 i k (by first | exact fun h => h | (unfold coreA at hc; (try dsimp only); omega))))
  have hR2 := hR.keep (fun i k hc => (hT2.2 i k (by first | exact fun h => h | (unfold core2 at hc; (try dsimp only); omega))).trans (hT1.2 i k (by first | exact fun h => h | (unfold core2 at hc; (try dsimp only); omega))))
  have hN2 := hSn.keep (fun i k hc => (hT2.2 i k (by first | exact fun h => h | (unfold core3 at hc; (try dsimp only); omega))).trans (hT1.2 i k (by first | exact fun h => h | (unfold core3 at hc; (try dsimp only); omega))))
  have hB2 := (hbd.keep (fun i k hc => (hT2.2 i k (by first | exact fun h => h | (unfold coreB at hc; (try dsimp only); omega))).trans (hT1.2 i k (by first | exact fun h => h | (unfold coreB at hc; (try dsimp only); omega))))).mono (Nat.le_add_right bb 8)
  have hL2 := hL
  refine L_pure hX .pop 556 (by decide +kernel) rfl ?_
  refine L_goto hX 1174 (by decide +kernel) ?_
  exact kk _ _ ⟨⟨⟨hT2.1, hA2, hR2, hL2⟩, hN2⟩, hB2, by omega⟩
set_option maxRecDepth 10000 in
theorem case_15 {X : Lx} {k : Nat} {M : Mt} {L : Lt} (hX : X.ok) (hk : k + 5 ≤ X.n) (hI : Inv M) (hA : RelA M) (hR : RelH M) (hL : L 0 = L 76) (hSn : RelS M) {bb : Nat} (hbd : BdH bb M) (hbb : bb < 5000) (hb9 : 9 ≤ bb) (kk : ∀ (N : Mt) (L' : Lt), RelD (bb + 8) N L' → LW X 1174 k [] (wOf N L')) : LW X 559 k [] (wOf M L) := by
  obtain ⟨zt, hzt, tx1, tx2⟩ := hA.1
  obtain ⟨m, hm, se1, se2, hRs⟩ := id hSn
  obtain ⟨n, c, pw, hH, ⟨na, nx, ra, hAc⟩, hk0, rk0, hSl⟩ := id hR
  obtain ⟨hn, gu1, gu2, hc1, hc2, hp1, hp2, hok⟩ := id hH
  obtain ⟨T, hTx, hTm⟩ := tl_ex hI hA.2.2.1
  have ho1 : ∀ t, t < 3 → M 67 t = M 67 t := fun t _ => rfl
  have ho8 : ∀ t, t < 3 → M 85 t = M 67 t := fun t ht => (hA.2.2.2.2 t ht).symm
  obtain ⟨on, on8, hon⟩ := od_nat hI
  have on1 : ∀ t, t < 3 → M 67 t = nI (on t) := fun t ht => (hA.2.2.2.2 t ht).trans (on8 t ht)
  refine L_x hX 560 (by decide +kernel) ?_
  refine L_scr hX 1 565 (by decide +kernel) (by omega) (by decide) ?_
  refine L_scr hX 2 570 (by decide +kernel) (by omega) (by decide) ?_
  refine L_scr hX 3 575 (by decide +kernel) (by omega) (by decide) ?_
  refine L_scr hX 4 580 (by decide +kernel) (by omega) (by decide) ?_
  refine L_callV4 hX 91 7 7 583 (by decide +kernel) sh_0 (Nat.le_of_ble_eq_true rfl) (by decide) ?_
  refine k_91 hI  (by decide) (fun r1 N1 hT1 hr1 => ?_)
  dsimp only [Option.toList, List.cons_append, List.nil_append]
  refine L_pure hX .pop 584 (by decide +kernel) rfl ?_
  refine L_m hX 585 (by decide +kernel) ?_
  refine L_scr hX 1 590 (by decide +kernel) (by omega) (by decide) ?_
  refine L_scr hX 2 595 (by decide +kernel) (by omega) (by decide) ?_
  refine L_scr hX 3 600 (by decide +kernel) (by omega) (by decide) ?_
  refine L_scr hX 4 605 (by decide +kernel) (by omega) (by decide) ?_
  refine L_callV4 hX 174 8 7 608 (by decide +kernel) sh_76 (Nat.le_of_ble_eq_true rfl) (by decide) ?_
  refine k_174 hT1.1  (by decide) (fun r2 N2 hT2 hr2 => ?_)
  dsimp only [Option.toList, List.cons_append, List.nil_append]
  have hA2 := hA.keep (fun i k hc => (hT2.2 i k (by first | exact fun h => h | (unfold coreA at hc; (try dsimp only); omega))).trans (hT1.2 i k (by first | exact fun h => h | (unfold coreA at hc; (try dsimp only); omega))))
  have hR2 := hR.keep (fun i k hc => (hT2.2 i k (by first | exact fun h => h | (unfold core2 at hc; (try dsimp only); omega))).trans (hT1.2 i k (by first | exact fun h => h | (unfold core2 at hc; (try dsimp only); omega))))
  have hN2 := hSn.keep (fun i k hc => (hT2.2 i k (by first | exact fun h => h | (unfold core3 at hc; (try dsimp only); omega))).trans (hT1.2 i k (by first | exact fun h => h | (unfold core3 at hc; (try dsimp only); omega))))
  have hB2 := (hbd.keep (fun i k hc => (hT2.2 i k (by first | exact fun h => h | (unfold coreB at hc; (try dsimp only); omega))).trans (hT1.2 i k (by first | exact fun h => h | (unfold coreB at hc; (try dsimp only); omega))))).mono (Nat.le_add_right bb 8)
  have hL2 := hL
  refine L_pure hX .pop 609 (by decide +kernel) rfl ?_
  refine L_goto hX 1174 (by decide +kernel) ?_
  exact kk _ _ ⟨⟨⟨hT2.1, hA2, hR2, hL2⟩, hN2⟩, hB2, by omega⟩
set_option maxRecDepth 10000 in
theorem case_16 {X : Lx} {k : Nat} {M : Mt} {L : Lt} (hX : X.ok) (hk : k + 5 ≤ X.n) (hI : Inv M) (hA : RelA M) (hR : RelH M) (hL : L 0 = L 76) (hSn : RelS M) {bb : Nat} (hbd : BdH bb M) (hbb : bb < 5000) (hb9 : 9 ≤ bb) (kk : ∀ (N : Mt) (L' : Lt), RelD (bb + 8) N L' → LW X 1174 k [] (wOf N L')) : LW X 612 k [] (wOf M L) := by
  obtain ⟨zt, hzt, tx1, tx2⟩ := hA.1
  obtain ⟨m, hm, se1, se2, hRs⟩ := id hSn
  obtain ⟨n, c, pw, hH, ⟨na, nx, ra, hAc⟩, hk0, rk0, hSl⟩ := id hR
  obtain ⟨hn, gu1, gu2, hc1, hc2, hp1, hp2, hok⟩ := id hH
  obtain ⟨T, hTx, hTm⟩ := tl_ex hI hA.2.2.1
  have ho1 : ∀ t, t < 3 → M 67 t = M 67 t := fun t _ => rfl
  have ho8 : ∀ t, t < 3 → M 85 t = M 67 t := fun t ht => (hA.2.2.2.2 t ht).symm
  obtain ⟨on, on8, hon⟩ := od_nat hI
  have on1 : ∀ t, t < 3 → M 67 t = nI (on t) := fun t ht => (hA.2.2.2.2 t ht).trans (on8 t ht)
  refine L_x hX 613 (by decide +kernel) ?_
  refine L_scr hX 1 618 (by decide +kernel) (by omega) (by decide) ?_
  refine L_callV1 hX 92 7 6 621 (by decide +kernel) sh_0 (Nat.le_of_ble_eq_true rfl) (by decide) ?_
  refine k_92 hI  (by decide) (fun r1 N1 hT1 hr1 => ?_)
  dsimp only [Option.toList, List.cons_append, List.nil_append]
  refine L_pure hX .pop 622 (by decide +kernel) rfl ?_
  refine L_m hX 623 (by decide +kernel) ?_
  refine L_scr hX 1 628 (by decide +kernel) (by omega) (by decide) ?_
  refine L_callV1 hX 175 8 6 631 (by decide +kernel) sh_76 (Nat.le_of_ble_eq_true rfl) (by decide) ?_
  refine k_175 hT1.1  (by decide) (fun r2 N2 hT2 hr2 => ?_)
  dsimp only [Option.toList, List.cons_append, List.nil_append]
  have hA2 := hA.keep (fun i k hc => (hT2.2 i k (by first | exact fun h => h | (unfold coreA at hc; (try dsimp only); omega))).trans (hT1.2 i k (by first | exact fun h => h | (unfold coreA at hc; (try dsimp only); omega))))
  have hR2 := hR.keep (fun i k hc => (hT2.2 i k (by first | exact fun h => h | (unfold core2 at hc; (try dsimp only); omega))).trans (hT1.2 i k (by first | exact fun h => h | (unfold core2 at hc; (try dsimp only); omega))))
  have hN2 := hSn.keep (fun i k hc => (hT2.2 i k (by first | exact fun h => h | (unfold core3 at hc; (try dsimp only); omega))).trans (hT1.2 i k (by first | exact fun h => h | (unfold core3 at hc; (try dsimp only); omega))))
  have hB2 := (hbd.keep (fun i k hc => (hT2.2 i k (by first | exact fun h => h | (unfold coreB at hc; (try dsimp only); omega))).trans (hT1.2 i k (by first | exact fun h => h | (unfold coreB at hc; (try dsimp only); omega))))).mono (Nat.le_add_right bb 8)
  have hL2 := hL
  refine L_pure hX .pop 632 (by decide +kernel) rfl ?_
  refine L_goto hX 1174 (by decide +kernel) ?_
  exact kk _ _ ⟨⟨⟨hT2.1, hA2, hR2, hL2⟩, hN2⟩, hB2, by omega⟩
set_option maxRecDepth 10000 in
theorem case_17 {X : Lx} {k : Nat} {M : Mt} {L : Lt} (hX : X.ok) (hk : k + 5 ≤ X.n) (hI : Inv M) (hA : RelA M) (hR : RelH M) (hL : L 0 = L 76) (hSn : RelS M) {bb : Nat} (hbd : BdH bb M) (hbb : bb < 5000) (hb9 : 9 ≤ bb) (kk : ∀ (N : Mt) (L' : Lt), RelD (bb + 8) N L' → LW X 1174 k [] (wOf N L')) : LW X 635 k [] (wOf M L) := by
  obtain ⟨zt, hzt, tx1, tx2⟩ := hA.1
  obtain ⟨m, hm, se1, se2, hRs⟩ := id hSn
  obtain ⟨n, c, pw, hH, ⟨na, nx, ra, hAc⟩, hk0, rk0, hSl⟩ := id hR
  obtain ⟨hn, gu1, gu2, hc1, hc2, hp1, hp2, hok⟩ := id hH
  obtain ⟨T, hTx, hTm⟩ := tl_ex hI hA.2.2.1
  have ho1 : ∀ t, t < 3 → M 67 t = M 67 t := fun t _ => rfl
  have ho8 : ∀ t, t < 3 → M 85 t = M 67 t := fun t ht => (hA.2.2.2.2 t ht).symm
  obtain ⟨on, on8, hon⟩ := od_nat hI
  have on1 : ∀ t, t < 3 → M 67 t = nI (on t) := fun t ht => (hA.2.2.2.2 t ht).trans (on8 t ht)
  refine L_x hX 636 (by decide +kernel) ?_
  refine L_scr hX 1 641 (by decide +kernel) (by omega) (by decide) ?_
  refine L_scr hX 2 646 (by decide +kernel) (by omega) (by decide) ?_
  refine L_ieq hX 653 649 (by decide +kernel) (fun hb1 => ?_) (fun hb1 => ?_)
  · skip
    refine L_pure hX (.iconst 0) 654 (by decide +kernel) rfl ?_
    refine L_callV2 hX 93 7 3 657 (by decide +kernel) sh_0 (Nat.le_of_ble_eq_true rfl) (by decide) ?_
    refine s_chosen7 hI hn gu1 hc1 hp1 hok.1 hTx (by first | exact Or.inl rfl | exact Or.inr rfl) (by decide) (fun r2 N2 hT2 hr2 => ?_)
    dsimp only [Option.toList, List.cons_append, List.nil_append]
    have gu2_2 := (hT2.2 76 0 (by first | exact fun h => h | ((try dsimp only); omega))).trans gu2
    have hc2_2 := (show HE n (lvC N2 0) c by rw [lvC_row (hT2.row (fun k => (by first | exact fun h => h | ((try dsimp only); omega))))]; exact hc2)
    have hp2_2 := (show LQ n (N2 77) pw by rw [hT2.row (x := 77) (fun k => (by first | exact fun h => h | ((try dsimp only); omega)))]; exact hp2)
    have tlm_2 := hTm.keep (hT2.row (fun k => (by first | exact fun h => h | ((try dsimp only); omega)))) (hT2.row (fun k => (by first | exact fun h => h | ((try dsimp only); omega))))
    refine L_m hX 658 (by decide +kernel) ?_
    refine L_scr hX 1 663 (by decide +kernel) (by omega) (by decide) ?_
    refine L_scr hX 2 668 (by decide +kernel) (by omega) (by decide) ?_
    refine L_ieq hX 675 671 (by decide +kernel) (fun hb3 => ?_) (fun hb3 => ?_)
    · skip
      refine L_pure hX (.iconst 0) 676 (by decide +kernel) rfl ?_
      refine L_callV2 hX 177 8 8 679 (by decide +kernel) sh_76 (Nat.le_of_ble_eq_true rfl) (by decide) ?_
      refine s_chosen8 hT2.1 hn gu2_2 hc2_2 hp2_2 hok.1 tlm_2 (by decide) (fun r4 N4 hT4 hr4 => ?_)
      dsimp only [Option.toList, List.cons_append, List.nil_append]
      have hA2 := hA.keep (fun i k hc => (hT4.2 i k (by first | exact fun h => h | (unfold coreA at hc; (try dsimp only); omega))).trans (hT2.2 i k (by first | exact fun h => h | (unfold coreA at hc; (try dsimp only); omega))))
      have hR2 := hR.keep (fun i k hc => (hT4.2 i k (by first | exact fun h => h | (unfold core2 at hc; (try dsimp only); omega))).trans (hT2.2 i k (by first | exact fun h => h | (unfold core2 at hc; (try dsimp only); omega))))
      have hN2 := hSn.keep (fun i k hc => (hT4.2 i k (by first | exact fun h => h | (unfold core3 at hc; (try dsimp only); omega))).trans (hT2.2 i k (by first | exact fun h => h | (unfold core3 at hc; (try dsimp only); omega))))
      have hB2 := (hbd.keep (fun i k hc => (hT4.2 i k (by first | exact fun h => h | (unfold coreB at hc; (try dsimp only); omega))).trans (hT2.2 i k (by first | exact fun h => h | (unfold coreB at hc; (try dsimp only); omega))))).mono (Nat.le_add_right bb 8)
      have hsame := cho_same (P := fun t r => chR n (dvT T t) (nD T t) (c, pw, nI 0, nI 0) _ r) (fun t r r' h h' => h.same h') hr2 hr4
      have hL2 := hL
      refine L_ceq hX 1174 682 (by decide +kernel) (fun _ => ?_) (fun hz => absurd hsame hz)
      exact kk _ _ ⟨⟨⟨hT4.1, hA2, hR2, hL2⟩, hN2⟩, hB2, by omega⟩
    · exact absurd hb1 hb3
  · skip
    refine L_pure hX (.iconst 1) 650 (by decide +kernel) rfl ?_
    refine L_goto hX 654 (by decide +kernel) ?_
    refine L_callV2 hX 93 7 3 657 (by decide +kernel) sh_0 (Nat.le_of_ble_eq_true rfl) (by decide) ?_
    refine s_chosen7 hI hn gu1 hc1 hp1 hok.1 hTx (by first | exact Or.inl rfl | exact Or.inr rfl) (by decide) (fun r5 N5 hT5 hr5 => ?_)
    dsimp only [Option.toList, List.cons_append, List.nil_append]
    have gu2_5 := (hT5.2 76 0 (by first | exact fun h => h | ((try dsimp only); omega))).trans gu2
    have hc2_5 := (show HE n (lvC N5 0) c by rw [lvC_row (hT5.row (fun k => (by first | exact fun h => h | ((try dsimp only); omega))))]; exact hc2)
    have hp2_5 := (show LQ n (N5 77) pw by rw [hT5.row (x := 77) (fun k => (by first | exact fun h => h | ((try dsimp only); omega)))]; exact hp2)
    have tlm_5 := hTm.keep (hT5.row (fun k => (by first | exact fun h => h | ((try dsimp only); omega)))) (hT5.row (fun k => (by first | exact fun h => h | ((try dsimp only); omega))))
    refine L_m hX 658 (by decide +kernel) ?_
    refine L_scr hX 1 663 (by decide +kernel) (by omega) (by decide) ?_
    refine L_scr hX 2 668 (by decide +kernel) (by omega) (by decide) ?_
    refine L_ieq hX 675 671 (by decide +kernel) (fun hb6 => ?_) (fun hb6 => ?_)
    · exact absurd hb6 hb1
    · skip
      refine L_pure hX (.iconst 1) 672 (by decide +kernel) rfl ?_
      refine L_goto hX 676 (by decide +kernel) ?_
      refine L_callV2 hX 177 8 8 679 (by decide +kernel) sh_76 (Nat.le_of_ble_eq_true rfl) (by decide) ?_
      refine s_chosen8 hT5.1 hn gu2_5 hc2_5 hp2_5 hok.1 tlm_5 (by decide) (fun r7 N7 hT7 hr7 => ?_)
      dsimp only [Option.toList, List.cons_append, List.nil_append]
      have hA2 := hA.keep (fun i k hc => (hT7.2 i k (by first | exact fun h => h | (unfold coreA at hc; (try dsimp only); omega))).trans (hT5.2 i k (by first | exact fun h => h | (unfold coreA at hc; (try dsimp only); omega))))
      have hR2 := hR.keep (fun i k hc => (hT7.2 i k (by first | exact fun h => h | (unfold core2 at hc; (try dsimp only); omega))).trans (hT5.2 i k (by first | exact fun h => h | (unfold core2 at hc; (try dsimp only); omega))))
      have hN2 := hSn.keep (fun i k hc => (hT7.2 i k (by first | exact fun h => h | (unfold core3 at hc; (try dsimp only); omega))).trans (hT5.2 i k (by first | exact fun h => h | (unfold core3 at hc; (try dsimp only); omega))))
      have hB2 := (hbd.keep (fun i k hc => (hT7.2 i k (by first | exact fun h => h | (unfold coreB at hc; (try dsimp only); omega))).trans (hT5.2 i k (by first | exact fun h => h | (unfold coreB at hc; (try dsimp only); omega))))).mono (Nat.le_add_right bb 8)
      have hsame := cho_same (P := fun t r => chR n (dvT T t) (nD T t) (c, pw, nI 0, nI 0) _ r) (fun t r r' h h' => h.same h') hr5 hr7
      have hL2 := hL
      refine L_ceq hX 1174 682 (by decide +kernel) (fun _ => ?_) (fun hz => absurd hsame hz)
      exact kk _ _ ⟨⟨⟨hT7.1, hA2, hR2, hL2⟩, hN2⟩, hB2, by omega⟩
set_option maxRecDepth 10000 in
theorem case_18 {X : Lx} {k : Nat} {M : Mt} {L : Lt} (hX : X.ok) (hk : k + 5 ≤ X.n) (hI : Inv M) (hA : RelA M) (hR : RelH M) (hL : L 0 = L 76) (hSn : RelS M) {bb : Nat} (hbd : BdH bb M) (hbb : bb < 5000) (hb9 : 9 ≤ bb) (kk : ∀ (N : Mt) (L' : Lt), RelD (bb + 8) N L' → LW X 1174 k [] (wOf N L')) : LW X 684 k [] (wOf M L) := by
  obtain ⟨zt, hzt, tx1, tx2⟩ := hA.1
  obtain ⟨m, hm, se1, se2, hRs⟩ := id hSn
  obtain ⟨n, c, pw, hH, ⟨na, nx, ra, hAc⟩, hk0, rk0, hSl⟩ := id hR
  obtain ⟨hn, gu1, gu2, hc1, hc2, hp1, hp2, hok⟩ := id hH
  obtain ⟨T, hTx, hTm⟩ := tl_ex hI hA.2.2.1
  have ho1 : ∀ t, t < 3 → M 67 t = M 67 t := fun t _ => rfl
  have ho8 : ∀ t, t < 3 → M 85 t = M 67 t := fun t ht => (hA.2.2.2.2 t ht).symm
  obtain ⟨on, on8, hon⟩ := od_nat hI
  have on1 : ∀ t, t < 3 → M 67 t = nI (on t) := fun t ht => (hA.2.2.2.2 t ht).trans (on8 t ht)
  refine L_x hX 685 (by decide +kernel) ?_
  refine L_scr hX 1 690 (by decide +kernel) (by omega) (by decide) ?_
  refine L_callV1 hX 94 7 4 693 (by decide +kernel) sh_0 (Nat.le_of_ble_eq_true rfl) (by decide) ?_
  refine k_94 hI  (by decide) (fun r1 N1 hT1 hr1 => ?_)
  dsimp only [Option.toList, List.cons_append, List.nil_append]
  refine L_pure hX .pop 694 (by decide +kernel) rfl ?_
  refine L_m hX 695 (by decide +kernel) ?_
  refine L_scr hX 1 700 (by decide +kernel) (by omega) (by decide) ?_
  refine L_callV1 hX 178 8 6 703 (by decide +kernel) sh_76 (Nat.le_of_ble_eq_true rfl) (by decide) ?_
  refine k_178 hT1.1  (by decide) (fun r2 N2 hT2 hr2 => ?_)
  dsimp only [Option.toList, List.cons_append, List.nil_append]
  have hA2 := hA.keep (fun i k hc => (hT2.2 i k (by first | exact fun h => h | (unfold coreA at hc; (try dsimp only); omega))).trans (hT1.2 i k (by first | exact fun h => h | (unfold coreA at hc; (try dsimp only); omega))))
  have hR2 := hR.keep (fun i k hc => (hT2.2 i k (by first | exact fun h => h | (unfold core2 at hc; (try dsimp only); omega))).trans (hT1.2 i k (by first | exact fun h => h | (unfold core2 at hc; (try dsimp only); omega))))
  have hN2 := hSn.keep (fun i k hc => (hT2.2 i k (by first | exact fun h => h | (unfold core3 at hc; (try dsimp only); omega))).trans (hT1.2 i k (by first | exact fun h => h | (unfold core3 at hc; (try dsimp only); omega))))
  have hB2 := (hbd.keep (fun i k hc => (hT2.2 i k (by first | exact fun h => h | (unfold coreB at hc; (try dsimp only); omega))).trans (hT1.2 i k (by first | exact fun h => h | (unfold coreB at hc; (try dsimp only); omega))))).mono (Nat.le_add_right bb 8)
  have hL2 := hL
  refine L_pure hX .pop 704 (by decide +kernel) rfl ?_
  refine L_goto hX 1174 (by decide +kernel) ?_
  exact kk _ _ ⟨⟨⟨hT2.1, hA2, hR2, hL2⟩, hN2⟩, hB2, by omega⟩
set_option maxRecDepth 10000 in
theorem case_19 {X : Lx} {k : Nat} {M : Mt} {L : Lt} (hX : X.ok) (hk : k + 5 ≤ X.n) (hI : Inv M) (hA : RelA M) (hR : RelH M) (hL : L 0 = L 76) (hSn : RelS M) {bb : Nat} (hbd : BdH bb M) (hbb : bb < 5000) (hb9 : 9 ≤ bb) (kk : ∀ (N : Mt) (L' : Lt), RelD (bb + 8) N L' → LW X 1174 k [] (wOf N L')) : LW X 707 k [] (wOf M L) := by
  obtain ⟨zt, hzt, tx1, tx2⟩ := hA.1
  obtain ⟨m, hm, se1, se2, hRs⟩ := id hSn
  obtain ⟨n, c, pw, hH, ⟨na, nx, ra, hAc⟩, hk0, rk0, hSl⟩ := id hR
  obtain ⟨hn, gu1, gu2, hc1, hc2, hp1, hp2, hok⟩ := id hH
  obtain ⟨T, hTx, hTm⟩ := tl_ex hI hA.2.2.1
  have ho1 : ∀ t, t < 3 → M 67 t = M 67 t := fun t _ => rfl
  have ho8 : ∀ t, t < 3 → M 85 t = M 67 t := fun t ht => (hA.2.2.2.2 t ht).symm
  obtain ⟨on, on8, hon⟩ := od_nat hI
  have on1 : ∀ t, t < 3 → M 67 t = nI (on t) := fun t ht => (hA.2.2.2.2 t ht).trans (on8 t ht)
  refine L_x hX 708 (by decide +kernel) ?_
  refine L_scr hX 1 713 (by decide +kernel) (by omega) (by decide) ?_
  refine L_callV1 hX 95 7 4 716 (by decide +kernel) sh_0 (Nat.le_of_ble_eq_true rfl) (by decide) ?_
  refine k_95 hI  (by decide) (fun r1 N1 hT1 hr1 => ?_)
  dsimp only [Option.toList, List.cons_append, List.nil_append]
  refine L_pure hX .pop 717 (by decide +kernel) rfl ?_
  refine L_m hX 718 (by decide +kernel) ?_
  refine L_scr hX 1 723 (by decide +kernel) (by omega) (by decide) ?_
  refine L_callV1 hX 179 8 6 726 (by decide +kernel) sh_76 (Nat.le_of_ble_eq_true rfl) (by decide) ?_
  refine k_179 hT1.1  (by decide) (fun r2 N2 hT2 hr2 => ?_)
  dsimp only [Option.toList, List.cons_append, List.nil_append]
  have hA2 := hA.keep (fun i k hc => (hT2.2 i k (by first | exact fun h => h | (unfold coreA at hc; (try dsimp only); omega))).trans (hT1.2 i k (by first | exact fun h => h | (unfold coreA at hc; (try dsimp only); omega))))
  have hR2 := hR.keep (fun i k hc => (hT2.2 i k (by first | exact fun h => h | (unfold core2 at hc; (try dsimp only); omega))).trans (hT1.2 i k (by first | exact fun h => h | (unfold core2 at hc; (try dsimp only); omega))))
  have hN2 := hSn.keep (fun i k hc => (hT2.2 i k (by first | exact fun h => h | (unfold core3 at hc; (try dsimp only); omega))).trans (hT1.2 i k (by first | exact fun h => h | (unfold core3 at hc; (try dsimp only); omega))))
  have hB2 := (hbd.keep (fun i k hc => (hT2.2 i k (by first | exact fun h => h | (unfold coreB at hc; (try dsimp only); omega))).trans (hT1.2 i k (by first | exact fun h => h | (unfold coreB at hc; (try dsimp only); omega))))).mono (Nat.le_add_right bb 8)
  have hL2 := hL
  refine L_pure hX .pop 727 (by decide +kernel) rfl ?_
  refine L_goto hX 1174 (by decide +kernel) ?_
  exact kk _ _ ⟨⟨⟨hT2.1, hA2, hR2, hL2⟩, hN2⟩, hB2, by omega⟩
set_option maxRecDepth 10000 in
theorem case_20 {X : Lx} {k : Nat} {M : Mt} {L : Lt} (hX : X.ok) (hk : k + 5 ≤ X.n) (hI : Inv M) (hA : RelA M) (hR : RelH M) (hL : L 0 = L 76) (hSn : RelS M) {bb : Nat} (hbd : BdH bb M) (hbb : bb < 5000) (hb9 : 9 ≤ bb) (kk : ∀ (N : Mt) (L' : Lt), RelD (bb + 8) N L' → LW X 1174 k [] (wOf N L')) : LW X 730 k [] (wOf M L) := by
  obtain ⟨zt, hzt, tx1, tx2⟩ := hA.1
  obtain ⟨m, hm, se1, se2, hRs⟩ := id hSn
  obtain ⟨n, c, pw, hH, ⟨na, nx, ra, hAc⟩, hk0, rk0, hSl⟩ := id hR
  obtain ⟨hn, gu1, gu2, hc1, hc2, hp1, hp2, hok⟩ := id hH
  obtain ⟨T, hTx, hTm⟩ := tl_ex hI hA.2.2.1
  have ho1 : ∀ t, t < 3 → M 67 t = M 67 t := fun t _ => rfl
  have ho8 : ∀ t, t < 3 → M 85 t = M 67 t := fun t ht => (hA.2.2.2.2 t ht).symm
  obtain ⟨on, on8, hon⟩ := od_nat hI
  have on1 : ∀ t, t < 3 → M 67 t = nI (on t) := fun t ht => (hA.2.2.2.2 t ht).trans (on8 t ht)
  refine L_x hX 731 (by decide +kernel) ?_
  refine L_scr hX 1 736 (by decide +kernel) (by omega) (by decide) ?_
  refine L_scr hX 2 741 (by decide +kernel) (by omega) (by decide) ?_
  refine L_scr hX 3 746 (by decide +kernel) (by omega) (by decide) ?_
  refine L_callV3 hX 96 7 5 749 (by decide +kernel) sh_0 (Nat.le_of_ble_eq_true rfl) (by decide) ?_
  refine k_96 hI  (by decide) (fun r1 N1 hT1 hr1 => ?_)
  dsimp only [Option.toList, List.cons_append, List.nil_append]
  refine L_pure hX .pop 750 (by decide +kernel) rfl ?_
  refine L_m hX 751 (by decide +kernel) ?_
  refine L_scr hX 1 756 (by decide +kernel) (by omega) (by decide) ?_
  refine L_scr hX 2 761 (by decide +kernel) (by omega) (by decide) ?_
  refine L_scr hX 3 766 (by decide +kernel) (by omega) (by decide) ?_
  refine L_callV3 hX 180 8 5 769 (by decide +kernel) sh_76 (Nat.le_of_ble_eq_true rfl) (by decide) ?_
  refine k_180 hT1.1  (by decide) (fun r2 N2 hT2 hr2 => ?_)
  dsimp only [Option.toList, List.cons_append, List.nil_append]
  obtain ⟨hA2, hsame⟩ := od_step hA hr1 hr2
  have hR2 := hR.keep (fun i k hc => (hT2.2 i k (by first | exact fun h => h | (unfold core2 at hc; (try dsimp only); omega))).trans (hT1.2 i k (by first | exact fun h => h | (unfold core2 at hc; (try dsimp only); omega))))
  have hN2 := hSn.keep (fun i k hc => (hT2.2 i k (by first | exact fun h => h | (unfold core3 at hc; (try dsimp only); omega))).trans (hT1.2 i k (by first | exact fun h => h | (unfold core3 at hc; (try dsimp only); omega))))
  have hB2 := (hbd.keep (fun i k hc => (hT2.2 i k (by first | exact fun h => h | (unfold coreB at hc; (try dsimp only); omega))).trans (hT1.2 i k (by first | exact fun h => h | (unfold coreB at hc; (try dsimp only); omega))))).mono (Nat.le_add_right bb 8)
  have hL2 := hL
  refine L_pure hX .pop 770 (by decide +kernel) rfl ?_
  refine L_goto hX 1174 (by decide +kernel) ?_
  exact kk _ _ ⟨⟨⟨hT2.1, hA2, hR2, hL2⟩, hN2⟩, hB2, by omega⟩
set_option maxRecDepth 10000 in
theorem case_21 {X : Lx} {k : Nat} {M : Mt} {L : Lt} (hX : X.ok) (hk : k + 5 ≤ X.n) (hI : Inv M) (hA : RelA M) (hR : RelH M) (hL : L 0 = L 76) (hSn : RelS M) {bb : Nat} (hbd : BdH bb M) (hbb : bb < 5000) (hb9 : 9 ≤ bb) (kk : ∀ (N : Mt) (L' : Lt), RelD (bb + 8) N L' → LW X 1174 k [] (wOf N L')) : LW X 773 k [] (wOf M L) := by
  obtain ⟨zt, hzt, tx1, tx2⟩ := hA.1
  obtain ⟨m, hm, se1, se2, hRs⟩ := id hSn
  obtain ⟨n, c, pw, hH, ⟨na, nx, ra, hAc⟩, hk0, rk0, hSl⟩ := id hR
  obtain ⟨hn, gu1, gu2, hc1, hc2, hp1, hp2, hok⟩ := id hH
  obtain ⟨T, hTx, hTm⟩ := tl_ex hI hA.2.2.1
  have ho1 : ∀ t, t < 3 → M 67 t = M 67 t := fun t _ => rfl
  have ho8 : ∀ t, t < 3 → M 85 t = M 67 t := fun t ht => (hA.2.2.2.2 t ht).symm
  obtain ⟨on, on8, hon⟩ := od_nat hI
  have on1 : ∀ t, t < 3 → M 67 t = nI (on t) := fun t ht => (hA.2.2.2.2 t ht).trans (on8 t ht)
  refine L_x hX 774 (by decide +kernel) ?_
  refine L_scr hX 1 779 (by decide +kernel) (by omega) (by decide) ?_
  refine L_scr hX 2 784 (by decide +kernel) (by omega) (by decide) ?_
  refine L_callV2 hX 97 7 3 787 (by decide +kernel) sh_0 (Nat.le_of_ble_eq_true rfl) (by decide) ?_
  refine k_97 hI  (by decide) (fun r1 N1 hT1 hr1 => ?_)
  dsimp only [Option.toList, List.cons_append, List.nil_append]
  refine L_pure hX .pop 788 (by decide +kernel) rfl ?_
  refine L_m hX 789 (by decide +kernel) ?_
  refine L_scr hX 1 794 (by decide +kernel) (by omega) (by decide) ?_
  refine L_scr hX 2 799 (by decide +kernel) (by omega) (by decide) ?_
  refine L_callV2 hX 183 8 3 802 (by decide +kernel) sh_76 (Nat.le_of_ble_eq_true rfl) (by decide) ?_
  refine k_183 hT1.1  (by decide) (fun r2 N2 hT2 hr2 => ?_)
  dsimp only [Option.toList, List.cons_append, List.nil_append]
  have hA2 := hA.keep (fun i k hc => (hT2.2 i k (by first | exact fun h => h | (unfold coreA at hc; (try dsimp only); omega))).trans (hT1.2 i k (by first | exact fun h => h | (unfold coreA at hc; (try dsimp only); omega))))
  have hR2 := hR.keep (fun i k hc => (hT2.2 i k (by first | exact fun h => h | (unfold core2 at hc; (try dsimp only); omega))).trans (hT1.2 i k (by first | exact fun h => h | (unfold core2 at hc; (try dsimp only); omega))))
  have hN2 := hSn.keep (fun i k hc => (hT2.2 i k (by first | exact fun h => h | (unfold core3 at hc; (try dsimp only); omega))).trans (hT1.2 i k (by first | exact fun h => h | (unfold core3 at hc; (try dsimp only); omega))))
  have hB2 := (hbd.keep (fun i k hc => (hT2.2 i k (by first | exact fun h => h | (unfold coreB at hc; (try dsimp only); omega))).trans (hT1.2 i k (by first | exact fun h => h | (unfold coreB at hc; (try dsimp only); omega))))).mono (Nat.le_add_right bb 8)
  have hL2 := hL
  refine L_pure hX .pop 803 (by decide +kernel) rfl ?_
  refine L_goto hX 1174 (by decide +kernel) ?_
  exact kk _ _ ⟨⟨⟨hT2.1, hA2, hR2, hL2⟩, hN2⟩, hB2, by omega⟩
set_option maxRecDepth 10000 in
theorem case_22 {X : Lx} {k : Nat} {M : Mt} {L : Lt} (hX : X.ok) (hk : k + 5 ≤ X.n) (hI : Inv M) (hA : RelA M) (hR : RelH M) (hL : L 0 = L 76) (hSn : RelS M) {bb : Nat} (hbd : BdH bb M) (hbb : bb < 5000) (hb9 : 9 ≤ bb) (kk : ∀ (N : Mt) (L' : Lt), RelD (bb + 8) N L' → LW X 1174 k [] (wOf N L')) : LW X 806 k [] (wOf M L) := by
  obtain ⟨zt, hzt, tx1, tx2⟩ := hA.1
  obtain ⟨m, hm, se1, se2, hRs⟩ := id hSn
  obtain ⟨n, c, pw, hH, ⟨na, nx, ra, hAc⟩, hk0, rk0, hSl⟩ := id hR
  obtain ⟨hn, gu1, gu2, hc1, hc2, hp1, hp2, hok⟩ := id hH
  obtain ⟨T, hTx, hTm⟩ := tl_ex hI hA.2.2.1
  have ho1 : ∀ t, t < 3 → M 67 t = M 67 t := fun t _ => rfl
  have ho8 : ∀ t, t < 3 → M 85 t = M 67 t := fun t ht => (hA.2.2.2.2 t ht).symm
  obtain ⟨on, on8, hon⟩ := od_nat hI
  have on1 : ∀ t, t < 3 → M 67 t = nI (on t) := fun t ht => (hA.2.2.2.2 t ht).trans (on8 t ht)
  refine L_x hX 807 (by decide +kernel) ?_
  refine L_scr hX 1 812 (by decide +kernel) (by omega) (by decide) ?_
  refine L_callV1 hX 98 7 6 815 (by decide +kernel) sh_0 (Nat.le_of_ble_eq_true rfl) (by decide) ?_
  refine k_98 hI  (by decide) (fun r1 N1 hT1 hr1 => ?_)
  dsimp only [Option.toList, List.cons_append, List.nil_append]
  refine L_pure hX .pop 816 (by decide +kernel) rfl ?_
  refine L_m hX 817 (by decide +kernel) ?_
  refine L_scr hX 1 822 (by decide +kernel) (by omega) (by decide) ?_
  refine L_callV1 hX 184 8 4 825 (by decide +kernel) sh_76 (Nat.le_of_ble_eq_true rfl) (by decide) ?_
  refine k_184 hT1.1  (by decide) (fun r2 N2 hT2 hr2 => ?_)
  dsimp only [Option.toList, List.cons_append, List.nil_append]
  have hA2 := hA.keep (fun i k hc => (hT2.2 i k (by first | exact fun h => h | (unfold coreA at hc; (try dsimp only); omega))).trans (hT1.2 i k (by first | exact fun h => h | (unfold coreA at hc; (try dsimp only); omega))))
  have hR2 := hR.keep (fun i k hc => (hT2.2 i k (by first | exact fun h => h | (unfold core2 at hc; (try dsimp only); omega))).trans (hT1.2 i k (by first | exact fun h => h | (unfold core2 at hc; (try dsimp only); omega))))
  have hN2 := hSn.keep (fun i k hc => (hT2.2 i k (by first | exact fun h => h | (unfold core3 at hc; (try dsimp only); omega))).trans (hT1.2 i k (by first | exact fun h => h | (unfold core3 at hc; (try dsimp only); omega))))
  have hB2 := (hbd.keep (fun i k hc => (hT2.2 i k (by first | exact fun h => h | (unfold coreB at hc; (try dsimp only); omega))).trans (hT1.2 i k (by first | exact fun h => h | (unfold coreB at hc; (try dsimp only); omega))))).mono (Nat.le_add_right bb 8)
  have hL2 := hL
  refine L_pure hX .pop 826 (by decide +kernel) rfl ?_
  refine L_goto hX 1174 (by decide +kernel) ?_
  exact kk _ _ ⟨⟨⟨hT2.1, hA2, hR2, hL2⟩, hN2⟩, hB2, by omega⟩
set_option maxRecDepth 10000 in
theorem case_23 {X : Lx} {k : Nat} {M : Mt} {L : Lt} (hX : X.ok) (hk : k + 5 ≤ X.n) (hI : Inv M) (hA : RelA M) (hR : RelH M) (hL : L 0 = L 76) (hSn : RelS M) {bb : Nat} (hbd : BdH bb M) (hbb : bb < 5000) (hb9 : 9 ≤ bb) (kk : ∀ (N : Mt) (L' : Lt), RelD (bb + 8) N L' → LW X 1174 k [] (wOf N L')) : LW X 829 k [] (wOf M L) := by
  obtain ⟨zt, hzt, tx1, tx2⟩ := hA.1
  obtain ⟨m, hm, se1, se2, hRs⟩ := id hSn
  obtain ⟨n, c, pw, hH, ⟨na, nx, ra, hAc⟩, hk0, rk0, hSl⟩ := id hR
  obtain ⟨hn, gu1, gu2, hc1, hc2, hp1, hp2, hok⟩ := id hH
  obtain ⟨T, hTx, hTm⟩ := tl_ex hI hA.2.2.1
  have ho1 : ∀ t, t < 3 → M 67 t = M 67 t := fun t _ => rfl
  have ho8 : ∀ t, t < 3 → M 85 t = M 67 t := fun t ht => (hA.2.2.2.2 t ht).symm
  obtain ⟨on, on8, hon⟩ := od_nat hI
  have on1 : ∀ t, t < 3 → M 67 t = nI (on t) := fun t ht => (hA.2.2.2.2 t ht).trans (on8 t ht)
  refine L_x hX 830 (by decide +kernel) ?_
  refine L_scr hX 1 835 (by decide +kernel) (by omega) (by decide) ?_
  refine L_scr hX 2 840 (by decide +kernel) (by omega) (by decide) ?_
  refine L_scr hX 3 845 (by decide +kernel) (by omega) (by decide) ?_
  refine L_callV3 hX 99 7 5 848 (by decide +kernel) sh_0 (Nat.le_of_ble_eq_true rfl) (by decide) ?_
  refine k_99 hI  (by decide) (fun r1 N1 hT1 hr1 => ?_)
  dsimp only [Option.toList, List.cons_append, List.nil_append]
  refine L_pure hX .pop 849 (by decide +kernel) rfl ?_
  refine L_m hX 850 (by decide +kernel) ?_
  refine L_scr hX 1 855 (by decide +kernel) (by omega) (by decide) ?_
  refine L_scr hX 2 860 (by decide +kernel) (by omega) (by decide) ?_
  refine L_scr hX 3 865 (by decide +kernel) (by omega) (by decide) ?_
  refine L_callV3 hX 186 8 11 868 (by decide +kernel) sh_76 (Nat.le_of_ble_eq_true rfl) (by decide) ?_
  refine k_186 hT1.1  (by decide) (fun r2 N2 hT2 hr2 => ?_)
  dsimp only [Option.toList, List.cons_append, List.nil_append]
  have hA2 := hA.keep (fun i k hc => (hT2.2 i k (by first | exact fun h => h | (unfold coreA at hc; (try dsimp only); omega))).trans (hT1.2 i k (by first | exact fun h => h | (unfold coreA at hc; (try dsimp only); omega))))
  have hR2 := hR.keep (fun i k hc => (hT2.2 i k (by first | exact fun h => h | (unfold core2 at hc; (try dsimp only); omega))).trans (hT1.2 i k (by first | exact fun h => h | (unfold core2 at hc; (try dsimp only); omega))))
  have hN2 := hSn.keep (fun i k hc => (hT2.2 i k (by first | exact fun h => h | (unfold core3 at hc; (try dsimp only); omega))).trans (hT1.2 i k (by first | exact fun h => h | (unfold core3 at hc; (try dsimp only); omega))))
  have hB2 := (hbd.keep (fun i k hc => (hT2.2 i k (by first | exact fun h => h | (unfold coreB at hc; (try dsimp only); omega))).trans (hT1.2 i k (by first | exact fun h => h | (unfold coreB at hc; (try dsimp only); omega))))).mono (Nat.le_add_right bb 8)
  have hL2 := hL
  refine L_pure hX .pop 869 (by decide +kernel) rfl ?_
  refine L_goto hX 1174 (by decide +kernel) ?_
  exact kk _ _ ⟨⟨⟨hT2.1, hA2, hR2, hL2⟩, hN2⟩, hB2, by omega⟩
set_option maxRecDepth 10000 in
theorem case_24 {X : Lx} {k : Nat} {M : Mt} {L : Lt} (hX : X.ok) (hk : k + 5 ≤ X.n) (hI : Inv M) (hA : RelA M) (hR : RelH M) (hL : L 0 = L 76) (hSn : RelS M) {bb : Nat} (hbd : BdH bb M) (hbb : bb < 5000) (hb9 : 9 ≤ bb) (kk : ∀ (N : Mt) (L' : Lt), RelD (bb + 8) N L' → LW X 1174 k [] (wOf N L')) : LW X 872 k [] (wOf M L) := by
  obtain ⟨zt, hzt, tx1, tx2⟩ := hA.1
  obtain ⟨m, hm, se1, se2, hRs⟩ := id hSn
  obtain ⟨n, c, pw, hH, ⟨na, nx, ra, hAc⟩, hk0, rk0, hSl⟩ := id hR
  obtain ⟨hn, gu1, gu2, hc1, hc2, hp1, hp2, hok⟩ := id hH
  obtain ⟨T, hTx, hTm⟩ := tl_ex hI hA.2.2.1
  have ho1 : ∀ t, t < 3 → M 67 t = M 67 t := fun t _ => rfl
  have ho8 : ∀ t, t < 3 → M 85 t = M 67 t := fun t ht => (hA.2.2.2.2 t ht).symm
  obtain ⟨on, on8, hon⟩ := od_nat hI
  have on1 : ∀ t, t < 3 → M 67 t = nI (on t) := fun t ht => (hA.2.2.2.2 t ht).trans (on8 t ht)
  refine L_x hX 873 (by decide +kernel) ?_
  refine L_scr hX 1 878 (by decide +kernel) (by omega) (by decide) ?_
  refine L_scr hX 2 883 (by decide +kernel) (by omega) (by decide) ?_
  refine L_ieq hX 890 886 (by decide +kernel) (fun hb1 => ?_) (fun hb1 => ?_)
  · skip
    refine L_pure hX (.iconst 0) 891 (by decide +kernel) rfl ?_
    refine L_callV2 hX 100 7 3 894 (by decide +kernel) sh_0 (Nat.le_of_ble_eq_true rfl) (by decide) ?_
    refine k_100 hI hn gu1 hm se1 (by decide) (fun r2 N2 hT2 hr2 => ?_)
    dsimp only [Option.toList, List.cons_append, List.nil_append]
    have gu2_2 := (hT2.2 76 0 (by first | exact fun h => h | ((try dsimp only); omega))).trans gu2
    have se2_2 := (hT2.2 76 15 (by first | exact fun h => h | ((try dsimp only); omega))).trans se2
    refine L_pure hX .pop 895 (by decide +kernel) rfl ?_
    refine L_m hX 896 (by decide +kernel) ?_
    refine L_scr hX 1 901 (by decide +kernel) (by omega) (by decide) ?_
    refine L_scr hX 2 906 (by decide +kernel) (by omega) (by decide) ?_
    refine L_ieq hX 913 909 (by decide +kernel) (fun hb3 => ?_) (fun hb3 => ?_)
    · skip
      refine L_pure hX (.iconst 0) 914 (by decide +kernel) rfl ?_
      refine L_callV2 hX 188 8 3 917 (by decide +kernel) sh_76 (Nat.le_of_ble_eq_true rfl) (by decide) ?_
      refine k_188 hT2.1 hn gu2_2 hm se2_2 (by decide) (fun r4 N4 hT4 hr4 => ?_)
      dsimp only [Option.toList, List.cons_append, List.nil_append]
      obtain ⟨hA2, hsame⟩ := se_step hA hr2 hr4
      have hR2 := hR.keep (fun i k hc => (hT4.2 i k (by first | exact fun h => h | (unfold core2 at hc; (try dsimp only); omega))).trans (hT2.2 i k (by first | exact fun h => h | (unfold core2 at hc; (try dsimp only); omega))))
      have hN2 := se_rel hSn hRs fac_b.1 fac_b.2 hr2 hr4
      have hB2 := (hbd.keep (fun i k hc => (hT4.2 i k (by first | exact fun h => h | (unfold coreB at hc; (try dsimp only); omega))).trans (hT2.2 i k (by first | exact fun h => h | (unfold coreB at hc; (try dsimp only); omega))))).mono (Nat.le_add_right bb 8)
      have hL2 := hL
      refine L_pure hX .pop 918 (by decide +kernel) rfl ?_
      refine L_goto hX 1174 (by decide +kernel) ?_
      exact kk _ _ ⟨⟨⟨hT4.1, hA2, hR2, hL2⟩, hN2⟩, hB2, by omega⟩
    · exact absurd hb1 hb3
  · skip
    refine L_pure hX (.iconst 1) 887 (by decide +kernel) rfl ?_
    refine L_goto hX 891 (by decide +kernel) ?_
    refine L_callV2 hX 100 7 3 894 (by decide +kernel) sh_0 (Nat.le_of_ble_eq_true rfl) (by decide) ?_
    refine k_100 hI hn gu1 hm se1 (by decide) (fun r5 N5 hT5 hr5 => ?_)
    dsimp only [Option.toList, List.cons_append, List.nil_append]
    have gu2_5 := (hT5.2 76 0 (by first | exact fun h => h | ((try dsimp only); omega))).trans gu2
    have se2_5 := (hT5.2 76 15 (by first | exact fun h => h | ((try dsimp only); omega))).trans se2
    refine L_pure hX .pop 895 (by decide +kernel) rfl ?_
    refine L_m hX 896 (by decide +kernel) ?_
    refine L_scr hX 1 901 (by decide +kernel) (by omega) (by decide) ?_
    refine L_scr hX 2 906 (by decide +kernel) (by omega) (by decide) ?_
    refine L_ieq hX 913 909 (by decide +kernel) (fun hb6 => ?_) (fun hb6 => ?_)
    · exact absurd hb6 hb1
    · skip
      refine L_pure hX (.iconst 1) 910 (by decide +kernel) rfl ?_
      refine L_goto hX 914 (by decide +kernel) ?_
      refine L_callV2 hX 188 8 3 917 (by decide +kernel) sh_76 (Nat.le_of_ble_eq_true rfl) (by decide) ?_
      refine k_188 hT5.1 hn gu2_5 hm se2_5 (by decide) (fun r7 N7 hT7 hr7 => ?_)
      dsimp only [Option.toList, List.cons_append, List.nil_append]
      obtain ⟨hA2, hsame⟩ := se_step hA hr5 hr7
      have hR2 := hR.keep (fun i k hc => (hT7.2 i k (by first | exact fun h => h | (unfold core2 at hc; (try dsimp only); omega))).trans (hT5.2 i k (by first | exact fun h => h | (unfold core2 at hc; (try dsimp only); omega))))
      have hN2 := se_rel hSn hRs fac_b.1 fac_b.2 hr5 hr7
      have hB2 := (hbd.keep (fun i k hc => (hT7.2 i k (by first | exact fun h => h | (unfold coreB at hc; (try dsimp only); omega))).trans (hT5.2 i k (by first | exact fun h => h | (unfold coreB at hc; (try dsimp only); omega))))).mono (Nat.le_add_right bb 8)
      have hL2 := hL
      refine L_pure hX .pop 918 (by decide +kernel) rfl ?_
      refine L_goto hX 1174 (by decide +kernel) ?_
      exact kk _ _ ⟨⟨⟨hT7.1, hA2, hR2, hL2⟩, hN2⟩, hB2, by omega⟩
set_option maxRecDepth 10000 in
theorem case_25 {X : Lx} {k : Nat} {M : Mt} {L : Lt} (hX : X.ok) (hk : k + 5 ≤ X.n) (hI : Inv M) (hA : RelA M) (hR : RelH M) (hL : L 0 = L 76) (hSn : RelS M) {bb : Nat} (hbd : BdH bb M) (hbb : bb < 5000) (hb9 : 9 ≤ bb) (kk : ∀ (N : Mt) (L' : Lt), RelD (bb + 8) N L' → LW X 1174 k [] (wOf N L')) : LW X 921 k [] (wOf M L) := by
  obtain ⟨zt, hzt, tx1, tx2⟩ := hA.1
  obtain ⟨m, hm, se1, se2, hRs⟩ := id hSn
  obtain ⟨n, c, pw, hH, ⟨na, nx, ra, hAc⟩, hk0, rk0, hSl⟩ := id hR
  obtain ⟨hn, gu1, gu2, hc1, hc2, hp1, hp2, hok⟩ := id hH
  obtain ⟨T, hTx, hTm⟩ := tl_ex hI hA.2.2.1
  have ho1 : ∀ t, t < 3 → M 67 t = M 67 t := fun t _ => rfl
  have ho8 : ∀ t, t < 3 → M 85 t = M 67 t := fun t ht => (hA.2.2.2.2 t ht).symm
  obtain ⟨on, on8, hon⟩ := od_nat hI
  have on1 : ∀ t, t < 3 → M 67 t = nI (on t) := fun t ht => (hA.2.2.2.2 t ht).trans (on8 t ht)
  refine L_x hX 922 (by decide +kernel) ?_
  refine L_scr hX 1 927 (by decide +kernel) (by omega) (by decide) ?_
  refine L_scr hX 2 932 (by decide +kernel) (by omega) (by decide) ?_
  refine L_callV2 hX 101 7 3 935 (by decide +kernel) sh_0 (Nat.le_of_ble_eq_true rfl) (by decide) ?_
  refine k_101 hI hn gu1 hm se1 (by decide) (fun r1 N1 hT1 hr1 => ?_)
  dsimp only [Option.toList, List.cons_append, List.nil_append]
  have gu2_1 := (hT1.2 76 0 (by first | exact fun h => h | ((try dsimp only); omega))).trans gu2
  have se2_1 := (hT1.2 76 15 (by first | exact fun h => h | ((try dsimp only); omega))).trans se2
  refine L_pure hX .pop 936 (by decide +kernel) rfl ?_
  refine L_m hX 937 (by decide +kernel) ?_
  refine L_scr hX 1 942 (by decide +kernel) (by omega) (by decide) ?_
  refine L_scr hX 2 947 (by decide +kernel) (by omega) (by decide) ?_
  refine L_callV2 hX 189 8 3 950 (by decide +kernel) sh_76 (Nat.le_of_ble_eq_true rfl) (by decide) ?_
  refine k_189 hT1.1 hn gu2_1 hm se2_1 (by decide) (fun r2 N2 hT2 hr2 => ?_)
  dsimp only [Option.toList, List.cons_append, List.nil_append]
  obtain ⟨hA2, hsame⟩ := sc_step hA hr1 hr2
  have hR2 := hR.keep (fun i k hc => (hT2.2 i k (by first | exact fun h => h | (unfold core2 at hc; (try dsimp only); omega))).trans (hT1.2 i k (by first | exact fun h => h | (unfold core2 at hc; (try dsimp only); omega))))
  have hN2 := sc_rel hSn hRs fac_c hr1 hr2
  have hB2 := (hbd.keep (fun i k hc => (hT2.2 i k (by first | exact fun h => h | (unfold coreB at hc; (try dsimp only); omega))).trans (hT1.2 i k (by first | exact fun h => h | (unfold coreB at hc; (try dsimp only); omega))))).mono (Nat.le_add_right bb 8)
  have hL2 := hL
  refine L_pure hX .pop 951 (by decide +kernel) rfl ?_
  refine L_goto hX 1174 (by decide +kernel) ?_
  exact kk _ _ ⟨⟨⟨hT2.1, hA2, hR2, hL2⟩, hN2⟩, hB2, by omega⟩
set_option maxRecDepth 10000 in
theorem case_26 {X : Lx} {k : Nat} {M : Mt} {L : Lt} (hX : X.ok) (hk : k + 5 ≤ X.n) (hI : Inv M) (hA : RelA M) (hR : RelH M) (hL : L 0 = L 76) (hSn : RelS M) {bb : Nat} (hbd : BdH bb M) (hbb : bb < 5000) (hb9 : 9 ≤ bb) (kk : ∀ (N : Mt) (L' : Lt), RelD (bb + 8) N L' → LW X 1174 k [] (wOf N L')) : LW X 954 k [] (wOf M L) := by
  obtain ⟨zt, hzt, tx1, tx2⟩ := hA.1
  obtain ⟨m, hm, se1, se2, hRs⟩ := id hSn
  obtain ⟨n, c, pw, hH, ⟨na, nx, ra, hAc⟩, hk0, rk0, hSl⟩ := id hR
  obtain ⟨hn, gu1, gu2, hc1, hc2, hp1, hp2, hok⟩ := id hH
  obtain ⟨T, hTx, hTm⟩ := tl_ex hI hA.2.2.1
  have ho1 : ∀ t, t < 3 → M 67 t = M 67 t := fun t _ => rfl
  have ho8 : ∀ t, t < 3 → M 85 t = M 67 t := fun t ht => (hA.2.2.2.2 t ht).symm
  obtain ⟨on, on8, hon⟩ := od_nat hI
  have on1 : ∀ t, t < 3 → M 67 t = nI (on t) := fun t ht => (hA.2.2.2.2 t ht).trans (on8 t ht)
  refine L_x hX 955 (by decide +kernel) ?_
  refine L_callV0 hX 102 7 1 958 (by decide +kernel) sh_0 (Nat.le_of_ble_eq_true rfl) (by decide) ?_
  refine k_102 hI hm se1 (by decide) (fun r1 N1 hT1 hr1 => ?_)
  dsimp only [Option.toList, List.cons_append, List.nil_append]
  have se2_1 := (hT1.2 76 15 (by first | exact fun h => h | ((try dsimp only); omega))).trans se2
  refine L_pure hX .pop 959 (by decide +kernel) rfl ?_
  refine L_m hX 960 (by decide +kernel) ?_
  refine L_callV0 hX 190 8 2 963 (by decide +kernel) sh_76 (Nat.le_of_ble_eq_true rfl) (by decide) ?_
  refine k_190 hT1.1 hm se2_1 (by decide) (fun r2 N2 hT2 hr2 => ?_)
  dsimp only [Option.toList, List.cons_append, List.nil_append]
  obtain ⟨hA2, hsame⟩ := un_step hA hr1 hr2
  have hR2 := hR.keep (fun i k hc => (hT2.2 i k (by first | exact fun h => h | (unfold core2 at hc; (try dsimp only); omega))).trans (hT1.2 i k (by first | exact fun h => h | (unfold core2 at hc; (try dsimp only); omega))))
  have hN2 := un_rel hr1 hr2
  have hB2 := (hbd.keep (fun i k hc => (hT2.2 i k (by first | exact fun h => h | (unfold coreB at hc; (try dsimp only); omega))).trans (hT1.2 i k (by first | exact fun h => h | (unfold coreB at hc; (try dsimp only); omega))))).mono (Nat.le_add_right bb 8)
  have hL2 := hL
  refine L_pure hX .pop 964 (by decide +kernel) rfl ?_
  refine L_goto hX 1174 (by decide +kernel) ?_
  exact kk _ _ ⟨⟨⟨hT2.1, hA2, hR2, hL2⟩, hN2⟩, hB2, by omega⟩
set_option maxRecDepth 10000 in
theorem case_27 {X : Lx} {k : Nat} {M : Mt} {L : Lt} (hX : X.ok) (hk : k + 5 ≤ X.n) (hI : Inv M) (hA : RelA M) (hR : RelH M) (hL : L 0 = L 76) (hSn : RelS M) {bb : Nat} (hbd : BdH bb M) (hbb : bb < 5000) (hb9 : 9 ≤ bb) (kk : ∀ (N : Mt) (L' : Lt), RelD (bb + 8) N L' → LW X 1174 k [] (wOf N L')) : LW X 967 k [] (wOf M L) := by
  obtain ⟨zt, hzt, tx1, tx2⟩ := hA.1
  obtain ⟨m, hm, se1, se2, hRs⟩ := id hSn
  obtain ⟨n, c, pw, hH, ⟨na, nx, ra, hAc⟩, hk0, rk0, hSl⟩ := id hR
  obtain ⟨hn, gu1, gu2, hc1, hc2, hp1, hp2, hok⟩ := id hH
  obtain ⟨T, hTx, hTm⟩ := tl_ex hI hA.2.2.1
  have ho1 : ∀ t, t < 3 → M 67 t = M 67 t := fun t _ => rfl
  have ho8 : ∀ t, t < 3 → M 85 t = M 67 t := fun t ht => (hA.2.2.2.2 t ht).symm
  obtain ⟨on, on8, hon⟩ := od_nat hI
  have on1 : ∀ t, t < 3 → M 67 t = nI (on t) := fun t ht => (hA.2.2.2.2 t ht).trans (on8 t ht)
  refine L_x hX 968 (by decide +kernel) ?_
  refine L_callV0 hX 103 7 1 971 (by decide +kernel) sh_0 (Nat.le_of_ble_eq_true rfl) (by decide) ?_
  refine k_103 hI  (by decide) (fun r1 N1 hT1 hr1 => ?_)
  dsimp only [Option.toList, List.cons_append, List.nil_append]
  refine L_pure hX .pop 972 (by decide +kernel) rfl ?_
  refine L_m hX 973 (by decide +kernel) ?_
  refine L_callV0 hX 192 8 1 976 (by decide +kernel) sh_76 (Nat.le_of_ble_eq_true rfl) (by decide) ?_
  refine k_192 hT1.1  (by decide) (fun r2 N2 hT2 hr2 => ?_)
  dsimp only [Option.toList, List.cons_append, List.nil_append]
  have hA2 := hA.keep (fun i k hc => (hT2.2 i k (by first | exact fun h => h | (unfold coreA at hc; (try dsimp only); omega))).trans (hT1.2 i k (by first | exact fun h => h | (unfold coreA at hc; (try dsimp only); omega))))
  have hR2 := hR.keep (fun i k hc => (hT2.2 i k (by first | exact fun h => h | (unfold core2 at hc; (try dsimp only); omega))).trans (hT1.2 i k (by first | exact fun h => h | (unfold core2 at hc; (try dsimp only); omega))))
  have hN2 := hSn.keep (fun i k hc => (hT2.2 i k (by first | exact fun h => h | (unfold core3 at hc; (try dsimp only); omega))).trans (hT1.2 i k (by first | exact fun h => h | (unfold core3 at hc; (try dsimp only); omega))))
  have hB2 := (hbd.keep (fun i k hc => (hT2.2 i k (by first | exact fun h => h | (unfold coreB at hc; (try dsimp only); omega))).trans (hT1.2 i k (by first | exact fun h => h | (unfold coreB at hc; (try dsimp only); omega))))).mono (Nat.le_add_right bb 8)
  have hL2 := hL
  refine L_pure hX .pop 977 (by decide +kernel) rfl ?_
  refine L_goto hX 1174 (by decide +kernel) ?_
  exact kk _ _ ⟨⟨⟨hT2.1, hA2, hR2, hL2⟩, hN2⟩, hB2, by omega⟩
set_option maxRecDepth 10000 in
theorem case_28 {X : Lx} {k : Nat} {M : Mt} {L : Lt} (hX : X.ok) (hk : k + 5 ≤ X.n) (hI : Inv M) (hA : RelA M) (hR : RelH M) (hL : L 0 = L 76) (hSn : RelS M) {bb : Nat} (hbd : BdH bb M) (hbb : bb < 5000) (hb9 : 9 ≤ bb) (kk : ∀ (N : Mt) (L' : Lt), RelD (bb + 8) N L' → LW X 1174 k [] (wOf N L')) : LW X 980 k [] (wOf M L) := by
  obtain ⟨zt, hzt, tx1, tx2⟩ := hA.1
  obtain ⟨m, hm, se1, se2, hRs⟩ := id hSn
  obtain ⟨n, c, pw, hH, ⟨na, nx, ra, hAc⟩, hk0, rk0, hSl⟩ := id hR
  obtain ⟨hn, gu1, gu2, hc1, hc2, hp1, hp2, hok⟩ := id hH
  obtain ⟨T, hTx, hTm⟩ := tl_ex hI hA.2.2.1
  have ho1 : ∀ t, t < 3 → M 67 t = M 67 t := fun t _ => rfl
  have ho8 : ∀ t, t < 3 → M 85 t = M 67 t := fun t ht => (hA.2.2.2.2 t ht).symm
  obtain ⟨on, on8, hon⟩ := od_nat hI
  have on1 : ∀ t, t < 3 → M 67 t = nI (on t) := fun t ht => (hA.2.2.2.2 t ht).trans (on8 t ht)
  refine L_x hX 981 (by decide +kernel) ?_
  refine L_scr hX 1 986 (by decide +kernel) (by omega) (by decide) ?_
  refine L_scr hX 2 991 (by decide +kernel) (by omega) (by decide) ?_
  refine L_ieq hX 998 994 (by decide +kernel) (fun hb1 => ?_) (fun hb1 => ?_)
  · skip
    refine L_pure hX (.iconst 0) 999 (by decide +kernel) rfl ?_
    refine L_callV2 hX 104 7 6 1002 (by decide +kernel) sh_0 (Nat.le_of_ble_eq_true rfl) (by decide) ?_
    refine k_104 hI  (by decide) (fun r2 N2 hT2 hr2 => ?_)
    dsimp only [Option.toList, List.cons_append, List.nil_append]
    refine L_pure hX .pop 1003 (by decide +kernel) rfl ?_
    refine L_m hX 1004 (by decide +kernel) ?_
    refine L_scr hX 1 1009 (by decide +kernel) (by omega) (by decide) ?_
    refine L_scr hX 2 1014 (by decide +kernel) (by omega) (by decide) ?_
    refine L_ieq hX 1021 1017 (by decide +kernel) (fun hb3 => ?_) (fun hb3 => ?_)
    · skip
      refine L_pure hX (.iconst 0) 1022 (by decide +kernel) rfl ?_
      refine L_callV2 hX 194 8 7 1025 (by decide +kernel) sh_76 (Nat.le_of_ble_eq_true rfl) (by decide) ?_
      refine k_194 hT2.1  (by decide) (fun r4 N4 hT4 hr4 => ?_)
      dsimp only [Option.toList, List.cons_append, List.nil_append]
      have hA2 := hA.keep (fun i k hc => (hT4.2 i k (by first | exact fun h => h | (unfold coreA at hc; (try dsimp only); omega))).trans (hT2.2 i k (by first | exact fun h => h | (unfold coreA at hc; (try dsimp only); omega))))
      have hR2 := hR.keep (fun i k hc => (hT4.2 i k (by first | exact fun h => h | (unfold core2 at hc; (try dsimp only); omega))).trans (hT2.2 i k (by first | exact fun h => h | (unfold core2 at hc; (try dsimp only); omega))))
      have hN2 := hSn.keep (fun i k hc => (hT4.2 i k (by first | exact fun h => h | (unfold core3 at hc; (try dsimp only); omega))).trans (hT2.2 i k (by first | exact fun h => h | (unfold core3 at hc; (try dsimp only); omega))))
      have hB2 := (hbd.keep (fun i k hc => (hT4.2 i k (by first | exact fun h => h | (unfold coreB at hc; (try dsimp only); omega))).trans (hT2.2 i k (by first | exact fun h => h | (unfold coreB at hc; (try dsimp only); omega))))).mono (Nat.le_add_right bb 8)
      have hL2 := hL
      refine L_pure hX .pop 1026 (by decide +kernel) rfl ?_
      refine L_goto hX 1174 (by decide +kernel) ?_
      exact kk _ _ ⟨⟨⟨hT4.1, hA2, hR2, hL2⟩, hN2⟩, hB2, by omega⟩
    · exact absurd hb1 hb3
  · skip
    refine L_pure hX (.iconst 1) 995 (by decide +kernel) rfl ?_
    refine L_goto hX 999 (by decide +kernel) ?_
    refine L_callV2 hX 104 7 6 1002 (by decide +kernel) sh_0 (Nat.le_of_ble_eq_true rfl) (by decide) ?_
    refine k_104 hI  (by decide) (fun r5 N5 hT5 hr5 => ?_)
    dsimp only [Option.toList, List.cons_append, List.nil_append]
    refine L_pure hX .pop 1003 (by decide +kernel) rfl ?_
    refine L_m hX 1004 (by decide +kernel) ?_
    refine L_scr hX 1 1009 (by decide +kernel) (by omega) (by decide) ?_
    refine L_scr hX 2 1014 (by decide +kernel) (by omega) (by decide) ?_
    refine L_ieq hX 1021 1017 (by decide +kernel) (fun hb6 => ?_) (fun hb6 => ?_)
    · exact absurd hb6 hb1
    · skip
      refine L_pure hX (.iconst 1) 1018 (by decide +kernel) rfl ?_
      refine L_goto hX 1022 (by decide +kernel) ?_
      refine L_callV2 hX 194 8 7 1025 (by decide +kernel) sh_76 (Nat.le_of_ble_eq_true rfl) (by decide) ?_
      refine k_194 hT5.1  (by decide) (fun r7 N7 hT7 hr7 => ?_)
      dsimp only [Option.toList, List.cons_append, List.nil_append]
      have hA2 := hA.keep (fun i k hc => (hT7.2 i k (by first | exact fun h => h | (unfold coreA at hc; (try dsimp only); omega))).trans (hT5.2 i k (by first | exact fun h => h | (unfold coreA at hc; (try dsimp only); omega))))
      have hR2 := hR.keep (fun i k hc => (hT7.2 i k (by first | exact fun h => h | (unfold core2 at hc; (try dsimp only); omega))).trans (hT5.2 i k (by first | exact fun h => h | (unfold core2 at hc; (try dsimp only); omega))))
      have hN2 := hSn.keep (fun i k hc => (hT7.2 i k (by first | exact fun h => h | (unfold core3 at hc; (try dsimp only); omega))).trans (hT5.2 i k (by first | exact fun h => h | (unfold core3 at hc; (try dsimp only); omega))))
      have hB2 := (hbd.keep (fun i k hc => (hT7.2 i k (by first | exact fun h => h | (unfold coreB at hc; (try dsimp only); omega))).trans (hT5.2 i k (by first | exact fun h => h | (unfold coreB at hc; (try dsimp only); omega))))).mono (Nat.le_add_right bb 8)
      have hL2 := hL
      refine L_pure hX .pop 1026 (by decide +kernel) rfl ?_
      refine L_goto hX 1174 (by decide +kernel) ?_
      exact kk _ _ ⟨⟨⟨hT7.1, hA2, hR2, hL2⟩, hN2⟩, hB2, by omega⟩
set_option maxRecDepth 10000 in
theorem case_29 {X : Lx} {k : Nat} {M : Mt} {L : Lt} (hX : X.ok) (hk : k + 5 ≤ X.n) (hI : Inv M) (hA : RelA M) (hR : RelH M) (hL : L 0 = L 76) (hSn : RelS M) {bb : Nat} (hbd : BdH bb M) (hbb : bb < 5000) (hb9 : 9 ≤ bb) (kk : ∀ (N : Mt) (L' : Lt), RelD (bb + 8) N L' → LW X 1174 k [] (wOf N L')) : LW X 1029 k [] (wOf M L) := by
  obtain ⟨zt, hzt, tx1, tx2⟩ := hA.1
  obtain ⟨m, hm, se1, se2, hRs⟩ := id hSn
  obtain ⟨n, c, pw, hH, ⟨na, nx, ra, hAc⟩, hk0, rk0, hSl⟩ := id hR
  obtain ⟨hn, gu1, gu2, hc1, hc2, hp1, hp2, hok⟩ := id hH
  obtain ⟨T, hTx, hTm⟩ := tl_ex hI hA.2.2.1
  have ho1 : ∀ t, t < 3 → M 67 t = M 67 t := fun t _ => rfl
  have ho8 : ∀ t, t < 3 → M 85 t = M 67 t := fun t ht => (hA.2.2.2.2 t ht).symm
  obtain ⟨on, on8, hon⟩ := od_nat hI
  have on1 : ∀ t, t < 3 → M 67 t = nI (on t) := fun t ht => (hA.2.2.2.2 t ht).trans (on8 t ht)
  refine L_x hX 1030 (by decide +kernel) ?_
  refine L_scr hX 1 1035 (by decide +kernel) (by omega) (by decide) ?_
  refine L_pure hX .i2l 1036 (by decide +kernel) rfl ?_
  refine L_pure hX (.bipush 32) 1038 (by decide +kernel) rfl ?_
  refine L_lshl hX 1039 (by decide +kernel) (fun w1 hw1 => ?_)
  refine L_scr hX 2 1044 (by decide +kernel) (by omega) (by decide) ?_
  refine L_pure hX .i2l 1045 (by decide +kernel) rfl ?_
  refine L_pure hX (.ldc2_w 135) 1048 (by decide +kernel) rfl ?_
  refine L_land hX 1049 (by decide +kernel) ?_
  refine L_lor hX 1050 (by decide +kernel) ?_
  refine L_callVL hX 105 7 5 1053 (by decide +kernel) sh_0 (Nat.le_of_ble_eq_true rfl) (by decide) ?_
  refine k_105 hI  (by decide) (fun r2 N2 L2 hT2 hr2 => ?_)
  dsimp only [Option.toList, List.cons_append, List.nil_append]
  refine L_pop2 hX 1054 (by decide +kernel) ?_
  refine L_m hX 1055 (by decide +kernel) ?_
  refine L_scr hX 1 1060 (by decide +kernel) (by omega) (by decide) ?_
  refine L_pure hX .i2l 1061 (by decide +kernel) rfl ?_
  refine L_pure hX (.bipush 32) 1063 (by decide +kernel) rfl ?_
  refine L_lshl hX 1064 (by decide +kernel) (fun w3 hw3 => ?_)
  refine L_scr hX 2 1069 (by decide +kernel) (by omega) (by decide) ?_
  refine L_pure hX .i2l 1070 (by decide +kernel) rfl ?_
  refine L_pure hX (.ldc2_w 135) 1073 (by decide +kernel) rfl ?_
  refine L_land hX 1074 (by decide +kernel) ?_
  refine L_lor hX 1075 (by decide +kernel) ?_
  refine L_callVL hX 195 8 5 1078 (by decide +kernel) sh_76 (Nat.le_of_ble_eq_true rfl) (by decide) ?_
  refine k_195 hT2.1  (by decide) (fun r4 N4 L4 hT4 hr4 => ?_)
  dsimp only [Option.toList, List.cons_append, List.nil_append]
  have hA2 := hA.keep (fun i k hc => (hT4.2 i k (by first | exact fun h => h | (unfold coreA at hc; (try dsimp only); omega))).trans (hT2.2 i k (by first | exact fun h => h | (unfold coreA at hc; (try dsimp only); omega))))
  have hR2 := hR.keep (fun i k hc => (hT4.2 i k (by first | exact fun h => h | (unfold core2 at hc; (try dsimp only); omega))).trans (hT2.2 i k (by first | exact fun h => h | (unfold core2 at hc; (try dsimp only); omega))))
  have hN2 := hSn.keep (fun i k hc => (hT4.2 i k (by first | exact fun h => h | (unfold core3 at hc; (try dsimp only); omega))).trans (hT2.2 i k (by first | exact fun h => h | (unfold core3 at hc; (try dsimp only); omega))))
  have hB2 := (hbd.keep (fun i k hc => (hT4.2 i k (by first | exact fun h => h | (unfold coreB at hc; (try dsimp only); omega))).trans (hT2.2 i k (by first | exact fun h => h | (unfold coreB at hc; (try dsimp only); omega))))).mono (Nat.le_add_right bb 8)
  have hv2 : _ = _ := hw1.trans hw3.symm
  have hsame : r2 = r4 := hr2.1.trans (hL.trans (by rw [hr4.1, hr2.2, upL_ne (by decide)]))
  have hL2 : L4 0 = L4 76 := by rw [hr4.2, upL_ne (by decide), upL_eq, hr2.2, upL_eq, hv2]
  refine L_pop2 hX 1079 (by decide +kernel) ?_
  refine L_goto hX 1174 (by decide +kernel) ?_
  exact kk _ _ ⟨⟨⟨hT4.1, hA2, hR2, hL2⟩, hN2⟩, hB2, by omega⟩
set_option maxRecDepth 10000 in
theorem case_30 {X : Lx} {k : Nat} {M : Mt} {L : Lt} (hX : X.ok) (hk : k + 5 ≤ X.n) (hI : Inv M) (hA : RelA M) (hR : RelH M) (hL : L 0 = L 76) (hSn : RelS M) {bb : Nat} (hbd : BdH bb M) (hbb : bb < 5000) (hb9 : 9 ≤ bb) (kk : ∀ (N : Mt) (L' : Lt), RelD (bb + 8) N L' → LW X 1174 k [] (wOf N L')) : LW X 1082 k [] (wOf M L) := by
  obtain ⟨zt, hzt, tx1, tx2⟩ := hA.1
  obtain ⟨m, hm, se1, se2, hRs⟩ := id hSn
  obtain ⟨n, c, pw, hH, ⟨na, nx, ra, hAc⟩, hk0, rk0, hSl⟩ := id hR
  obtain ⟨hn, gu1, gu2, hc1, hc2, hp1, hp2, hok⟩ := id hH
  obtain ⟨T, hTx, hTm⟩ := tl_ex hI hA.2.2.1
  have ho1 : ∀ t, t < 3 → M 67 t = M 67 t := fun t _ => rfl
  have ho8 : ∀ t, t < 3 → M 85 t = M 67 t := fun t ht => (hA.2.2.2.2 t ht).symm
  obtain ⟨on, on8, hon⟩ := od_nat hI
  have on1 : ∀ t, t < 3 → M 67 t = nI (on t) := fun t ht => (hA.2.2.2.2 t ht).trans (on8 t ht)
  refine L_x hX 1083 (by decide +kernel) ?_
  refine L_scr hX 1 1088 (by decide +kernel) (by omega) (by decide) ?_
  refine L_callV1 hX 106 7 3 1091 (by decide +kernel) sh_0 (Nat.le_of_ble_eq_true rfl) (by decide) ?_
  refine k_106 hI  (by decide) (fun r1 N1 L1 hT1 hr1 => ?_)
  dsimp only [Option.toList, List.cons_append, List.nil_append]
  refine L_pure hX .pop 1092 (by decide +kernel) rfl ?_
  refine L_m hX 1093 (by decide +kernel) ?_
  refine L_scr hX 1 1098 (by decide +kernel) (by omega) (by decide) ?_
  refine L_callV1 hX 196 8 4 1101 (by decide +kernel) sh_76 (Nat.le_of_ble_eq_true rfl) (by decide) ?_
  refine k_196 hT1.1  (by decide) (fun r2 N2 L2 hT2 hr2 => ?_)
  dsimp only [Option.toList, List.cons_append, List.nil_append]
  have hA2 := hA.keep (fun i k hc => (hT2.2 i k (by first | exact fun h => h | (unfold coreA at hc; (try dsimp only); omega))).trans (hT1.2 i k (by first | exact fun h => h | (unfold coreA at hc; (try dsimp only); omega))))
  have hR2 := hR.keep (fun i k hc => (hT2.2 i k (by first | exact fun h => h | (unfold core2 at hc; (try dsimp only); omega))).trans (hT1.2 i k (by first | exact fun h => h | (unfold core2 at hc; (try dsimp only); omega))))
  have hN2 := hSn.keep (fun i k hc => (hT2.2 i k (by first | exact fun h => h | (unfold core3 at hc; (try dsimp only); omega))).trans (hT1.2 i k (by first | exact fun h => h | (unfold core3 at hc; (try dsimp only); omega))))
  have hB2 := (hbd.keep (fun i k hc => (hT2.2 i k (by first | exact fun h => h | (unfold coreB at hc; (try dsimp only); omega))).trans (hT1.2 i k (by first | exact fun h => h | (unfold coreB at hc; (try dsimp only); omega))))).mono (Nat.le_add_right bb 8)
  have hL2 : L2 0 = L2 76 := ni_step hL hr1 hr2
  refine L_pure hX .pop 1102 (by decide +kernel) rfl ?_
  refine L_goto hX 1174 (by decide +kernel) ?_
  exact kk _ _ ⟨⟨⟨hT2.1, hA2, hR2, hL2⟩, hN2⟩, hB2, by omega⟩
set_option maxRecDepth 10000 in
theorem case_31 {X : Lx} {k : Nat} {M : Mt} {L : Lt} (hX : X.ok) (hk : k + 5 ≤ X.n) (hI : Inv M) (hA : RelA M) (hR : RelH M) (hL : L 0 = L 76) (hSn : RelS M) {bb : Nat} (hbd : BdH bb M) (hbb : bb < 5000) (hb9 : 9 ≤ bb) (kk : ∀ (N : Mt) (L' : Lt), RelD (bb + 8) N L' → LW X 1174 k [] (wOf N L')) : LW X 1105 k [] (wOf M L) := by
  obtain ⟨zt, hzt, tx1, tx2⟩ := hA.1
  obtain ⟨m, hm, se1, se2, hRs⟩ := id hSn
  obtain ⟨n, c, pw, hH, ⟨na, nx, ra, hAc⟩, hk0, rk0, hSl⟩ := id hR
  obtain ⟨hn, gu1, gu2, hc1, hc2, hp1, hp2, hok⟩ := id hH
  obtain ⟨T, hTx, hTm⟩ := tl_ex hI hA.2.2.1
  have ho1 : ∀ t, t < 3 → M 67 t = M 67 t := fun t _ => rfl
  have ho8 : ∀ t, t < 3 → M 85 t = M 67 t := fun t ht => (hA.2.2.2.2 t ht).symm
  obtain ⟨on, on8, hon⟩ := od_nat hI
  have on1 : ∀ t, t < 3 → M 67 t = nI (on t) := fun t ht => (hA.2.2.2.2 t ht).trans (on8 t ht)
  refine L_x hX 1106 (by decide +kernel) ?_
  refine L_scr hX 1 1111 (by decide +kernel) (by omega) (by decide) ?_
  refine L_callV1 hX 107 7 2 1114 (by decide +kernel) sh_0 (Nat.le_of_ble_eq_true rfl) (by decide) ?_
  refine s_keep hI hn gu1 hc1 hp1 hSl.1 (by decide) (fun r1 N1 hT1 hr1 => ?_)
  dsimp only [Option.toList, List.cons_append, List.nil_append]
  have gu2_1 := (hT1.2 76 0 (by first | exact fun h => h | ((try dsimp only); omega))).trans gu2
  have hc2_1 := (show HE n (lvC N1 0) c by rw [lvC_row (hT1.row (fun k => (by first | exact fun h => h | ((try dsimp only); omega))))]; exact hc2)
  have hp2_1 := (show LQ n (N1 77) pw by rw [hT1.row (x := 77) (fun k => (by first | exact fun h => h | ((try dsimp only); omega)))]; exact hp2)
  have slm_1 := hSl.2.1.keep (hT1.row (fun k => (by first | exact fun h => h | ((try dsimp only); omega)))) (hT1.row (fun k => (by first | exact fun h => h | ((try dsimp only); omega))))
  refine L_pure hX .pop 1115 (by decide +kernel) rfl ?_
  refine L_m hX 1116 (by decide +kernel) ?_
  refine L_scr hX 1 1121 (by decide +kernel) (by omega) (by decide) ?_
  refine L_callV1 hX 197 8 3 1124 (by decide +kernel) sh_76 (Nat.le_of_ble_eq_true rfl) (by decide) ?_
  refine s_keep8 hT1.1 hn gu2_1 hc2_1 hp2_1 slm_1 (by decide) (fun r2 N2 hT2 hr2 => ?_)
  dsimp only [Option.toList, List.cons_append, List.nil_append]
  have hA2 := hA.keep (fun i k hc => (hT2.2 i k (by first | exact fun h => h | (unfold coreA at hc; (try dsimp only); omega))).trans (hT1.2 i k (by first | exact fun h => h | (unfold coreA at hc; (try dsimp only); omega))))
  obtain ⟨hR2, hsame⟩ := ke_step hH hAc hSl hT1.2 hT2.2 hr1 hr2
  have hN2 := hSn.keep (fun i k hc => (hT2.2 i k (by first | exact fun h => h | (unfold core3 at hc; (try dsimp only); omega))).trans (hT1.2 i k (by first | exact fun h => h | (unfold core3 at hc; (try dsimp only); omega))))
  have hB2 := (ke_bd hbd hH hAc hSl hT1.2 hr1).keep (fun i k hc => hT2.2 i k (by first | exact fun h => h | (unfold coreB at hc; (try dsimp only); omega)))
  have hL2 := hL
  refine L_pure hX .pop 1125 (by decide +kernel) rfl ?_
  refine L_goto hX 1174 (by decide +kernel) ?_
  exact kk _ _ ⟨⟨⟨hT2.1, hA2, hR2, hL2⟩, hN2⟩, hB2, by omega⟩
set_option maxRecDepth 10000 in
theorem case_32 {X : Lx} {k : Nat} {M : Mt} {L : Lt} (hX : X.ok) (hk : k + 5 ≤ X.n) (hI : Inv M) (hA : RelA M) (hR : RelH M) (hL : L 0 = L 76) (hSn : RelS M) {bb : Nat} (hbd : BdH bb M) (hbb : bb < 5000) (hb9 : 9 ≤ bb) (kk : ∀ (N : Mt) (L' : Lt), RelD (bb + 8) N L' → LW X 1174 k [] (wOf N L')) : LW X 1128 k [] (wOf M L) := by
  obtain ⟨zt, hzt, tx1, tx2⟩ := hA.1
  obtain ⟨m, hm, se1, se2, hRs⟩ := id hSn
  obtain ⟨n, c, pw, hH, ⟨na, nx, ra, hAc⟩, hk0, rk0, hSl⟩ := id hR
  obtain ⟨hn, gu1, gu2, hc1, hc2, hp1, hp2, hok⟩ := id hH
  obtain ⟨T, hTx, hTm⟩ := tl_ex hI hA.2.2.1
  have ho1 : ∀ t, t < 3 → M 67 t = M 67 t := fun t _ => rfl
  have ho8 : ∀ t, t < 3 → M 85 t = M 67 t := fun t ht => (hA.2.2.2.2 t ht).symm
  obtain ⟨on, on8, hon⟩ := od_nat hI
  have on1 : ∀ t, t < 3 → M 67 t = nI (on t) := fun t ht => (hA.2.2.2.2 t ht).trans (on8 t ht)
  refine L_x hX 1129 (by decide +kernel) ?_
  refine L_scr hX 1 1134 (by decide +kernel) (by omega) (by decide) ?_
  refine L_callV1 hX 108 7 2 1137 (by decide +kernel) sh_0 (Nat.le_of_ble_eq_true rfl) (by decide) ?_
  refine s_again hI hn gu1 hc1 hp1 hSl.1 (by decide) (fun r1 N1 hT1 hr1 => ?_)
  dsimp only [Option.toList, List.cons_append, List.nil_append]
  have gu2_1 := (hT1.2 76 0 (by first | exact fun h => h | ((try dsimp only); omega))).trans gu2
  have hc2_1 := (show HE n (lvC N1 0) c by rw [lvC_row (hT1.row (fun k => (by first | exact fun h => h | ((try dsimp only); omega))))]; exact hc2)
  have hp2_1 := (show LQ n (N1 77) pw by rw [hT1.row (x := 77) (fun k => (by first | exact fun h => h | ((try dsimp only); omega)))]; exact hp2)
  have slm_1 := hSl.2.1.keep (hT1.row (fun k => (by first | exact fun h => h | ((try dsimp only); omega)))) (hT1.row (fun k => (by first | exact fun h => h | ((try dsimp only); omega))))
  refine L_pure hX .pop 1138 (by decide +kernel) rfl ?_
  refine L_m hX 1139 (by decide +kernel) ?_
  refine L_scr hX 1 1144 (by decide +kernel) (by omega) (by decide) ?_
  refine L_callV1 hX 198 8 3 1147 (by decide +kernel) sh_76 (Nat.le_of_ble_eq_true rfl) (by decide) ?_
  refine s_again8 hT1.1 hn gu2_1 hc2_1 hp2_1 slm_1 (by decide) (fun r2 N2 hT2 hr2 => ?_)
  dsimp only [Option.toList, List.cons_append, List.nil_append]
  have hA2 := hA.keep (fun i k hc => (hT2.2 i k (by first | exact fun h => h | (unfold coreA at hc; (try dsimp only); omega))).trans (hT1.2 i k (by first | exact fun h => h | (unfold coreA at hc; (try dsimp only); omega))))
  obtain ⟨hR2, hsame⟩ := ag_step hH hAc hSl hT1.2 hT2.2 hr1 hr2
  have hN2 := hSn.keep (fun i k hc => (hT2.2 i k (by first | exact fun h => h | (unfold core3 at hc; (try dsimp only); omega))).trans (hT1.2 i k (by first | exact fun h => h | (unfold core3 at hc; (try dsimp only); omega))))
  have hB2 := (ag_bd hbd hH hAc hSl hT1.2 hr1).keep (fun i k hc => hT2.2 i k (by first | exact fun h => h | (unfold coreB at hc; (try dsimp only); omega)))
  have hL2 := hL
  refine L_pure hX .pop 1148 (by decide +kernel) rfl ?_
  refine L_goto hX 1174 (by decide +kernel) ?_
  exact kk _ _ ⟨⟨⟨hT2.1, hA2, hR2, hL2⟩, hN2⟩, hB2, by omega⟩
set_option maxRecDepth 10000 in
theorem case_33 {X : Lx} {k : Nat} {M : Mt} {L : Lt} (hX : X.ok) (hk : k + 5 ≤ X.n) (hI : Inv M) (hA : RelA M) (hR : RelH M) (hL : L 0 = L 76) (hSn : RelS M) {bb : Nat} (hbd : BdH bb M) (hbb : bb < 5000) (hb9 : 9 ≤ bb) (kk : ∀ (N : Mt) (L' : Lt), RelD (bb + 8) N L' → LW X 1174 k [] (wOf N L')) : LW X 1151 k [] (wOf M L) := by
  obtain ⟨zt, hzt, tx1, tx2⟩ := hA.1
  obtain ⟨m, hm, se1, se2, hRs⟩ := id hSn
  obtain ⟨n, c, pw, hH, ⟨na, nx, ra, hAc⟩, hk0, rk0, hSl⟩ := id hR
  obtain ⟨hn, gu1, gu2, hc1, hc2, hp1, hp2, hok⟩ := id hH
  obtain ⟨T, hTx, hTm⟩ := tl_ex hI hA.2.2.1
  have ho1 : ∀ t, t < 3 → M 67 t = M 67 t := fun t _ => rfl
  have ho8 : ∀ t, t < 3 → M 85 t = M 67 t := fun t ht => (hA.2.2.2.2 t ht).symm
  obtain ⟨on, on8, hon⟩ := od_nat hI
  have on1 : ∀ t, t < 3 → M 67 t = nI (on t) := fun t ht => (hA.2.2.2.2 t ht).trans (on8 t ht)
  refine L_x hX 1152 (by decide +kernel) ?_
  refine L_scr hX 1 1157 (by decide +kernel) (by omega) (by decide) ?_
  refine L_callV1 hX 109 7 2 1160 (by decide +kernel) sh_0 (Nat.le_of_ble_eq_true rfl) (by decide) ?_
  refine k_109 hI  (by decide) (fun r1 hr1 => ?_)
  dsimp only [Option.toList, List.cons_append, List.nil_append]
  refine L_pure hX .pop 1161 (by decide +kernel) rfl ?_
  refine L_m hX 1162 (by decide +kernel) ?_
  refine L_scr hX 1 1167 (by decide +kernel) (by omega) (by decide) ?_
  refine L_callV1 hX 199 8 5 1170 (by decide +kernel) sh_76 (Nat.le_of_ble_eq_true rfl) (by decide) ?_
  refine k_199 hI  (by decide) (fun r2 hr2 => ?_)
  dsimp only [Option.toList, List.cons_append, List.nil_append]
  have hA2 := hA.keep (fun i k hc => rfl)
  have hR2 := hR.keep (fun i k hc => rfl)
  have hN2 := hSn.keep (fun i k hc => rfl)
  have hB2 := (hbd.keep (fun i k hc => rfl)).mono (Nat.le_add_right bb 8)
  have hL2 := hL
  refine L_pure hX .pop 1171 (by decide +kernel) rfl ?_
  refine L_goto hX 1174 (by decide +kernel) ?_
  exact kk _ _ ⟨⟨⟨hI, hA2, hR2, hL2⟩, hN2⟩, hB2, by omega⟩
set_option maxRecDepth 10000 in
theorem law_step {X : Lx} {k : Nat} {M : Mt} {L : Lt} (hX : X.ok) (hk : k + 5 ≤ X.n) {bb : Nat} (hRB : RelD bb M L) (hbb : bb < 5000) (kk : ∀ (N : Mt) (L' : Lt), RelD (bb + 8) N L' → LW X 1174 k [] (wOf N L')) : LW X 26 k [] (wOf M L) := by
  obtain ⟨⟨⟨hI, hA, hR, hL⟩, hSn⟩, hbd, hb9⟩ := hRB
  refine L_scr0 hX 29 (by decide +kernel) (by omega) ?_
  refine L_pure hX (.bipush 63) 31 (by decide +kernel) rfl ?_
  refine L_pure hX .iand 32 (by decide +kernel) rfl ?_
  refine L_tab hX (len := 152) (show lins 32 = some (.tableswitch 1142 0 33 #[152, 175, 188, 201, 214, 247, 270, 293, 326, 349, 372, 405, 418, 451, 484, 527, 580, 603, 652, 675, 698, 741, 774, 797, 840, 889, 922, 935, 948, 997, 1050, 1073, 1096, 1119], 152) by decide +kernel) (fun _ => ⟨1174, rfl, kk _ _ ⟨⟨⟨hI, hA, hR, hL⟩, hSn⟩, hbd.mono (Nat.le_add_right bb 8), by omega⟩⟩) (fun z hz hzb => ?_)
  rcases (by omega : z = 0 ∨ z = 1 ∨ z = 2 ∨ z = 3 ∨ z = 4 ∨ z = 5 ∨ z = 6 ∨ z = 7 ∨ z = 8 ∨ z = 9 ∨ z = 10 ∨ z = 11 ∨ z = 12 ∨ z = 13 ∨ z = 14 ∨ z = 15 ∨ z = 16 ∨ z = 17 ∨ z = 18 ∨ z = 19 ∨ z = 20 ∨ z = 21 ∨ z = 22 ∨ z = 23 ∨ z = 24 ∨ z = 25 ∨ z = 26 ∨ z = 27 ∨ z = 28 ∨ z = 29 ∨ z = 30 ∨ z = 31 ∨ z = 32 ∨ z = 33) with rfl | rfl | rfl | rfl | rfl | rfl | rfl | rfl | rfl | rfl | rfl | rfl | rfl | rfl | rfl | rfl | rfl | rfl | rfl | rfl | rfl | rfl | rfl | rfl | rfl | rfl | rfl | rfl | rfl | rfl | rfl | rfl | rfl | rfl
  · exact ⟨_, 184, rfl, rfl, case_0 hX hk hI hA hR hL hSn hbd hbb hb9 kk⟩
  · exact ⟨_, 207, rfl, rfl, case_1 hX hk hI hA hR hL hSn hbd hbb hb9 kk⟩
  · exact ⟨_, 220, rfl, rfl, case_2 hX hk hI hA hR hL hSn hbd hbb hb9 kk⟩
  · exact ⟨_, 233, rfl, rfl, case_3 hX hk hI hA hR hL hSn hbd hbb hb9 kk⟩
  · exact ⟨_, 246, rfl, rfl, case_4 hX hk hI hA hR hL hSn hbd hbb hb9 kk⟩
  · exact ⟨_, 279, rfl, rfl, case_5 hX hk hI hA hR hL hSn hbd hbb hb9 kk⟩
  · exact ⟨_, 302, rfl, rfl, case_6 hX hk hI hA hR hL hSn hbd hbb hb9 kk⟩
  · exact ⟨_, 325, rfl, rfl, case_7 hX hk hI hA hR hL hSn hbd hbb hb9 kk⟩
  · exact ⟨_, 358, rfl, rfl, case_8 hX hk hI hA hR hL hSn hbd hbb hb9 kk⟩
  · exact ⟨_, 381, rfl, rfl, case_9 hX hk hI hA hR hL hSn hbd hbb hb9 kk⟩
  · exact ⟨_, 404, rfl, rfl, case_10 hX hk hI hA hR hL hSn hbd hbb hb9 kk⟩
  · exact ⟨_, 437, rfl, rfl, case_11 hX hk hI hA hR hL hSn hbd hbb hb9 kk⟩
  · exact ⟨_, 450, rfl, rfl, case_12 hX hk hI hA hR hL hSn hbd hbb hb9 kk⟩
  · exact ⟨_, 483, rfl, rfl, case_13 hX hk hI hA hR hL hSn hbd hbb hb9 kk⟩
  · exact ⟨_, 516, rfl, rfl, case_14 hX hk hI hA hR hL hSn hbd hbb hb9 kk⟩
  · exact ⟨_, 559, rfl, rfl, case_15 hX hk hI hA hR hL hSn hbd hbb hb9 kk⟩
  · exact ⟨_, 612, rfl, rfl, case_16 hX hk hI hA hR hL hSn hbd hbb hb9 kk⟩
  · exact ⟨_, 635, rfl, rfl, case_17 hX hk hI hA hR hL hSn hbd hbb hb9 kk⟩
  · exact ⟨_, 684, rfl, rfl, case_18 hX hk hI hA hR hL hSn hbd hbb hb9 kk⟩
  · exact ⟨_, 707, rfl, rfl, case_19 hX hk hI hA hR hL hSn hbd hbb hb9 kk⟩
  · exact ⟨_, 730, rfl, rfl, case_20 hX hk hI hA hR hL hSn hbd hbb hb9 kk⟩
  · exact ⟨_, 773, rfl, rfl, case_21 hX hk hI hA hR hL hSn hbd hbb hb9 kk⟩
  · exact ⟨_, 806, rfl, rfl, case_22 hX hk hI hA hR hL hSn hbd hbb hb9 kk⟩
  · exact ⟨_, 829, rfl, rfl, case_23 hX hk hI hA hR hL hSn hbd hbb hb9 kk⟩
  · exact ⟨_, 872, rfl, rfl, case_24 hX hk hI hA hR hL hSn hbd hbb hb9 kk⟩
  · exact ⟨_, 921, rfl, rfl, case_25 hX hk hI hA hR hL hSn hbd hbb hb9 kk⟩
  · exact ⟨_, 954, rfl, rfl, case_26 hX hk hI hA hR hL hSn hbd hbb hb9 kk⟩
  · exact ⟨_, 967, rfl, rfl, case_27 hX hk hI hA hR hL hSn hbd hbb hb9 kk⟩
  · exact ⟨_, 980, rfl, rfl, case_28 hX hk hI hA hR hL hSn hbd hbb hb9 kk⟩
  · exact ⟨_, 1029, rfl, rfl, case_29 hX hk hI hA hR hL hSn hbd hbb hb9 kk⟩
  · exact ⟨_, 1082, rfl, rfl, case_30 hX hk hI hA hR hL hSn hbd hbb hb9 kk⟩
  · exact ⟨_, 1105, rfl, rfl, case_31 hX hk hI hA hR hL hSn hbd hbb hb9 kk⟩
  · exact ⟨_, 1128, rfl, rfl, case_32 hX hk hI hA hR hL hSn hbd hbb hb9 kk⟩
  · exact ⟨_, 1151, rfl, rfl, case_33 hX hk hI hA hR hL hSn hbd hbb hb9 kk⟩
theorem law_loop {X : Lx} (hX : X.ok) : ∀ (f k bb : Nat) (M : Mt) (L : Lt), X.n < k + 5 * f → k ≤ X.n + 5 → bb + 8 * f < 5000 → RelD bb M L → LW X 18 k [] (wOf M L) := by
  intro f
  induction f with
  | zero =>
    intro k bb M L hf hk hbf hR
    refine L_head hX 1180 26 (by decide +kernel) (by have := hX.2.2.2.2.2; omega) (L_end hX (by decide +kernel)) (fun h => ?_)
    omega
  | succ f ih =>
    intro k bb M L hf hk hbf hR
    refine L_head hX 1180 26 (by decide +kernel) (by have := hX.2.2.2.2.2; omega) (L_end hX (by decide +kernel)) (fun h => ?_)
    refine law_step hX h hR (by omega) (fun N L' hN => ?_)
    refine L_inc hX 1177 (by decide +kernel) ?_
    refine L_goto hX 18 (by decide +kernel) ?_
    exact ih (k + 5) (bb + 8) N L' (by omega) (by omega) (by omega) hN
