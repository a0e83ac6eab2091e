/-! THE LAW: its start, the first coupling, the whole run. Rows laid by a program (wip/whole/gen/law2.py). -/
def cellv (g : Nat → Int32) (L j : Nat) : Int32 := if L ≤ j then nI 0 else g j
set_option maxRecDepth 100000 in
theorem i_cell {L k j : Nat} {F G : FN} {R O : RN} (hL : L ≤ 2563) (hk : 0 < k) (hj : j < 3) {Q : Option PV → PH → Prop} (kn : Q (some (.inl (cellv (G 0) L j))) (hb ((sL L).take k) F G R O)) : pz pP mSBLaw_cell [.inr (some 0), .inl (nI j)] (hb ((sL L).take k) F G R O) Q := by
  show pw pP mSBLaw_cell (0, [some (.inr (some 0)), some (.inl (nI j))], [], 0, 0, hb ((sL L).take k) F G R O) _
  refine pw_iload_n rfl rfl ?_
  refine pw_aload_n rfl rfl ?_
  refine px_alen (v := nI L) rfl (tk_at rfl hk) (by decide) rfl ?_
  refine pw_if2p (cn_ge (by omega) (by omega)) rfl (t := 12) rfl (fun c => ?_) (fun c => ?_)
  · refine pw_iconst (v := nI 0) rfl (by decide) ?_
    rw [show cellv (G 0) L j = nI 0 from if_pos c] at kn
    exact pw_iret rfl rfl (Nat.zero_le _) (Nat.zero_le _) rfl kn
  · refine pw_aload_n rfl rfl ?_
    refine pw_iload_n rfl rfl ?_
    refine px_saldn (x := G 0 j) rfl (tk_at rfl hk) (by omega) (by omega) rfl ?_
    refine pw_goto (t := 13) rfl rfl ?_
    rw [show cellv (G 0) L j = G 0 j from if_neg c] at kn
    exact pw_iret rfl rfl (Nat.zero_le _) (Nat.zero_le _) rfl kn
set_option maxRecDepth 100000 in
theorem lw_start {L : Nat} {F G : FN} {R O : RN} (hL : L ≤ 2563) (hz : fz 1 F G R O) {Q : Option PV → PH → Prop} (k : pw pP mSBLaw_law (48, [some (.inr (some (0))), some (.inr (some (1))), some (.inr (some (103))), some (.inl (nI (3)))], [], 130, 14975, hb ((sL L).take (131)) (iFm (iFb F (cellv (G 0) L 0) (cellv (G 0) L 1) (cellv (G 0) L 2)) (cellv (G 0) L 0) (cellv (G 0) L 1) (cellv (G 0) L 2)) (iGm G) (iRb R) (iOm (iOb O))) Q) : pz pP mSBLaw_law [.inr (some 0)] (hb ((sL L).take (1)) F G R O) Q := by
  show pw pP mSBLaw_law (0, [some (.inr (some (0))), none, none, none], [], 0, 0, hb ((sL L).take (1)) F G R O) _
  refine px_new rfl rfl rfl (Nat.le_of_ble_eq_true rfl) (Nat.le_of_ble_eq_true rfl) rfl (by omega) rfl (fz_le hz (by omega)) ?_
  show pw pP mSBLaw_law (3, [some (.inr (some (0))), none, none, none], [.inr (some (1))], 1, 6, hb ((sL L).take (2)) F G R O) _
  refine pw_dup rfl ?_
  refine pw_aload_n rfl rfl ?_
  refine pw_iconst (v := nI (0)) rfl (by decide) ?_
  refine pw_calls (as := [.inr (some (0)), .inl (nI (0))]) (rest := [.inr (some (1)), .inr (some (1))]) rfl rfl (by decide) rfl (Nat.le_of_ble_eq_true rfl) (Nat.le_of_ble_eq_true rfl) (Nat.le_of_ble_eq_true rfl) (Nat.le_of_ble_eq_true rfl) rfl rfl ?_
  refine i_cell hL (by omega) (by omega) ?_
  show pw pP mSBLaw_law (9, [some (.inr (some (0))), none, none, none], [.inl ((cellv (G 0) L 0)), .inr (some (1)), .inr (some (1))], 1, 6, hb ((sL L).take (2)) F G R O) _
  refine pw_aload_n rfl rfl ?_
  refine pw_iconst (v := nI (1)) rfl (by decide) ?_
  refine pw_calls (as := [.inr (some (0)), .inl (nI (1))]) (rest := [.inl ((cellv (G 0) L 0)), .inr (some (1)), .inr (some (1))]) rfl rfl (by decide) rfl (Nat.le_of_ble_eq_true rfl) (Nat.le_of_ble_eq_true rfl) (Nat.le_of_ble_eq_true rfl) (Nat.le_of_ble_eq_true rfl) rfl rfl ?_
  refine i_cell hL (by omega) (by omega) ?_
  show pw pP mSBLaw_law (14, [some (.inr (some (0))), none, none, none], [.inl ((cellv (G 0) L 1)), .inl ((cellv (G 0) L 0)), .inr (some (1)), .inr (some (1))], 1, 6, hb ((sL L).take (2)) F G R O) _
  refine pw_aload_n rfl rfl ?_
  refine pw_iconst (v := nI (2)) rfl (by decide) ?_
  refine pw_calls (as := [.inr (some (0)), .inl (nI (2))]) (rest := [.inl ((cellv (G 0) L 1)), .inl ((cellv (G 0) L 0)), .inr (some (1)), .inr (some (1))]) rfl rfl (by decide) rfl (Nat.le_of_ble_eq_true rfl) (Nat.le_of_ble_eq_true rfl) (Nat.le_of_ble_eq_true rfl) (Nat.le_of_ble_eq_true rfl) rfl rfl ?_
  refine i_cell hL (by omega) (by omega) ?_
  show pw pP mSBLaw_law (19, [some (.inr (some (0))), none, none, none], [.inl ((cellv (G 0) L 2)), .inl ((cellv (G 0) L 1)), .inl ((cellv (G 0) L 0)), .inr (some (1)), .inr (some (1))], 1, 6, hb ((sL L).take (2)) F G R O) _
  refine pw_calli (as := [.inr (some (1)), .inl ((cellv (G 0) L 0)), .inl ((cellv (G 0) L 1)), .inl ((cellv (G 0) L 2))]) (rest := [.inr (some (1))]) rfl rfl (by decide) (Nat.le_of_ble_eq_true rfl) (Nat.le_of_ble_eq_true rfl) (Nat.le_of_ble_eq_true rfl) (Nat.le_of_ble_eq_true rfl) rfl rfl rfl ?_
  refine i_sb (fz_le hz (by omega)) ?_
  show pw pP mSBLaw_law (22, [some (.inr (some (0))), none, none, none], [.inr (some (1))], 102, 3746, hb ((sL L).take (103)) (iFb F (cellv (G 0) L 0) (cellv (G 0) L 1) (cellv (G 0) L 2)) G (iRb R) (iOb O)) _
  refine pw_astore_n (ls1 := [some (.inr (some (0))), some (.inr (some (1))), none, none]) rfl (Nat.le_of_ble_eq_true rfl) rfl ?_
  refine px_new rfl rfl rfl (Nat.le_of_ble_eq_true rfl) (Nat.le_of_ble_eq_true rfl) rfl (by omega) rfl (fz_le (i_sb_fz (L := L) (mss := (cellv (G 0) L 0)) (buf := (cellv (G 0) L 1)) (key := (cellv (G 0) L 2)) (fz_le hz (by omega))) (by omega)) ?_
  show pw pP mSBLaw_law (26, [some (.inr (some (0))), some (.inr (some (1))), none, none], [.inr (some (103))], 103, 3785, hb ((sL L).take (104)) (iFb F (cellv (G 0) L 0) (cellv (G 0) L 1) (cellv (G 0) L 2)) G (iRb R) (iOb O)) _
  refine pw_dup rfl ?_
  refine pw_aload_n rfl rfl ?_
  refine pw_iconst (v := nI (0)) rfl (by decide) ?_
  refine pw_calls (as := [.inr (some (0)), .inl (nI (0))]) (rest := [.inr (some (103)), .inr (some (103))]) rfl rfl (by decide) rfl (Nat.le_of_ble_eq_true rfl) (Nat.le_of_ble_eq_true rfl) (Nat.le_of_ble_eq_true rfl) (Nat.le_of_ble_eq_true rfl) rfl rfl ?_
  refine i_cell hL (by omega) (by omega) ?_
  show pw pP mSBLaw_law (32, [some (.inr (some (0))), some (.inr (some (1))), none, none], [.inl ((cellv (G 0) L 0)), .inr (some (103)), .inr (some (103))], 103, 3785, hb ((sL L).take (104)) (iFb F (cellv (G 0) L 0) (cellv (G 0) L 1) (cellv (G 0) L 2)) G (iRb R) (iOb O)) _
  refine pw_aload_n rfl rfl ?_
  refine pw_iconst (v := nI (1)) rfl (by decide) ?_
  refine pw_calls (as := [.inr (some (0)), .inl (nI (1))]) (rest := [.inl ((cellv (G 0) L 0)), .inr (some (103)), .inr (some (103))]) rfl rfl (by decide) rfl (Nat.le_of_ble_eq_true rfl) (Nat.le_of_ble_eq_true rfl) (Nat.le_of_ble_eq_true rfl) (Nat.le_of_ble_eq_true rfl) rfl rfl ?_
  refine i_cell hL (by omega) (by omega) ?_
  show pw pP mSBLaw_law (37, [some (.inr (some (0))), some (.inr (some (1))), none, none], [.inl ((cellv (G 0) L 1)), .inl ((cellv (G 0) L 0)), .inr (some (103)), .inr (some (103))], 103, 3785, hb ((sL L).take (104)) (iFb F (cellv (G 0) L 0) (cellv (G 0) L 1) (cellv (G 0) L 2)) G (iRb R) (iOb O)) _
  refine pw_aload_n rfl rfl ?_
  refine pw_iconst (v := nI (2)) rfl (by decide) ?_
  refine pw_calls (as := [.inr (some (0)), .inl (nI (2))]) (rest := [.inl ((cellv (G 0) L 1)), .inl ((cellv (G 0) L 0)), .inr (some (103)), .inr (some (103))]) rfl rfl (by decide) rfl (Nat.le_of_ble_eq_true rfl) (Nat.le_of_ble_eq_true rfl) (Nat.le_of_ble_eq_true rfl) (Nat.le_of_ble_eq_true rfl) rfl rfl ?_
  refine i_cell hL (by omega) (by omega) ?_
  show pw pP mSBLaw_law (42, [some (.inr (some (0))), some (.inr (some (1))), none, none], [.inl ((cellv (G 0) L 2)), .inl ((cellv (G 0) L 1)), .inl ((cellv (G 0) L 0)), .inr (some (103)), .inr (some (103))], 103, 3785, hb ((sL L).take (104)) (iFb F (cellv (G 0) L 0) (cellv (G 0) L 1) (cellv (G 0) L 2)) G (iRb R) (iOb O)) _
  refine pw_calli (as := [.inr (some (103)), .inl ((cellv (G 0) L 0)), .inl ((cellv (G 0) L 1)), .inl ((cellv (G 0) L 2))]) (rest := [.inr (some (103))]) rfl rfl (by decide) (Nat.le_of_ble_eq_true rfl) (Nat.le_of_ble_eq_true rfl) (Nat.le_of_ble_eq_true rfl) (Nat.le_of_ble_eq_true rfl) rfl rfl rfl ?_
  refine i_model (fz_le (i_sb_fz (L := L) (mss := (cellv (G 0) L 0)) (buf := (cellv (G 0) L 1)) (key := (cellv (G 0) L 2)) (fz_le hz (by omega))) (by omega)) ?_
  show pw pP mSBLaw_law (45, [some (.inr (some (0))), some (.inr (some (1))), none, none], [.inr (some (103))], 130, 14975, hb ((sL L).take (131)) (iFm (iFb F (cellv (G 0) L 0) (cellv (G 0) L 1) (cellv (G 0) L 2)) (cellv (G 0) L 0) (cellv (G 0) L 1) (cellv (G 0) L 2)) (iGm G) (iRb R) (iOm (iOb O))) _
  refine pw_astore_n (ls1 := [some (.inr (some (0))), some (.inr (some (1))), some (.inr (some (103))), none]) rfl (Nat.le_of_ble_eq_true rfl) rfl ?_
  refine pw_iconst (v := nI (3)) rfl (by decide) ?_
  refine pw_istore_n (ls1 := [some (.inr (some (0))), some (.inr (some (1))), some (.inr (some (103))), some (.inl (nI (3)))]) rfl (Nat.le_of_ble_eq_true rfl) rfl ?_
  exact k
/-! the memory at the start -/
def zF : FN := fun _ _ => 0
def zG (xs : Nat → Int32) : FN := fun i => match i with
  | 0 => xs
  | _ + 1 => fun _ => 0
def zR : RN := fun _ _ => none
set_option maxRecDepth 100000 in
theorem z_fz (xs : Nat → Int32) : fz 1 zF (zG xs) zR zR := fun i a => by
  refine ⟨rfl, ?_, rfl, rfl⟩
  cases i with
  | zero => omega
  | succ i => rfl
set_option maxRecDepth 100000 in
theorem hb_z {L : Nat} {xs : Nat → Int32} : [Sum.inl (2, L, xs)] = hb ((sL L).take 1) zF (zG xs) zR zR := rfl
def O1 : RN := iOm (iOb zR)
def R1 : RN := iRb zR
set_option maxRecDepth 100000 in
theorem O1_all : ∀ i, i < 131 → ∀ k, k < 39 → O1 i k = sO i k := by decide +kernel
set_option maxRecDepth 100000 in
theorem sL_tg (L : Nat) : (sL L).all (fun s => Nat.ble s.2.2.1.length 39) = true := rfl
set_option maxRecDepth 100000 in
theorem hb_O {L : Nat} {F G : FN} {R : RN} : hb ((sL L).take 131) F G R O1 = hb (sL L) F G R sO := by
  rw [List.take_of_length_le (by rw [sL_len]; exact Nat.le_refl _)]
  apply List.ext_getElem?
  intro i
  unfold hb
  rw [List.getElem?_mapIdx, List.getElem?_mapIdx]
  cases e : (sL L)[i]? with
  | none => rfl
  | some s =>
    have hi : i < 131 := by
      have := (List.getElem?_eq_some_iff.mp e).1
      rwa [sL_len] at this
    have hs : s.2.2.1.length ≤ 39 := by
      have h1 := List.all_eq_true.mp (sL_tg L) s (List.mem_of_getElem? e)
      exact Nat.le_of_ble_eq_true h1
    show some (bcell i s F G R O1) = some (bcell i s F G R sO)
    congr 1
    have key : s.2.2.1.mapIdx (fun k t => bf t (F i k) (O1 i k)) = s.2.2.1.mapIdx (fun k t => bf t (F i k) (sO i k)) := by
      apply List.ext_getElem?
      intro j
      rw [List.getElem?_mapIdx, List.getElem?_mapIdx]
      cases e2 : s.2.2.1[j]? with
      | none => rfl
      | some t =>
        have hj : j < 39 := Nat.lt_of_lt_of_le (List.getElem?_eq_some_iff.mp e2).1 hs
        show some _ = some _
        rw [O1_all i hi j hj]
    unfold bcell
    rw [key]
set_option maxRecDepth 100000 in
theorem R1_4 : ∀ p, p < 4 → R1 4 p = some (5 + 21 * p) := by decide +kernel
set_option maxRecDepth 100000 in
theorem R1_93 : ∀ p, p < 4 → R1 93 p = some (95 + 2 * p) := by decide +kernel
set_option maxRecDepth 100000 in
theorem R1_s1 : ∀ p, p < 4 → ∀ k, k < 3 → R1 (5 + 21 * p + 17) k = some (rx R1 (5 + 21 * p + 17) k) ∧ 5 + 21 * p + 18 ≤ rx R1 (5 + 21 * p + 17) k ∧ rx R1 (5 + 21 * p + 17) k ≤ 5 + 21 * p + 20 := by decide +kernel
set_option maxRecDepth 100000 in
theorem R1_s2 : ∀ p, p < 4 → ∀ j, j < 3 → ∀ k, k < 3 → rx R1 (5 + 21 * p + 17) j = rx R1 (5 + 21 * p + 17) k → j = k := by decide +kernel
set_option maxRecDepth 100000 in
theorem R1_f1 : ∀ p, p < 4 → ∀ k, k < 6 → R1 (5 + 21 * p + 1 + 1) k = some (rx R1 (5 + 21 * p + 1 + 1) k) ∧ 5 + 21 * p + 1 + 2 ≤ rx R1 (5 + 21 * p + 1 + 1) k ∧ rx R1 (5 + 21 * p + 1 + 1) k ≤ 5 + 21 * p + 1 + 7 := by decide +kernel
set_option maxRecDepth 100000 in
theorem R1_f2 : ∀ p, p < 4 → ∀ j, j < 6 → ∀ k, k < 6 → rx R1 (5 + 21 * p + 1 + 1) j = rx R1 (5 + 21 * p + 1 + 1) k → j = k := by decide +kernel
set_option maxRecDepth 100000 in
theorem R1_b1 : ∀ p, p < 4 → ∀ k, k < 6 → R1 (5 + 21 * p + 9 + 1) k = some (rx R1 (5 + 21 * p + 9 + 1) k) ∧ 5 + 21 * p + 9 + 2 ≤ rx R1 (5 + 21 * p + 9 + 1) k ∧ rx R1 (5 + 21 * p + 9 + 1) k ≤ 5 + 21 * p + 9 + 7 := by decide +kernel
set_option maxRecDepth 100000 in
theorem R1_b2 : ∀ p, p < 4 → ∀ j, j < 6 → ∀ k, k < 6 → rx R1 (5 + 21 * p + 9 + 1) j = rx R1 (5 + 21 * p + 9 + 1) k → j = k := by decide +kernel
set_option maxRecDepth 100000 in
theorem RW_1 : RW R1 := RW.mk R1_4 R1_93 (fun p hp => ⟨R1_s1 p hp, fun j k hj hk => R1_s2 p hp j hj k hk⟩) (fun p hp => ⟨R1_f1 p hp, fun j k hj hk => R1_f2 p hp j hj k hk⟩) (fun p hp => ⟨R1_b1 p hp, fun j k hj hk => R1_b2 p hp j hj k hk⟩)
/-! clamping -/
set_option maxRecDepth 100000 in
theorem clamp_g {l m : Nat} (hlm : l ≤ m) (hm : m < 2 ^ 31) (X : Int32) : tcl X l m = cclamp_r X (nI l) (nI m) ∧ ∃ n, l ≤ n ∧ n ≤ m ∧ cclamp_r X (nI l) (nI m) = nI n := by
  unfold tcl cclamp_r
  by_cases hx : X < 0
  · have h0 : X.toInt < 0 := Int32.lt_iff_toInt_lt.mp hx
    have h1 : (nI l).toInt = (l : Int) := nI_toInt (by omega)
    have h2 : (nI m).toInt = (m : Int) := nI_toInt (by omega)
    have a1 : ¬ nI l ≤ X := fun q => by have := Int32.le_iff_toInt_le.mp q; omega
    have a2 : X < nI m := Int32.lt_iff_toInt_lt.mpr (by omega)
    have a3 : ¬ nI l < X := fun q => by have := Int32.lt_iff_toInt_lt.mp q; omega
    rw [if_neg a1, if_pos a2, if_neg a3]
    exact ⟨rfl, l, Nat.le_refl _, hlm, rfl⟩
  · obtain ⟨j, hj, rfl⟩ := nI_of hx
    by_cases c1 : l ≤ j
    · rw [if_pos ((nI_leI (by omega) hj).mpr c1)]
      by_cases c2 : j < m
      · rw [if_pos ((nI_leI hj hm).mpr (by omega)), if_pos ((nI_ltI hj hm).mpr c2)]
        by_cases c3 : l < j
        · rw [if_pos ((nI_ltI (by omega) hj).mpr c3)]
          exact ⟨rfl, j, c1, by omega, rfl⟩
        · rw [if_neg (fun q => c3 ((nI_ltI (by omega) hj).mp q)), show j = l from by omega]
          exact ⟨rfl, l, by omega, hlm, rfl⟩
      · rw [if_neg (show ¬ nI j < nI m from fun q => c2 ((nI_ltI hj hm).mp q))]
        have e1 : (if nI j ≤ nI m then nI j else nI m) = nI m := by
          by_cases c3 : j ≤ m
          · rw [if_pos ((nI_leI hj hm).mpr c3), show j = m from by omega]
          · rw [if_neg (fun q => c3 ((nI_leI hj hm).mp q))]
        have e2 : (if nI l < nI m then nI m else nI l) = nI m := by
          by_cases c3 : l < m
          · rw [if_pos ((nI_ltI (by omega) hm).mpr c3)]
          · rw [if_neg (fun q => c3 ((nI_ltI (by omega) hm).mp q)), show l = m from by omega]
        rw [e1, e2]
        exact ⟨rfl, m, hlm, Nat.le_refl _, rfl⟩
    · rw [if_neg (fun q => c1 ((nI_leI (by omega) hj).mp q)), if_pos (show nI j < nI m from (nI_ltI hj hm).mpr (by omega)), if_neg (show ¬ nI l < nI j from fun q => by rw [nI_ltI (by omega) hj] at q; omega)]
      exact ⟨rfl, l, Nat.le_refl _, hlm, rfl⟩
/-! the first coupling -/
def F1 (a b c : Int32) : FN := iFm (iFb zF a b c) a b c
def G1 (xs : Nat → Int32) : FN := iGm (zG xs)
def γ0 : PG := PG.mk 0 16 0 0 0 0 0 0 (fun _ => 0) (fun _ => 0) (fun _ => 0) (fun _ => 0) (fun _ => 0) (fun _ => 0)
set_option maxRecDepth 100000 in
theorem cnz_0 : ∀ n, cnz (fun _ => 0) n = 0
  | 0 => rfl
  | n + 1 => by rw [cnz, cnz_0 n]; rfl
set_option maxRecDepth 100000 in
theorem G1_z {xs : Nat → Int32} {i k : Nat} (h0 : ¬ i = 0) (h1 : ¬ i = 110) : G1 xs i k = 0 := by
  unfold G1 iGm
  rw [up2_ne (by omega), up2_ne (by omega), up2_ne (by omega), up2_ne (by omega)]
  cases i with
  | zero => exact absurd rfl h0
  | succ i => rfl
set_option maxRecDepth 100000 in
theorem CX_1 {a b c : Int32} {xs : Nat → Int32} {p : Nat} (hp : p < 4) : CX 0 0 p γ0 (F1 a b c) R1 (G1 xs) := by
  have z : ∀ P : Prop, ∀ j, j < 0 → P := fun P j hj => absurd hj (Nat.not_lt_zero j)
  have gz : ∀ i k, ¬ i = 0 → ¬ i = 110 → G1 xs i k = nI 0 := fun i k a b => (G1_z a b).trans nI_0.symm
  have hpp : p = 0 ∨ p = 1 ∨ p = 2 ∨ p = 3 := by omega
  refine CX.mk ?_ ?_ (gz _ _ (by omega) (by omega)) (gz _ _ (by omega) (by omega)) ?_ (gz _ _ (by omega) (by omega)) ?_ ?_ ?_ ?_ ?_ (gz _ _ (by omega) (by omega)) ?_ ?_ ?_ ?_ (by show 0 ≤ 3; omega) (Nat.le_refl _) (by show 0 ≤ 402; omega) (by show 0 ≤ 4; omega) (by show 6 ≤ 16; omega) (by show 16 ≤ 120; omega) (Nat.zero_le _) (fun e => absurd rfl e) (fun _ => rfl) (fun e => absurd rfl e) (fun _ => rfl) (fun j hj => z _ j hj) (fun j hj => z _ j hj) (fun j hj => z _ j hj) (fun j hj => z _ j hj) (fun j hj => z _ j hj) (fun m _ _ => gz _ _ (by omega) (by omega)) (fun m _ _ => gz _ _ (by omega) (by omega)) (fun _ e => absurd e (Nat.lt_irrefl 0)) (fun _ _ => rfl) (fun j hj => z _ (j + 1) hj) (fun j hj => absurd hj (Nat.succ_ne_zero j)) (fun j hj => z _ j hj) (fun j hj => z _ j hj) (fun j hj => z _ j hj) (fun u hu => gz _ _ (by omega) (by omega)) (fun u hu e => absurd e (Nat.lt_irrefl 0)) ?_
  · rcases hpp with rfl | rfl | rfl | rfl <;> rfl
  · rcases hpp with rfl | rfl | rfl | rfl <;> rfl
  · rcases hpp with rfl | rfl | rfl | rfl <;> rfl
  · rw [G1_z (by omega) (by omega)]
    rcases hpp with rfl | rfl | rfl | rfl <;> rfl
  · rw [G1_z (by omega) (by omega)]
    rcases hpp with rfl | rfl | rfl | rfl <;> rfl
  · rcases hpp with rfl | rfl | rfl | rfl <;> rfl
  · rcases hpp with rfl | rfl | rfl | rfl <;> rfl
  · rcases hpp with rfl | rfl | rfl | rfl <;> rfl
  · rw [G1_z (by omega) (by omega)]
    rcases hpp with rfl | rfl | rfl | rfl <;> rfl
  · rw [G1_z (by omega) (by omega)]
    rcases hpp with rfl | rfl | rfl | rfl <;> rfl
  · rw [G1_z (by omega) (by omega)]
    rcases hpp with rfl | rfl | rfl | rfl <;> rfl
  · rw [G1_z (by omega) (by omega)]
    rcases hpp with rfl | rfl | rfl | rfl <;> rfl
  · show cnz (fun _ => 0) 401 + (if 0 = 0 then 0 else 1) = 0
    rw [cnz_0]
    rfl
set_option maxRecDepth 100000 in
theorem CY_1 {a b c : Int32} {xs : Nat → Int32} {p : Nat} (hp : p < 4) : CY 0 p γ0 (F1 a b c) R1 (G1 xs) := by
  have gz : ∀ i k, ¬ i = 0 → ¬ i = 110 → G1 xs i k = nI 0 := fun i k a b => (G1_z a b).trans nI_0.symm
  have hpp : p = 0 ∨ p = 1 ∨ p = 2 ∨ p = 3 := by omega
  refine CY.mk ⟨Nat.zero_le _, ?_, gz _ _ (by omega) (by omega), fun k hk => absurd hk (Nat.not_lt_zero k)⟩ ⟨Nat.zero_le _, ?_, gz _ _ (by omega) (by omega), fun k hk => absurd hk (Nat.not_lt_zero k)⟩ (fun k hk => absurd hk (Nat.not_lt_zero k)) (fun k hk => absurd hk (Nat.not_lt_zero k)) (fun _ => ⟨rfl, rfl⟩)
  · rcases hpp with rfl | rfl | rfl | rfl <;> rfl
  · rcases hpp with rfl | rfl | rfl | rfl <;> rfl
set_option maxRecDepth 100000 in
theorem F1_1 {a b c : Int32} : F1 a b c 89 2 = cclamp_r a (nI 1) (nI 7) := rfl
set_option maxRecDepth 100000 in
theorem F1_2 {a b c : Int32} : F1 a b c 103 0 = tcl a 1 7 := rfl
set_option maxRecDepth 100000 in
theorem F1_3 {a b c : Int32} : F1 a b c 92 1 = cclamp_r b (nI 4) (nI 56) := rfl
set_option maxRecDepth 100000 in
theorem F1_4 {a b c : Int32} : F1 a b c 103 1 = tcl b 4 56 := rfl
set_option maxRecDepth 100000 in
theorem F1_5 {a b c : Int32} : F1 a b c 89 6 = cclamp_r b (nI 4) (nI 56) := rfl
set_option maxRecDepth 100000 in
theorem F1_6 {a b c : Int32} : F1 a b c 103 23 = tcl b 4 56 := rfl
set_option maxRecDepth 100000 in
theorem F1_7 {a b c : Int32} : F1 a b c 1 5 = nI 0 := rfl
set_option maxRecDepth 100000 in
theorem F1_8 {a b c : Int32} : F1 a b c 103 3 = nI 0 := rfl
set_option maxRecDepth 100000 in
theorem F1_9 {a b c : Int32} : F1 a b c 2 1 = nI 0 := rfl
set_option maxRecDepth 100000 in
theorem F1_10 {a b c : Int32} : F1 a b c 2 2 = nI 0 := rfl
set_option maxRecDepth 100000 in
theorem F1_11 {a b c : Int32} : F1 a b c 103 6 = nI 0 := rfl
set_option maxRecDepth 100000 in
theorem F1_12 {a b c : Int32} : F1 a b c 103 5 = nI 0 := rfl
set_option maxRecDepth 100000 in
theorem F1_13 {a b c : Int32} : F1 a b c 89 5 = nI 0 := rfl
set_option maxRecDepth 100000 in
theorem F1_14 {a b c : Int32} : F1 a b c 103 22 = nI 0 := rfl
set_option maxRecDepth 100000 in
theorem F1_15 {a b c : Int32} : F1 a b c 89 7 = 0 := rfl
set_option maxRecDepth 100000 in
theorem F1_16 {a b c : Int32} : F1 a b c 103 24 = 0 := rfl
set_option maxRecDepth 100000 in
theorem F1_17 {a b c : Int32} : F1 a b c 89 8 = 0 := rfl
set_option maxRecDepth 100000 in
theorem F1_18 {a b c : Int32} : F1 a b c 103 25 = 0 := rfl
set_option maxRecDepth 100000 in
theorem F1_19 {a b c : Int32} : F1 a b c 92 2 = tokv c := rfl
set_option maxRecDepth 100000 in
theorem F1_20 {a b c : Int32} : F1 a b c 103 2 = tokv c := rfl
set_option maxRecDepth 100000 in
theorem F1_21 {a b c : Int32} : F1 a b c 1 0 = tokv c := rfl
set_option maxRecDepth 100000 in
theorem F1_22 {a b c : Int32} : F1 a b c 92 5 = nI 0 := rfl
set_option maxRecDepth 100000 in
theorem F1_23 {a b c : Int32} : F1 a b c 92 6 = nI 0 := rfl
set_option maxRecDepth 100000 in
theorem F1_24 {a b c : Int32} : F1 a b c 103 10 = nI 0 := rfl
set_option maxRecDepth 100000 in
theorem F1_25 {a b c : Int32} : F1 a b c 92 7 = 0 := rfl
set_option maxRecDepth 100000 in
theorem F1_26 {a b c : Int32} : F1 a b c 103 9 = 0 := rfl
set_option maxRecDepth 100000 in
theorem F1_31 {a b c : Int32} : F1 a b c (95 + 2 * 0) 1 = nI 0 := rfl
set_option maxRecDepth 100000 in
theorem F1_32 {a b c : Int32} : F1 a b c (95 + 2 * 1) 1 = nI 0 := rfl
set_option maxRecDepth 100000 in
theorem F1_33 {a b c : Int32} : F1 a b c (95 + 2 * 2) 1 = nI 0 := rfl
set_option maxRecDepth 100000 in
theorem F1_34 {a b c : Int32} : F1 a b c (95 + 2 * 3) 1 = nI 0 := rfl
set_option maxRecDepth 100000 in
theorem lead_0 {f : Nat → Int32} {n : Nat} (h : f 0 = 0) : lead f (n + 1) 0 = 0 := lead_z h
set_option maxRecDepth 100000 in
theorem CI_1 {a b c : Int32} {xs : Nat → Int32} : ∃ (θ : TG) (Γ : Nat → PG), θ.now = 0 ∧ CI θ Γ (F1 a b c) (G1 xs) R1 (F1 a b c) (G1 xs) := by
  obtain ⟨e1, ms, m1, m2, m3⟩ := clamp_g (l := 1) (m := 7) (by omega) (by omega) a
  obtain ⟨e2, bu, b1, b2, b3⟩ := clamp_g (l := 4) (m := 56) (by omega) (by omega) b
  refine ⟨TG.mk 0 0 0 0 0 bu ms bu 0 0 (fun _ => 0) (fun _ => 0), fun _ => γ0, rfl, CI.mk RW_1 ?_ (fun u hu => ⟨fun _ p hp w => absurd w.1 (Nat.lt_irrefl 0), fun _ => G1_z (by omega) (by omega)⟩) (fun p hp => CX_1 hp) (fun p hp => CY_1 hp)⟩
  have hpp : ∀ p, p < 4 → p = 0 ∨ p = 1 ∨ p = 2 ∨ p = 3 := fun p hp => by omega
  have v1 : F1 a b c 89 2 = cclamp_r a (nI 1) (nI 7) := F1_1
  have v2 : F1 a b c 103 0 = tcl a 1 7 := F1_2
  have v3 : F1 a b c 92 1 = cclamp_r b (nI 4) (nI 56) := F1_3
  have v4 : F1 a b c 103 1 = tcl b 4 56 := F1_4
  have v5 : F1 a b c 89 6 = cclamp_r b (nI 4) (nI 56) := F1_5
  have v6 : F1 a b c 103 23 = tcl b 4 56 := F1_6
  refine CT.mk F1_7 F1_8 F1_9 F1_10 F1_11 F1_12 (by show 0 ≤ 1; omega) rfl (by show 0 ≤ 400; omega) (fun u hu => (G1_z (by omega) (by omega)).trans nI_0.symm) (fun _ _ => Nat.zero_le _) (fun u hu => absurd hu (Nat.not_lt_zero u)) F1_13 F1_14 (Nat.le_refl _) (v5.trans b3) ((v6.trans e2).trans b3) (by show bu ≤ 457; omega) (v1.trans m3) ((v2.trans e1).trans m3) m1 m2 (F1_15.trans F1_16.symm) (F1_17.trans F1_18.symm) (fun u hu => (G1_z (by omega) (by omega)).trans (G1_z (by omega) (by omega)).symm) (v3.trans b3) ((v4.trans e2).trans b3) b2 (F1_19.trans F1_20.symm) (F1_21.trans F1_20.symm) F1_22 ?_ (fun u hu _ => G1_z (by omega) (by omega)) F1_23 F1_24 (Nat.le_refl _) (F1_25.trans F1_26.symm) (fun u hu => (G1_z (by omega) (by omega)).trans (G1_z (by omega) (by omega)).symm) (fun p hp => ?_) (fun p hp => ?_) (fun p hp k hk => (G1_z (by omega) (by omega)).trans (G1_z (by omega) (by omega)).symm)
  · exact (lead_0 (n := 400) (G1_z (by omega) (by omega))).symm
  · rcases hpp p hp with rfl | rfl | rfl | rfl
    · exact F1_31
    · exact F1_32
    · exact F1_33
    · exact F1_34
  · exact (lead_0 (n := 401) (f := fun k => G1 xs 105 (402 * p + k)) (G1_z (by omega) (by omega))).symm
/-! the whole run -/
set_option maxRecDepth 100000 in
theorem law_run (L : Nat) (xs : Nat → Int32) (hL : L ≤ 2563) : ∃ (n : Nat) (h1 : PH), pm_run pP n mSBLaw_law (pm_en pP mSBLaw_law [.inr (some 0)] [.inl (2, L, xs)]) = some (some (.inl 1), h1) := by
  have key : pz pP mSBLaw_law [.inr (some 0)] [.inl (2, L, xs)] (fun r _ => r = some (.inl (nI 1))) := by
    rw [hb_z]
    refine lw_start hL (z_fz xs) ?_
    obtain ⟨θ, Γ, hn, h⟩ := CI_1 (a := cellv (zG xs 0) L 0) (b := cellv (zG xs 0) L 1) (c := cellv (zG xs 0) L 2) (xs := xs)
    have e := hb_O (L := L) (F := F1 (cellv (zG xs 0) L 0) (cellv (zG xs 0) L 1) (cellv (zG xs 0) L 2)) (G := G1 xs) (R := R1)
    show pw pP mSBLaw_law (48, [some (.inr (some 0)), some (.inr (some 1)), some (.inr (some 103)), some (.inl (nI 3))], [], 130, 14975, hb ((sL L).take 131) (F1 (cellv (zG xs 0) L 0) (cellv (zG xs 0) L 1) (cellv (zG xs 0) L 2)) (G1 xs) R1 O1) _
    rw [e]
    exact lw_lp hL (fun h1 => rfl) 513 3 θ Γ _ _ _ (by omega) (by omega) (by omega) h (by omega)
  obtain ⟨n, r, h1, e1, e2⟩ := key
  subst e2
  exact ⟨n, h1, e1⟩
