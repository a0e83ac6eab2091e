/-! THE LAW: a turn of its loop. Rows laid by a program (wip/whole/gen/law1.py). -/
set_option maxRecDepth 100000 in
theorem lw_c0 {L ii : Nat} {θ : TG} {Γ : Nat → PG} {F G : FN} {R : RN} {Q : Option PV → PH → Prop} (h : CI θ Γ F G R F G) (hL : L ≤ 2563) (hii : ii + 5 ≤ L) (hnw : θ.now + 60 < 2 ^ 20) (k : ∀ (θ2 : TG) (Γ2 : Nat → PG) (F2 G2 : FN) (R2 : RN), CI θ2 Γ2 F2 G2 R2 F2 G2 → θ2.now ≤ θ.now + 60 → pw pP mSBLaw_law (750, [some (.inr (some 0)), some (.inr (some 1)), some (.inr (some 103)), some (.inl (nI ii))], [], 130, 14975, hb (sL L) F2 G2 R2 sO) Q) : pw pP mSBLaw_law (156, [some (.inr (some (0))), some (.inr (some (1))), some (.inr (some (103))), some (.inl (nI (ii)))], [], 130, 14975, hb (sL L) F G R sO) Q := by
  refine pw_aload_n rfl rfl ?_
  refine pw_aload_n rfl rfl ?_
  refine pw_iload_n rfl rfl ?_
  refine pw_iconst (v := nI (1)) rfl (by decide) ?_
  refine pw_iadd (z := nI (ii + 1)) rfl (nI_add _ _) ?_
  refine px_saldn (x := G (0) (ii + 1)) rfl rfl (by omega) (by omega) (rfl) ?_
  refine pw_aload_n rfl rfl ?_
  refine pw_iload_n rfl rfl ?_
  refine pw_iconst (v := nI (2)) rfl (by decide) ?_
  refine pw_iadd (z := nI (ii + 2)) rfl (nI_add _ _) ?_
  refine px_saldn (x := G (0) (ii + 2)) rfl rfl (by omega) (by omega) (rfl) ?_
  refine pw_aload_n rfl rfl ?_
  refine pw_iload_n rfl rfl ?_
  refine pw_iconst (v := nI (3)) rfl (by decide) ?_
  refine pw_iadd (z := nI (ii + 3)) rfl (nI_add _ _) ?_
  refine px_saldn (x := G (0) (ii + 3)) rfl rfl (by omega) (by omega) (rfl) ?_
  refine px_callv (as := [.inr (some (1)), .inl (G (0) (ii + 1)), .inl (G (0) (ii + 2)), .inl (G (0) (ii + 3))]) (rest := []) rfl rfl (by decide) rfl (Nat.le_of_ble_eq_true rfl) (Nat.le_of_ble_eq_true rfl) (Nat.le_of_ble_eq_true rfl) (Nat.le_of_ble_eq_true rfl) rfl rfl rfl rfl ?_
  refine pr_open h (by omega) L _ (fun r F1 G1 R1 hf tw => ?_)
  show pw pP mSBLaw_law (175, [some (.inr (some (0))), some (.inr (some (1))), some (.inr (some (103))), some (.inl (nI (ii)))], [.inl (r)], 130, 14975, hb (sL L) F1 G1 R1 sO) _
  refine pw_aload_n rfl rfl ?_
  refine pw_aload_n rfl rfl ?_
  refine pw_iload_n rfl rfl ?_
  refine pw_iconst (v := nI (1)) rfl (by decide) ?_
  refine pw_iadd (z := nI (ii + 1)) rfl (nI_add _ _) ?_
  refine px_saldn (x := G (0) (ii + 1)) rfl rfl (by omega) (by omega) (congrFun (hf.2 0 (.inr rfl)) _) ?_
  refine pw_aload_n rfl rfl ?_
  refine pw_iload_n rfl rfl ?_
  refine pw_iconst (v := nI (2)) rfl (by decide) ?_
  refine pw_iadd (z := nI (ii + 2)) rfl (nI_add _ _) ?_
  refine px_saldn (x := G (0) (ii + 2)) rfl rfl (by omega) (by omega) (congrFun (hf.2 0 (.inr rfl)) _) ?_
  refine pw_aload_n rfl rfl ?_
  refine pw_iload_n rfl rfl ?_
  refine pw_iconst (v := nI (3)) rfl (by decide) ?_
  refine pw_iadd (z := nI (ii + 3)) rfl (nI_add _ _) ?_
  refine px_saldn (x := G (0) (ii + 3)) rfl rfl (by omega) (by omega) (congrFun (hf.2 0 (.inr rfl)) _) ?_
  refine px_callv (as := [.inr (some (103)), .inl (G (0) (ii + 1)), .inl (G (0) (ii + 2)), .inl (G (0) (ii + 3))]) (rest := [.inl (r)]) rfl rfl (by decide) rfl (Nat.le_of_ble_eq_true rfl) (Nat.le_of_ble_eq_true rfl) (Nat.le_of_ble_eq_true rfl) (Nat.le_of_ble_eq_true rfl) rfl rfl rfl rfl ?_
  refine tw _ (fun θ2 Γ2 F2 G2 h2 hn2 => ?_)
  show pw pP mSBLaw_law (194, [some (.inr (some (0))), some (.inr (some (1))), some (.inr (some (103))), some (.inl (nI (ii)))], [.inl (r), .inl (r)], 130, 14975, hb (sL L) F2 G2 R1 sO) _
  refine pw_if2p (A := r = r) rfl rfl (t := 750) rfl (fun _ => ?_) (fun q => absurd rfl q)
  exact k θ2 Γ2 F2 G2 R1 h2 hn2
set_option maxRecDepth 100000 in
theorem lw_c1 {L ii : Nat} {θ : TG} {Γ : Nat → PG} {F G : FN} {R : RN} {Q : Option PV → PH → Prop} (h : CI θ Γ F G R F G) (hL : L ≤ 2563) (hii : ii + 5 ≤ L) (hnw : θ.now + 60 < 2 ^ 20) (k : ∀ (θ2 : TG) (Γ2 : Nat → PG) (F2 G2 : FN) (R2 : RN), CI θ2 Γ2 F2 G2 R2 F2 G2 → θ2.now ≤ θ.now + 60 → pw pP mSBLaw_law (750, [some (.inr (some 0)), some (.inr (some 1)), some (.inr (some 103)), some (.inl (nI ii))], [], 130, 14975, hb (sL L) F2 G2 R2 sO) Q) : pw pP mSBLaw_law (199, [some (.inr (some (0))), some (.inr (some (1))), some (.inr (some (103))), some (.inl (nI (ii)))], [], 130, 14975, hb (sL L) F G R sO) Q := by
  refine pw_aload_n rfl rfl ?_
  refine pw_aload_n rfl rfl ?_
  refine pw_iload_n rfl rfl ?_
  refine pw_iconst (v := nI (1)) rfl (by decide) ?_
  refine pw_iadd (z := nI (ii + 1)) rfl (nI_add _ _) ?_
  refine px_saldn (x := G (0) (ii + 1)) rfl rfl (by omega) (by omega) (rfl) ?_
  refine px_callv (as := [.inr (some (1)), .inl (G (0) (ii + 1))]) (rest := []) rfl rfl (by decide) rfl (Nat.le_of_ble_eq_true rfl) (Nat.le_of_ble_eq_true rfl) (Nat.le_of_ble_eq_true rfl) (Nat.le_of_ble_eq_true rfl) rfl rfl rfl rfl ?_
  refine pr_close h L _ (fun r F1 G1 R1 hf tw => ?_)
  show pw pP mSBLaw_law (208, [some (.inr (some (0))), some (.inr (some (1))), some (.inr (some (103))), some (.inl (nI (ii)))], [.inl (r)], 130, 14975, hb (sL L) F1 G1 R1 sO) _
  refine pw_aload_n rfl rfl ?_
  refine pw_aload_n rfl rfl ?_
  refine pw_iload_n rfl rfl ?_
  refine pw_iconst (v := nI (1)) rfl (by decide) ?_
  refine pw_iadd (z := nI (ii + 1)) rfl (nI_add _ _) ?_
  refine px_saldn (x := G (0) (ii + 1)) rfl rfl (by omega) (by omega) (congrFun (hf.2 0 (.inr rfl)) _) ?_
  refine px_callv (as := [.inr (some (103)), .inl (G (0) (ii + 1))]) (rest := [.inl (r)]) rfl rfl (by decide) rfl (Nat.le_of_ble_eq_true rfl) (Nat.le_of_ble_eq_true rfl) (Nat.le_of_ble_eq_true rfl) (Nat.le_of_ble_eq_true rfl) rfl rfl rfl rfl ?_
  refine tw _ (fun θ2 Γ2 F2 G2 h2 hn2 => ?_)
  show pw pP mSBLaw_law (217, [some (.inr (some (0))), some (.inr (some (1))), some (.inr (some (103))), some (.inl (nI (ii)))], [.inl (r), .inl (r)], 130, 14975, hb (sL L) F2 G2 R1 sO) _
  refine pw_if2p (A := r = r) rfl rfl (t := 750) rfl (fun _ => ?_) (fun q => absurd rfl q)
  exact k θ2 Γ2 F2 G2 R1 h2 hn2
set_option maxRecDepth 100000 in
theorem lw_c2 {L ii : Nat} {θ : TG} {Γ : Nat → PG} {F G : FN} {R : RN} {Q : Option PV → PH → Prop} (h : CI θ Γ F G R F G) (hL : L ≤ 2563) (hii : ii + 5 ≤ L) (hnw : θ.now + 60 < 2 ^ 20) (k : ∀ (θ2 : TG) (Γ2 : Nat → PG) (F2 G2 : FN) (R2 : RN), CI θ2 Γ2 F2 G2 R2 F2 G2 → θ2.now ≤ θ.now + 60 → pw pP mSBLaw_law (750, [some (.inr (some 0)), some (.inr (some 1)), some (.inr (some 103)), some (.inl (nI ii))], [], 130, 14975, hb (sL L) F2 G2 R2 sO) Q) : pw pP mSBLaw_law (222, [some (.inr (some (0))), some (.inr (some (1))), some (.inr (some (103))), some (.inl (nI (ii)))], [], 130, 14975, hb (sL L) F G R sO) Q := by
  refine pw_aload_n rfl rfl ?_
  refine pw_aload_n rfl rfl ?_
  refine pw_iload_n rfl rfl ?_
  refine pw_iconst (v := nI (1)) rfl (by decide) ?_
  refine pw_iadd (z := nI (ii + 1)) rfl (nI_add _ _) ?_
  refine px_saldn (x := G (0) (ii + 1)) rfl rfl (by omega) (by omega) (rfl) ?_
  refine pw_aload_n rfl rfl ?_
  refine pw_iload_n rfl rfl ?_
  refine pw_iconst (v := nI (2)) rfl (by decide) ?_
  refine pw_iadd (z := nI (ii + 2)) rfl (nI_add _ _) ?_
  refine px_saldn (x := G (0) (ii + 2)) rfl rfl (by omega) (by omega) (rfl) ?_
  refine px_callv (as := [.inr (some (1)), .inl (G (0) (ii + 1)), .inl (G (0) (ii + 2))]) (rest := []) rfl rfl (by decide) rfl (Nat.le_of_ble_eq_true rfl) (Nat.le_of_ble_eq_true rfl) (Nat.le_of_ble_eq_true rfl) (Nat.le_of_ble_eq_true rfl) rfl rfl rfl rfl ?_
  refine pr_write h L _ (fun r F1 G1 R1 hf tw => ?_)
  show pw pP mSBLaw_law (236, [some (.inr (some (0))), some (.inr (some (1))), some (.inr (some (103))), some (.inl (nI (ii)))], [.inl (r)], 130, 14975, hb (sL L) F1 G1 R1 sO) _
  refine pw_aload_n rfl rfl ?_
  refine pw_aload_n rfl rfl ?_
  refine pw_iload_n rfl rfl ?_
  refine pw_iconst (v := nI (1)) rfl (by decide) ?_
  refine pw_iadd (z := nI (ii + 1)) rfl (nI_add _ _) ?_
  refine px_saldn (x := G (0) (ii + 1)) rfl rfl (by omega) (by omega) (congrFun (hf.2 0 (.inr rfl)) _) ?_
  refine pw_aload_n rfl rfl ?_
  refine pw_iload_n rfl rfl ?_
  refine pw_iconst (v := nI (2)) rfl (by decide) ?_
  refine pw_iadd (z := nI (ii + 2)) rfl (nI_add _ _) ?_
  refine px_saldn (x := G (0) (ii + 2)) rfl rfl (by omega) (by omega) (congrFun (hf.2 0 (.inr rfl)) _) ?_
  refine px_callv (as := [.inr (some (103)), .inl (G (0) (ii + 1)), .inl (G (0) (ii + 2))]) (rest := [.inl (r)]) rfl rfl (by decide) rfl (Nat.le_of_ble_eq_true rfl) (Nat.le_of_ble_eq_true rfl) (Nat.le_of_ble_eq_true rfl) (Nat.le_of_ble_eq_true rfl) rfl rfl rfl rfl ?_
  refine tw _ (fun θ2 Γ2 F2 G2 h2 hn2 => ?_)
  show pw pP mSBLaw_law (250, [some (.inr (some (0))), some (.inr (some (1))), some (.inr (some (103))), some (.inl (nI (ii)))], [.inl (r), .inl (r)], 130, 14975, hb (sL L) F2 G2 R1 sO) _
  refine pw_if2p (A := r = r) rfl rfl (t := 750) rfl (fun _ => ?_) (fun q => absurd rfl q)
  exact k θ2 Γ2 F2 G2 R1 h2 hn2
set_option maxRecDepth 100000 in
theorem lw_c3 {L ii : Nat} {θ : TG} {Γ : Nat → PG} {F G : FN} {R : RN} {Q : Option PV → PH → Prop} (h : CI θ Γ F G R F G) (hL : L ≤ 2563) (hii : ii + 5 ≤ L) (hnw : θ.now + 60 < 2 ^ 20) (k : ∀ (θ2 : TG) (Γ2 : Nat → PG) (F2 G2 : FN) (R2 : RN), CI θ2 Γ2 F2 G2 R2 F2 G2 → θ2.now ≤ θ.now + 60 → pw pP mSBLaw_law (750, [some (.inr (some 0)), some (.inr (some 1)), some (.inr (some 103)), some (.inl (nI ii))], [], 130, 14975, hb (sL L) F2 G2 R2 sO) Q) : pw pP mSBLaw_law (255, [some (.inr (some (0))), some (.inr (some (1))), some (.inr (some (103))), some (.inl (nI (ii)))], [], 130, 14975, hb (sL L) F G R sO) Q := by
  refine pw_aload_n rfl rfl ?_
  refine px_callv (as := [.inr (some (1))]) (rest := []) rfl rfl (by decide) rfl (Nat.le_of_ble_eq_true rfl) (Nat.le_of_ble_eq_true rfl) (Nat.le_of_ble_eq_true rfl) (Nat.le_of_ble_eq_true rfl) rfl rfl rfl rfl ?_
  refine pr_finish h L _ (fun r F1 G1 R1 hf tw => ?_)
  show pw pP mSBLaw_law (259, [some (.inr (some (0))), some (.inr (some (1))), some (.inr (some (103))), some (.inl (nI (ii)))], [.inl (r)], 130, 14975, hb (sL L) F1 G1 R1 sO) _
  refine pw_aload_n rfl rfl ?_
  refine px_callv (as := [.inr (some (103))]) (rest := [.inl (r)]) rfl rfl (by decide) rfl (Nat.le_of_ble_eq_true rfl) (Nat.le_of_ble_eq_true rfl) (Nat.le_of_ble_eq_true rfl) (Nat.le_of_ble_eq_true rfl) rfl rfl rfl rfl ?_
  refine tw _ (fun θ2 Γ2 F2 G2 h2 hn2 => ?_)
  show pw pP mSBLaw_law (263, [some (.inr (some (0))), some (.inr (some (1))), some (.inr (some (103))), some (.inl (nI (ii)))], [.inl (r), .inl (r)], 130, 14975, hb (sL L) F2 G2 R1 sO) _
  refine pw_if2p (A := r = r) rfl rfl (t := 750) rfl (fun _ => ?_) (fun q => absurd rfl q)
  exact k θ2 Γ2 F2 G2 R1 h2 hn2
set_option maxRecDepth 100000 in
theorem lw_c4 {L ii : Nat} {θ : TG} {Γ : Nat → PG} {F G : FN} {R : RN} {Q : Option PV → PH → Prop} (h : CI θ Γ F G R F G) (hL : L ≤ 2563) (hii : ii + 5 ≤ L) (hnw : θ.now + 60 < 2 ^ 20) (k : ∀ (θ2 : TG) (Γ2 : Nat → PG) (F2 G2 : FN) (R2 : RN), CI θ2 Γ2 F2 G2 R2 F2 G2 → θ2.now ≤ θ.now + 60 → pw pP mSBLaw_law (750, [some (.inr (some 0)), some (.inr (some 1)), some (.inr (some 103)), some (.inl (nI ii))], [], 130, 14975, hb (sL L) F2 G2 R2 sO) Q) : pw pP mSBLaw_law (268, [some (.inr (some (0))), some (.inr (some (1))), some (.inr (some (103))), some (.inl (nI (ii)))], [], 130, 14975, hb (sL L) F G R sO) Q := by
  refine pw_aload_n rfl rfl ?_
  refine px_callv (as := [.inr (some (1))]) (rest := []) rfl rfl (by decide) rfl (Nat.le_of_ble_eq_true rfl) (Nat.le_of_ble_eq_true rfl) (Nat.le_of_ble_eq_true rfl) (Nat.le_of_ble_eq_true rfl) rfl rfl rfl rfl ?_
  refine pr_read h L _ (fun r F1 G1 R1 hf tw => ?_)
  show pw pP mSBLaw_law (272, [some (.inr (some (0))), some (.inr (some (1))), some (.inr (some (103))), some (.inl (nI (ii)))], [.inl (r)], 130, 14975, hb (sL L) F1 G1 R1 sO) _
  refine pw_aload_n rfl rfl ?_
  refine px_callv (as := [.inr (some (103))]) (rest := [.inl (r)]) rfl rfl (by decide) rfl (Nat.le_of_ble_eq_true rfl) (Nat.le_of_ble_eq_true rfl) (Nat.le_of_ble_eq_true rfl) (Nat.le_of_ble_eq_true rfl) rfl rfl rfl rfl ?_
  refine tw _ (fun θ2 Γ2 F2 G2 h2 hn2 => ?_)
  show pw pP mSBLaw_law (276, [some (.inr (some (0))), some (.inr (some (1))), some (.inr (some (103))), some (.inl (nI (ii)))], [.inl (r), .inl (r)], 130, 14975, hb (sL L) F2 G2 R1 sO) _
  refine pw_if2p (A := r = r) rfl rfl (t := 750) rfl (fun _ => ?_) (fun q => absurd rfl q)
  exact k θ2 Γ2 F2 G2 R1 h2 hn2
set_option maxRecDepth 100000 in
theorem lw_c5 {L ii : Nat} {θ : TG} {Γ : Nat → PG} {F G : FN} {R : RN} {Q : Option PV → PH → Prop} (h : CI θ Γ F G R F G) (hL : L ≤ 2563) (hii : ii + 5 ≤ L) (hnw : θ.now + 60 < 2 ^ 20) (k : ∀ (θ2 : TG) (Γ2 : Nat → PG) (F2 G2 : FN) (R2 : RN), CI θ2 Γ2 F2 G2 R2 F2 G2 → θ2.now ≤ θ.now + 60 → pw pP mSBLaw_law (750, [some (.inr (some 0)), some (.inr (some 1)), some (.inr (some 103)), some (.inl (nI ii))], [], 130, 14975, hb (sL L) F2 G2 R2 sO) Q) : pw pP mSBLaw_law (281, [some (.inr (some (0))), some (.inr (some (1))), some (.inr (some (103))), some (.inl (nI (ii)))], [], 130, 14975, hb (sL L) F G R sO) Q := by
  refine pw_aload_n rfl rfl ?_
  refine pw_aload_n rfl rfl ?_
  refine pw_iload_n rfl rfl ?_
  refine pw_iconst (v := nI (1)) rfl (by decide) ?_
  refine pw_iadd (z := nI (ii + 1)) rfl (nI_add _ _) ?_
  refine px_saldn (x := G (0) (ii + 1)) rfl rfl (by omega) (by omega) (rfl) ?_
  refine px_callv (as := [.inr (some (1)), .inl (G (0) (ii + 1))]) (rest := []) rfl rfl (by decide) rfl (Nat.le_of_ble_eq_true rfl) (Nat.le_of_ble_eq_true rfl) (Nat.le_of_ble_eq_true rfl) (Nat.le_of_ble_eq_true rfl) rfl rfl rfl rfl ?_
  refine pr_pass h hnw L _ (fun r F1 G1 R1 hf tw => ?_)
  show pw pP mSBLaw_law (290, [some (.inr (some (0))), some (.inr (some (1))), some (.inr (some (103))), some (.inl (nI (ii)))], [.inl (r)], 130, 14975, hb (sL L) F1 G1 R1 sO) _
  refine pw_aload_n rfl rfl ?_
  refine pw_aload_n rfl rfl ?_
  refine pw_iload_n rfl rfl ?_
  refine pw_iconst (v := nI (1)) rfl (by decide) ?_
  refine pw_iadd (z := nI (ii + 1)) rfl (nI_add _ _) ?_
  refine px_saldn (x := G (0) (ii + 1)) rfl rfl (by omega) (by omega) (congrFun (hf.2 0 (.inr rfl)) _) ?_
  refine px_callv (as := [.inr (some (103)), .inl (G (0) (ii + 1))]) (rest := [.inl (r)]) rfl rfl (by decide) rfl (Nat.le_of_ble_eq_true rfl) (Nat.le_of_ble_eq_true rfl) (Nat.le_of_ble_eq_true rfl) (Nat.le_of_ble_eq_true rfl) rfl rfl rfl rfl ?_
  refine tw _ (fun θ2 Γ2 F2 G2 h2 hn2 => ?_)
  show pw pP mSBLaw_law (299, [some (.inr (some (0))), some (.inr (some (1))), some (.inr (some (103))), some (.inl (nI (ii)))], [.inl (r), .inl (r)], 130, 14975, hb (sL L) F2 G2 R1 sO) _
  refine pw_if2p (A := r = r) rfl rfl (t := 750) rfl (fun _ => ?_) (fun q => absurd rfl q)
  exact k θ2 Γ2 F2 G2 R1 h2 hn2
set_option maxRecDepth 100000 in
theorem lw_c6 {L ii : Nat} {θ : TG} {Γ : Nat → PG} {F G : FN} {R : RN} {Q : Option PV → PH → Prop} (h : CI θ Γ F G R F G) (hL : L ≤ 2563) (hii : ii + 5 ≤ L) (hnw : θ.now + 60 < 2 ^ 20) (k : ∀ (θ2 : TG) (Γ2 : Nat → PG) (F2 G2 : FN) (R2 : RN), CI θ2 Γ2 F2 G2 R2 F2 G2 → θ2.now ≤ θ.now + 60 → pw pP mSBLaw_law (750, [some (.inr (some 0)), some (.inr (some 1)), some (.inr (some 103)), some (.inl (nI ii))], [], 130, 14975, hb (sL L) F2 G2 R2 sO) Q) : pw pP mSBLaw_law (304, [some (.inr (some (0))), some (.inr (some (1))), some (.inr (some (103))), some (.inl (nI (ii)))], [], 130, 14975, hb (sL L) F G R sO) Q := by
  refine pw_aload_n rfl rfl ?_
  refine pw_aload_n rfl rfl ?_
  refine pw_iload_n rfl rfl ?_
  refine pw_iconst (v := nI (1)) rfl (by decide) ?_
  refine pw_iadd (z := nI (ii + 1)) rfl (nI_add _ _) ?_
  refine px_saldn (x := G (0) (ii + 1)) rfl rfl (by omega) (by omega) (rfl) ?_
  refine pw_aload_n rfl rfl ?_
  refine pw_iload_n rfl rfl ?_
  refine pw_iconst (v := nI (2)) rfl (by decide) ?_
  refine pw_iadd (z := nI (ii + 2)) rfl (nI_add _ _) ?_
  refine px_saldn (x := G (0) (ii + 2)) rfl rfl (by omega) (by omega) (rfl) ?_
  refine px_callv (as := [.inr (some (1)), .inl (G (0) (ii + 1)), .inl (G (0) (ii + 2))]) (rest := []) rfl rfl (by decide) rfl (Nat.le_of_ble_eq_true rfl) (Nat.le_of_ble_eq_true rfl) (Nat.le_of_ble_eq_true rfl) (Nat.le_of_ble_eq_true rfl) rfl rfl rfl rfl ?_
  refine pr_delay h L _ (fun r F1 G1 R1 hf tw => ?_)
  show pw pP mSBLaw_law (318, [some (.inr (some (0))), some (.inr (some (1))), some (.inr (some (103))), some (.inl (nI (ii)))], [.inl (r)], 130, 14975, hb (sL L) F1 G1 R1 sO) _
  refine pw_aload_n rfl rfl ?_
  refine pw_aload_n rfl rfl ?_
  refine pw_iload_n rfl rfl ?_
  refine pw_iconst (v := nI (1)) rfl (by decide) ?_
  refine pw_iadd (z := nI (ii + 1)) rfl (nI_add _ _) ?_
  refine px_saldn (x := G (0) (ii + 1)) rfl rfl (by omega) (by omega) (congrFun (hf.2 0 (.inr rfl)) _) ?_
  refine pw_aload_n rfl rfl ?_
  refine pw_iload_n rfl rfl ?_
  refine pw_iconst (v := nI (2)) rfl (by decide) ?_
  refine pw_iadd (z := nI (ii + 2)) rfl (nI_add _ _) ?_
  refine px_saldn (x := G (0) (ii + 2)) rfl rfl (by omega) (by omega) (congrFun (hf.2 0 (.inr rfl)) _) ?_
  refine px_callv (as := [.inr (some (103)), .inl (G (0) (ii + 1)), .inl (G (0) (ii + 2))]) (rest := [.inl (r)]) rfl rfl (by decide) rfl (Nat.le_of_ble_eq_true rfl) (Nat.le_of_ble_eq_true rfl) (Nat.le_of_ble_eq_true rfl) (Nat.le_of_ble_eq_true rfl) rfl rfl rfl rfl ?_
  refine tw _ (fun θ2 Γ2 F2 G2 h2 hn2 => ?_)
  show pw pP mSBLaw_law (332, [some (.inr (some (0))), some (.inr (some (1))), some (.inr (some (103))), some (.inl (nI (ii)))], [.inl (r), .inl (r)], 130, 14975, hb (sL L) F2 G2 R1 sO) _
  refine pw_if2p (A := r = r) rfl rfl (t := 750) rfl (fun _ => ?_) (fun q => absurd rfl q)
  exact k θ2 Γ2 F2 G2 R1 h2 hn2
set_option maxRecDepth 100000 in
theorem lw_c7 {L ii : Nat} {θ : TG} {Γ : Nat → PG} {F G : FN} {R : RN} {Q : Option PV → PH → Prop} (h : CI θ Γ F G R F G) (hL : L ≤ 2563) (hii : ii + 5 ≤ L) (hnw : θ.now + 60 < 2 ^ 20) (k : ∀ (θ2 : TG) (Γ2 : Nat → PG) (F2 G2 : FN) (R2 : RN), CI θ2 Γ2 F2 G2 R2 F2 G2 → θ2.now ≤ θ.now + 60 → pw pP mSBLaw_law (750, [some (.inr (some 0)), some (.inr (some 1)), some (.inr (some 103)), some (.inl (nI ii))], [], 130, 14975, hb (sL L) F2 G2 R2 sO) Q) : pw pP mSBLaw_law (337, [some (.inr (some (0))), some (.inr (some (1))), some (.inr (some (103))), some (.inl (nI (ii)))], [], 130, 14975, hb (sL L) F G R sO) Q := by
  refine pw_aload_n rfl rfl ?_
  refine pw_aload_n rfl rfl ?_
  refine pw_iload_n rfl rfl ?_
  refine pw_iconst (v := nI (1)) rfl (by decide) ?_
  refine pw_iadd (z := nI (ii + 1)) rfl (nI_add _ _) ?_
  refine px_saldn (x := G (0) (ii + 1)) rfl rfl (by omega) (by omega) (rfl) ?_
  refine pw_aload_n rfl rfl ?_
  refine pw_iload_n rfl rfl ?_
  refine pw_iconst (v := nI (2)) rfl (by decide) ?_
  refine pw_iadd (z := nI (ii + 2)) rfl (nI_add _ _) ?_
  refine px_saldn (x := G (0) (ii + 2)) rfl rfl (by omega) (by omega) (rfl) ?_
  refine pw_if1p (A := G (0) (ii + 2) = 0) rfl rfl (t := 355) rfl (fun c1 => ?_) (fun c1 => ?_)
  · -- 355
    refine pw_iconst (v := nI (0)) rfl (by decide) ?_
    refine pw_aload_n rfl rfl ?_
    refine pw_iload_n rfl rfl ?_
    refine pw_iconst (v := nI (3)) rfl (by decide) ?_
    refine pw_iadd (z := nI (ii + 3)) rfl (nI_add _ _) ?_
    refine px_saldn (x := G (0) (ii + 3)) rfl rfl (by omega) (by omega) (rfl) ?_
    refine px_callv (as := [.inr (some (1)), .inl (G (0) (ii + 1)), .inl (nI (0)), .inl (G (0) (ii + 3))]) (rest := []) rfl rfl (by decide) rfl (Nat.le_of_ble_eq_true rfl) (Nat.le_of_ble_eq_true rfl) (Nat.le_of_ble_eq_true rfl) (Nat.le_of_ble_eq_true rfl) rfl rfl rfl rfl ?_
    refine pr_lose0 h L _ (fun r F1 G1 R1 hf tw => ?_)
    show pw pP mSBLaw_law (364, [some (.inr (some (0))), some (.inr (some (1))), some (.inr (some (103))), some (.inl (nI (ii)))], [.inl (r)], 130, 14975, hb (sL L) F1 G1 R1 sO) _
    refine pw_aload_n rfl rfl ?_
    refine pw_aload_n rfl rfl ?_
    refine pw_iload_n rfl rfl ?_
    refine pw_iconst (v := nI (1)) rfl (by decide) ?_
    refine pw_iadd (z := nI (ii + 1)) rfl (nI_add _ _) ?_
    refine px_saldn (x := G (0) (ii + 1)) rfl rfl (by omega) (by omega) (congrFun (hf.2 0 (.inr rfl)) _) ?_
    refine pw_aload_n rfl rfl ?_
    refine pw_iload_n rfl rfl ?_
    refine pw_iconst (v := nI (2)) rfl (by decide) ?_
    refine pw_iadd (z := nI (ii + 2)) rfl (nI_add _ _) ?_
    refine px_saldn (x := G (0) (ii + 2)) rfl rfl (by omega) (by omega) (congrFun (hf.2 0 (.inr rfl)) _) ?_
    refine pw_if1p (A := G (0) (ii + 2) = 0) rfl rfl (t := 382) rfl (fun _ => ?_) (fun q => absurd c1 q)
    refine pw_iconst (v := nI (0)) rfl (by decide) ?_
    refine pw_aload_n rfl rfl ?_
    refine pw_iload_n rfl rfl ?_
    refine pw_iconst (v := nI (3)) rfl (by decide) ?_
    refine pw_iadd (z := nI (ii + 3)) rfl (nI_add _ _) ?_
    refine px_saldn (x := G (0) (ii + 3)) rfl rfl (by omega) (by omega) (congrFun (hf.2 0 (.inr rfl)) _) ?_
    refine px_callv (as := [.inr (some (103)), .inl (G (0) (ii + 1)), .inl (nI (0)), .inl (G (0) (ii + 3))]) (rest := [.inl (r)]) rfl rfl (by decide) rfl (Nat.le_of_ble_eq_true rfl) (Nat.le_of_ble_eq_true rfl) (Nat.le_of_ble_eq_true rfl) (Nat.le_of_ble_eq_true rfl) rfl rfl rfl rfl ?_
    refine tw _ (fun θ2 Γ2 F2 G2 h2 hn2 => ?_)
    show pw pP mSBLaw_law (391, [some (.inr (some (0))), some (.inr (some (1))), some (.inr (some (103))), some (.inl (nI (ii)))], [.inl (r), .inl (r)], 130, 14975, hb (sL L) F2 G2 R1 sO) _
    refine pw_if2p (A := r = r) rfl rfl (t := 750) rfl (fun _ => ?_) (fun q => absurd rfl q)
    exact k θ2 Γ2 F2 G2 R1 h2 hn2
  · -- 351
    refine pw_iconst (v := nI (1)) rfl (by decide) ?_
    refine pw_goto (t := 356) rfl rfl ?_
    refine pw_aload_n rfl rfl ?_
    refine pw_iload_n rfl rfl ?_
    refine pw_iconst (v := nI (3)) rfl (by decide) ?_
    refine pw_iadd (z := nI (ii + 3)) rfl (nI_add _ _) ?_
    refine px_saldn (x := G (0) (ii + 3)) rfl rfl (by omega) (by omega) (rfl) ?_
    refine px_callv (as := [.inr (some (1)), .inl (G (0) (ii + 1)), .inl (nI (1)), .inl (G (0) (ii + 3))]) (rest := []) rfl rfl (by decide) rfl (Nat.le_of_ble_eq_true rfl) (Nat.le_of_ble_eq_true rfl) (Nat.le_of_ble_eq_true rfl) (Nat.le_of_ble_eq_true rfl) rfl rfl rfl rfl ?_
    refine pr_lose1 h L _ (fun r F1 G1 R1 hf tw => ?_)
    show pw pP mSBLaw_law (364, [some (.inr (some (0))), some (.inr (some (1))), some (.inr (some (103))), some (.inl (nI (ii)))], [.inl (r)], 130, 14975, hb (sL L) F1 G1 R1 sO) _
    refine pw_aload_n rfl rfl ?_
    refine pw_aload_n rfl rfl ?_
    refine pw_iload_n rfl rfl ?_
    refine pw_iconst (v := nI (1)) rfl (by decide) ?_
    refine pw_iadd (z := nI (ii + 1)) rfl (nI_add _ _) ?_
    refine px_saldn (x := G (0) (ii + 1)) rfl rfl (by omega) (by omega) (congrFun (hf.2 0 (.inr rfl)) _) ?_
    refine pw_aload_n rfl rfl ?_
    refine pw_iload_n rfl rfl ?_
    refine pw_iconst (v := nI (2)) rfl (by decide) ?_
    refine pw_iadd (z := nI (ii + 2)) rfl (nI_add _ _) ?_
    refine px_saldn (x := G (0) (ii + 2)) rfl rfl (by omega) (by omega) (congrFun (hf.2 0 (.inr rfl)) _) ?_
    refine pw_if1p (A := G (0) (ii + 2) = 0) rfl rfl (t := 382) rfl (fun q => absurd q c1) (fun _ => ?_)
    refine pw_iconst (v := nI (1)) rfl (by decide) ?_
    refine pw_goto (t := 383) rfl rfl ?_
    refine pw_aload_n rfl rfl ?_
    refine pw_iload_n rfl rfl ?_
    refine pw_iconst (v := nI (3)) rfl (by decide) ?_
    refine pw_iadd (z := nI (ii + 3)) rfl (nI_add _ _) ?_
    refine px_saldn (x := G (0) (ii + 3)) rfl rfl (by omega) (by omega) (congrFun (hf.2 0 (.inr rfl)) _) ?_
    refine px_callv (as := [.inr (some (103)), .inl (G (0) (ii + 1)), .inl (nI (1)), .inl (G (0) (ii + 3))]) (rest := [.inl (r)]) rfl rfl (by decide) rfl (Nat.le_of_ble_eq_true rfl) (Nat.le_of_ble_eq_true rfl) (Nat.le_of_ble_eq_true rfl) (Nat.le_of_ble_eq_true rfl) rfl rfl rfl rfl ?_
    refine tw _ (fun θ2 Γ2 F2 G2 h2 hn2 => ?_)
    show pw pP mSBLaw_law (391, [some (.inr (some (0))), some (.inr (some (1))), some (.inr (some (103))), some (.inl (nI (ii)))], [.inl (r), .inl (r)], 130, 14975, hb (sL L) F2 G2 R1 sO) _
    refine pw_if2p (A := r = r) rfl rfl (t := 750) rfl (fun _ => ?_) (fun q => absurd rfl q)
    exact k θ2 Γ2 F2 G2 R1 h2 hn2
set_option maxRecDepth 100000 in
theorem lw_c8 {L ii : Nat} {θ : TG} {Γ : Nat → PG} {F G : FN} {R : RN} {Q : Option PV → PH → Prop} (h : CI θ Γ F G R F G) (hL : L ≤ 2563) (hii : ii + 5 ≤ L) (hnw : θ.now + 60 < 2 ^ 20) (k : ∀ (θ2 : TG) (Γ2 : Nat → PG) (F2 G2 : FN) (R2 : RN), CI θ2 Γ2 F2 G2 R2 F2 G2 → θ2.now ≤ θ.now + 60 → pw pP mSBLaw_law (750, [some (.inr (some 0)), some (.inr (some 1)), some (.inr (some 103)), some (.inl (nI ii))], [], 130, 14975, hb (sL L) F2 G2 R2 sO) Q) : pw pP mSBLaw_law (396, [some (.inr (some (0))), some (.inr (some (1))), some (.inr (some (103))), some (.inl (nI (ii)))], [], 130, 14975, hb (sL L) F G R sO) Q := by
  refine pw_aload_n rfl rfl ?_
  refine pw_aload_n rfl rfl ?_
  refine pw_iload_n rfl rfl ?_
  refine pw_iconst (v := nI (1)) rfl (by decide) ?_
  refine pw_iadd (z := nI (ii + 1)) rfl (nI_add _ _) ?_
  refine px_saldn (x := G (0) (ii + 1)) rfl rfl (by omega) (by omega) (rfl) ?_
  refine pw_aload_n rfl rfl ?_
  refine pw_iload_n rfl rfl ?_
  refine pw_iconst (v := nI (2)) rfl (by decide) ?_
  refine pw_iadd (z := nI (ii + 2)) rfl (nI_add _ _) ?_
  refine px_saldn (x := G (0) (ii + 2)) rfl rfl (by omega) (by omega) (rfl) ?_
  refine pw_if1p (A := G (0) (ii + 2) = 0) rfl rfl (t := 414) rfl (fun c1 => ?_) (fun c1 => ?_)
  · -- 414
    refine pw_iconst (v := nI (0)) rfl (by decide) ?_
    refine pw_aload_n rfl rfl ?_
    refine pw_iload_n rfl rfl ?_
    refine pw_iconst (v := nI (3)) rfl (by decide) ?_
    refine pw_iadd (z := nI (ii + 3)) rfl (nI_add _ _) ?_
    refine px_saldn (x := G (0) (ii + 3)) rfl rfl (by omega) (by omega) (rfl) ?_
    refine pw_aload_n rfl rfl ?_
    refine pw_iload_n rfl rfl ?_
    refine pw_iconst (v := nI (4)) rfl (by decide) ?_
    refine pw_iadd (z := nI (ii + 4)) rfl (nI_add _ _) ?_
    refine px_saldn (x := G (0) (ii + 4)) rfl rfl (by omega) (by omega) (rfl) ?_
    refine px_callv (as := [.inr (some (1)), .inl (G (0) (ii + 1)), .inl (nI (0)), .inl (G (0) (ii + 3)), .inl (G (0) (ii + 4))]) (rest := []) rfl rfl (by decide) rfl (Nat.le_of_ble_eq_true rfl) (Nat.le_of_ble_eq_true rfl) (Nat.le_of_ble_eq_true rfl) (Nat.le_of_ble_eq_true rfl) rfl rfl rfl rfl ?_
    refine pr_twice0 h L _ (fun r F1 G1 R1 hf tw => ?_)
    show pw pP mSBLaw_law (428, [some (.inr (some (0))), some (.inr (some (1))), some (.inr (some (103))), some (.inl (nI (ii)))], [.inl (r)], 130, 14975, hb (sL L) F1 G1 R1 sO) _
    refine pw_aload_n rfl rfl ?_
    refine pw_aload_n rfl rfl ?_
    refine pw_iload_n rfl rfl ?_
    refine pw_iconst (v := nI (1)) rfl (by decide) ?_
    refine pw_iadd (z := nI (ii + 1)) rfl (nI_add _ _) ?_
    refine px_saldn (x := G (0) (ii + 1)) rfl rfl (by omega) (by omega) (congrFun (hf.2 0 (.inr rfl)) _) ?_
    refine pw_aload_n rfl rfl ?_
    refine pw_iload_n rfl rfl ?_
    refine pw_iconst (v := nI (2)) rfl (by decide) ?_
    refine pw_iadd (z := nI (ii + 2)) rfl (nI_add _ _) ?_
    refine px_saldn (x := G (0) (ii + 2)) rfl rfl (by omega) (by omega) (congrFun (hf.2 0 (.inr rfl)) _) ?_
    refine pw_if1p (A := G (0) (ii + 2) = 0) rfl rfl (t := 446) rfl (fun _ => ?_) (fun q => absurd c1 q)
    refine pw_iconst (v := nI (0)) rfl (by decide) ?_
    refine pw_aload_n rfl rfl ?_
    refine pw_iload_n rfl rfl ?_
    refine pw_iconst (v := nI (3)) rfl (by decide) ?_
    refine pw_iadd (z := nI (ii + 3)) rfl (nI_add _ _) ?_
    refine px_saldn (x := G (0) (ii + 3)) rfl rfl (by omega) (by omega) (congrFun (hf.2 0 (.inr rfl)) _) ?_
    refine pw_aload_n rfl rfl ?_
    refine pw_iload_n rfl rfl ?_
    refine pw_iconst (v := nI (4)) rfl (by decide) ?_
    refine pw_iadd (z := nI (ii + 4)) rfl (nI_add _ _) ?_
    refine px_saldn (x := G (0) (ii + 4)) rfl rfl (by omega) (by omega) (congrFun (hf.2 0 (.inr rfl)) _) ?_
    refine px_callv (as := [.inr (some (103)), .inl (G (0) (ii + 1)), .inl (nI (0)), .inl (G (0) (ii + 3)), .inl (G (0) (ii + 4))]) (rest := [.inl (r)]) rfl rfl (by decide) rfl (Nat.le_of_ble_eq_true rfl) (Nat.le_of_ble_eq_true rfl) (Nat.le_of_ble_eq_true rfl) (Nat.le_of_ble_eq_true rfl) rfl rfl rfl rfl ?_
    refine tw _ (fun θ2 Γ2 F2 G2 h2 hn2 => ?_)
    show pw pP mSBLaw_law (460, [some (.inr (some (0))), some (.inr (some (1))), some (.inr (some (103))), some (.inl (nI (ii)))], [.inl (r), .inl (r)], 130, 14975, hb (sL L) F2 G2 R1 sO) _
    refine pw_if2p (A := r = r) rfl rfl (t := 750) rfl (fun _ => ?_) (fun q => absurd rfl q)
    exact k θ2 Γ2 F2 G2 R1 h2 hn2
  · -- 410
    refine pw_iconst (v := nI (1)) rfl (by decide) ?_
    refine pw_goto (t := 415) rfl rfl ?_
    refine pw_aload_n rfl rfl ?_
    refine pw_iload_n rfl rfl ?_
    refine pw_iconst (v := nI (3)) rfl (by decide) ?_
    refine pw_iadd (z := nI (ii + 3)) rfl (nI_add _ _) ?_
    refine px_saldn (x := G (0) (ii + 3)) rfl rfl (by omega) (by omega) (rfl) ?_
    refine pw_aload_n rfl rfl ?_
    refine pw_iload_n rfl rfl ?_
    refine pw_iconst (v := nI (4)) rfl (by decide) ?_
    refine pw_iadd (z := nI (ii + 4)) rfl (nI_add _ _) ?_
    refine px_saldn (x := G (0) (ii + 4)) rfl rfl (by omega) (by omega) (rfl) ?_
    refine px_callv (as := [.inr (some (1)), .inl (G (0) (ii + 1)), .inl (nI (1)), .inl (G (0) (ii + 3)), .inl (G (0) (ii + 4))]) (rest := []) rfl rfl (by decide) rfl (Nat.le_of_ble_eq_true rfl) (Nat.le_of_ble_eq_true rfl) (Nat.le_of_ble_eq_true rfl) (Nat.le_of_ble_eq_true rfl) rfl rfl rfl rfl ?_
    refine pr_twice1 h L _ (fun r F1 G1 R1 hf tw => ?_)
    show pw pP mSBLaw_law (428, [some (.inr (some (0))), some (.inr (some (1))), some (.inr (some (103))), some (.inl (nI (ii)))], [.inl (r)], 130, 14975, hb (sL L) F1 G1 R1 sO) _
    refine pw_aload_n rfl rfl ?_
    refine pw_aload_n rfl rfl ?_
    refine pw_iload_n rfl rfl ?_
    refine pw_iconst (v := nI (1)) rfl (by decide) ?_
    refine pw_iadd (z := nI (ii + 1)) rfl (nI_add _ _) ?_
    refine px_saldn (x := G (0) (ii + 1)) rfl rfl (by omega) (by omega) (congrFun (hf.2 0 (.inr rfl)) _) ?_
    refine pw_aload_n rfl rfl ?_
    refine pw_iload_n rfl rfl ?_
    refine pw_iconst (v := nI (2)) rfl (by decide) ?_
    refine pw_iadd (z := nI (ii + 2)) rfl (nI_add _ _) ?_
    refine px_saldn (x := G (0) (ii + 2)) rfl rfl (by omega) (by omega) (congrFun (hf.2 0 (.inr rfl)) _) ?_
    refine pw_if1p (A := G (0) (ii + 2) = 0) rfl rfl (t := 446) rfl (fun q => absurd q c1) (fun _ => ?_)
    refine pw_iconst (v := nI (1)) rfl (by decide) ?_
    refine pw_goto (t := 447) rfl rfl ?_
    refine pw_aload_n rfl rfl ?_
    refine pw_iload_n rfl rfl ?_
    refine pw_iconst (v := nI (3)) rfl (by decide) ?_
    refine pw_iadd (z := nI (ii + 3)) rfl (nI_add _ _) ?_
    refine px_saldn (x := G (0) (ii + 3)) rfl rfl (by omega) (by omega) (congrFun (hf.2 0 (.inr rfl)) _) ?_
    refine pw_aload_n rfl rfl ?_
    refine pw_iload_n rfl rfl ?_
    refine pw_iconst (v := nI (4)) rfl (by decide) ?_
    refine pw_iadd (z := nI (ii + 4)) rfl (nI_add _ _) ?_
    refine px_saldn (x := G (0) (ii + 4)) rfl rfl (by omega) (by omega) (congrFun (hf.2 0 (.inr rfl)) _) ?_
    refine px_callv (as := [.inr (some (103)), .inl (G (0) (ii + 1)), .inl (nI (1)), .inl (G (0) (ii + 3)), .inl (G (0) (ii + 4))]) (rest := [.inl (r)]) rfl rfl (by decide) rfl (Nat.le_of_ble_eq_true rfl) (Nat.le_of_ble_eq_true rfl) (Nat.le_of_ble_eq_true rfl) (Nat.le_of_ble_eq_true rfl) rfl rfl rfl rfl ?_
    refine tw _ (fun θ2 Γ2 F2 G2 h2 hn2 => ?_)
    show pw pP mSBLaw_law (460, [some (.inr (some (0))), some (.inr (some (1))), some (.inr (some (103))), some (.inl (nI (ii)))], [.inl (r), .inl (r)], 130, 14975, hb (sL L) F2 G2 R1 sO) _
    refine pw_if2p (A := r = r) rfl rfl (t := 750) rfl (fun _ => ?_) (fun q => absurd rfl q)
    exact k θ2 Γ2 F2 G2 R1 h2 hn2
set_option maxRecDepth 100000 in
theorem lw_c9 {L ii : Nat} {θ : TG} {Γ : Nat → PG} {F G : FN} {R : RN} {Q : Option PV → PH → Prop} (h : CI θ Γ F G R F G) (hL : L ≤ 2563) (hii : ii + 5 ≤ L) (hnw : θ.now + 60 < 2 ^ 20) (k : ∀ (θ2 : TG) (Γ2 : Nat → PG) (F2 G2 : FN) (R2 : RN), CI θ2 Γ2 F2 G2 R2 F2 G2 → θ2.now ≤ θ.now + 60 → pw pP mSBLaw_law (750, [some (.inr (some 0)), some (.inr (some 1)), some (.inr (some 103)), some (.inl (nI ii))], [], 130, 14975, hb (sL L) F2 G2 R2 sO) Q) : pw pP mSBLaw_law (465, [some (.inr (some (0))), some (.inr (some (1))), some (.inr (some (103))), some (.inl (nI (ii)))], [], 130, 14975, hb (sL L) F G R sO) Q := by
  refine pw_aload_n rfl rfl ?_
  refine pw_aload_n rfl rfl ?_
  refine pw_iload_n rfl rfl ?_
  refine pw_iconst (v := nI (1)) rfl (by decide) ?_
  refine pw_iadd (z := nI (ii + 1)) rfl (nI_add _ _) ?_
  refine px_saldn (x := G (0) (ii + 1)) rfl rfl (by omega) (by omega) (rfl) ?_
  refine pw_aload_n rfl rfl ?_
  refine pw_iload_n rfl rfl ?_
  refine pw_iconst (v := nI (2)) rfl (by decide) ?_
  refine pw_iadd (z := nI (ii + 2)) rfl (nI_add _ _) ?_
  refine px_saldn (x := G (0) (ii + 2)) rfl rfl (by omega) (by omega) (rfl) ?_
  refine pw_if1p (A := G (0) (ii + 2) = 0) rfl rfl (t := 483) rfl (fun c1 => ?_) (fun c1 => ?_)
  · -- 483
    refine pw_iconst (v := nI (0)) rfl (by decide) ?_
    refine px_callv (as := [.inr (some (1)), .inl (G (0) (ii + 1)), .inl (nI (0))]) (rest := []) rfl rfl (by decide) rfl (Nat.le_of_ble_eq_true rfl) (Nat.le_of_ble_eq_true rfl) (Nat.le_of_ble_eq_true rfl) (Nat.le_of_ble_eq_true rfl) rfl rfl rfl rfl ?_
    refine pr_flight0 h L _ (fun r F1 G1 R1 hf tw => ?_)
    show pw pP mSBLaw_law (487, [some (.inr (some (0))), some (.inr (some (1))), some (.inr (some (103))), some (.inl (nI (ii)))], [.inl (r)], 130, 14975, hb (sL L) F1 G1 R1 sO) _
    refine pw_aload_n rfl rfl ?_
    refine pw_aload_n rfl rfl ?_
    refine pw_iload_n rfl rfl ?_
    refine pw_iconst (v := nI (1)) rfl (by decide) ?_
    refine pw_iadd (z := nI (ii + 1)) rfl (nI_add _ _) ?_
    refine px_saldn (x := G (0) (ii + 1)) rfl rfl (by omega) (by omega) (congrFun (hf.2 0 (.inr rfl)) _) ?_
    refine pw_aload_n rfl rfl ?_
    refine pw_iload_n rfl rfl ?_
    refine pw_iconst (v := nI (2)) rfl (by decide) ?_
    refine pw_iadd (z := nI (ii + 2)) rfl (nI_add _ _) ?_
    refine px_saldn (x := G (0) (ii + 2)) rfl rfl (by omega) (by omega) (congrFun (hf.2 0 (.inr rfl)) _) ?_
    refine pw_if1p (A := G (0) (ii + 2) = 0) rfl rfl (t := 505) rfl (fun _ => ?_) (fun q => absurd c1 q)
    refine pw_iconst (v := nI (0)) rfl (by decide) ?_
    refine px_callv (as := [.inr (some (103)), .inl (G (0) (ii + 1)), .inl (nI (0))]) (rest := [.inl (r)]) rfl rfl (by decide) rfl (Nat.le_of_ble_eq_true rfl) (Nat.le_of_ble_eq_true rfl) (Nat.le_of_ble_eq_true rfl) (Nat.le_of_ble_eq_true rfl) rfl rfl rfl rfl ?_
    refine tw _ (fun θ2 Γ2 F2 G2 h2 hn2 => ?_)
    show pw pP mSBLaw_law (509, [some (.inr (some (0))), some (.inr (some (1))), some (.inr (some (103))), some (.inl (nI (ii)))], [.inl (r), .inl (r)], 130, 14975, hb (sL L) F2 G2 R1 sO) _
    refine pw_if2p (A := r = r) rfl rfl (t := 750) rfl (fun _ => ?_) (fun q => absurd rfl q)
    exact k θ2 Γ2 F2 G2 R1 h2 hn2
  · -- 479
    refine pw_iconst (v := nI (1)) rfl (by decide) ?_
    refine pw_goto (t := 484) rfl rfl ?_
    refine px_callv (as := [.inr (some (1)), .inl (G (0) (ii + 1)), .inl (nI (1))]) (rest := []) rfl rfl (by decide) rfl (Nat.le_of_ble_eq_true rfl) (Nat.le_of_ble_eq_true rfl) (Nat.le_of_ble_eq_true rfl) (Nat.le_of_ble_eq_true rfl) rfl rfl rfl rfl ?_
    refine pr_flight1 h L _ (fun r F1 G1 R1 hf tw => ?_)
    show pw pP mSBLaw_law (487, [some (.inr (some (0))), some (.inr (some (1))), some (.inr (some (103))), some (.inl (nI (ii)))], [.inl (r)], 130, 14975, hb (sL L) F1 G1 R1 sO) _
    refine pw_aload_n rfl rfl ?_
    refine pw_aload_n rfl rfl ?_
    refine pw_iload_n rfl rfl ?_
    refine pw_iconst (v := nI (1)) rfl (by decide) ?_
    refine pw_iadd (z := nI (ii + 1)) rfl (nI_add _ _) ?_
    refine px_saldn (x := G (0) (ii + 1)) rfl rfl (by omega) (by omega) (congrFun (hf.2 0 (.inr rfl)) _) ?_
    refine pw_aload_n rfl rfl ?_
    refine pw_iload_n rfl rfl ?_
    refine pw_iconst (v := nI (2)) rfl (by decide) ?_
    refine pw_iadd (z := nI (ii + 2)) rfl (nI_add _ _) ?_
    refine px_saldn (x := G (0) (ii + 2)) rfl rfl (by omega) (by omega) (congrFun (hf.2 0 (.inr rfl)) _) ?_
    refine pw_if1p (A := G (0) (ii + 2) = 0) rfl rfl (t := 505) rfl (fun q => absurd q c1) (fun _ => ?_)
    refine pw_iconst (v := nI (1)) rfl (by decide) ?_
    refine pw_goto (t := 506) rfl rfl ?_
    refine px_callv (as := [.inr (some (103)), .inl (G (0) (ii + 1)), .inl (nI (1))]) (rest := [.inl (r)]) rfl rfl (by decide) rfl (Nat.le_of_ble_eq_true rfl) (Nat.le_of_ble_eq_true rfl) (Nat.le_of_ble_eq_true rfl) (Nat.le_of_ble_eq_true rfl) rfl rfl rfl rfl ?_
    refine tw _ (fun θ2 Γ2 F2 G2 h2 hn2 => ?_)
    show pw pP mSBLaw_law (509, [some (.inr (some (0))), some (.inr (some (1))), some (.inr (some (103))), some (.inl (nI (ii)))], [.inl (r), .inl (r)], 130, 14975, hb (sL L) F2 G2 R1 sO) _
    refine pw_if2p (A := r = r) rfl rfl (t := 750) rfl (fun _ => ?_) (fun q => absurd rfl q)
    exact k θ2 Γ2 F2 G2 R1 h2 hn2
set_option maxRecDepth 100000 in
theorem lw_c10 {L ii : Nat} {θ : TG} {Γ : Nat → PG} {F G : FN} {R : RN} {Q : Option PV → PH → Prop} (h : CI θ Γ F G R F G) (hL : L ≤ 2563) (hii : ii + 5 ≤ L) (hnw : θ.now + 60 < 2 ^ 20) (k : ∀ (θ2 : TG) (Γ2 : Nat → PG) (F2 G2 : FN) (R2 : RN), CI θ2 Γ2 F2 G2 R2 F2 G2 → θ2.now ≤ θ.now + 60 → pw pP mSBLaw_law (750, [some (.inr (some 0)), some (.inr (some 1)), some (.inr (some 103)), some (.inl (nI ii))], [], 130, 14975, hb (sL L) F2 G2 R2 sO) Q) : pw pP mSBLaw_law (514, [some (.inr (some (0))), some (.inr (some (1))), some (.inr (some (103))), some (.inl (nI (ii)))], [], 130, 14975, hb (sL L) F G R sO) Q := by
  refine pw_aload_n rfl rfl ?_
  refine pw_aload_n rfl rfl ?_
  refine pw_iload_n rfl rfl ?_
  refine pw_iconst (v := nI (1)) rfl (by decide) ?_
  refine pw_iadd (z := nI (ii + 1)) rfl (nI_add _ _) ?_
  refine px_saldn (x := G (0) (ii + 1)) rfl rfl (by omega) (by omega) (rfl) ?_
  refine pw_aload_n rfl rfl ?_
  refine pw_iload_n rfl rfl ?_
  refine pw_iconst (v := nI (2)) rfl (by decide) ?_
  refine pw_iadd (z := nI (ii + 2)) rfl (nI_add _ _) ?_
  refine px_saldn (x := G (0) (ii + 2)) rfl rfl (by omega) (by omega) (rfl) ?_
  refine pw_if1p (A := G (0) (ii + 2) = 0) rfl rfl (t := 532) rfl (fun c1 => ?_) (fun c1 => ?_)
  · -- 532
    refine pw_iconst (v := nI (0)) rfl (by decide) ?_
    refine pw_aload_n rfl rfl ?_
    refine pw_iload_n rfl rfl ?_
    refine pw_iconst (v := nI (3)) rfl (by decide) ?_
    refine pw_iadd (z := nI (ii + 3)) rfl (nI_add _ _) ?_
    refine px_saldn (x := G (0) (ii + 3)) rfl rfl (by omega) (by omega) (rfl) ?_
    refine pw_aload_n rfl rfl ?_
    refine pw_iload_n rfl rfl ?_
    refine pw_iconst (v := nI (4)) rfl (by decide) ?_
    refine pw_iadd (z := nI (ii + 4)) rfl (nI_add _ _) ?_
    refine px_saldn (x := G (0) (ii + 4)) rfl rfl (by omega) (by omega) (rfl) ?_
    refine px_callv (as := [.inr (some (1)), .inl (G (0) (ii + 1)), .inl (nI (0)), .inl (G (0) (ii + 3)), .inl (G (0) (ii + 4))]) (rest := []) rfl rfl (by decide) rfl (Nat.le_of_ble_eq_true rfl) (Nat.le_of_ble_eq_true rfl) (Nat.le_of_ble_eq_true rfl) (Nat.le_of_ble_eq_true rfl) rfl rfl rfl rfl ?_
    refine pr_word0 h L _ (fun r F1 G1 R1 hf tw => ?_)
    show pw pP mSBLaw_law (546, [some (.inr (some (0))), some (.inr (some (1))), some (.inr (some (103))), some (.inl (nI (ii)))], [.inl (r)], 130, 14975, hb (sL L) F1 G1 R1 sO) _
    refine pw_aload_n rfl rfl ?_
    refine pw_aload_n rfl rfl ?_
    refine pw_iload_n rfl rfl ?_
    refine pw_iconst (v := nI (1)) rfl (by decide) ?_
    refine pw_iadd (z := nI (ii + 1)) rfl (nI_add _ _) ?_
    refine px_saldn (x := G (0) (ii + 1)) rfl rfl (by omega) (by omega) (congrFun (hf.2 0 (.inr rfl)) _) ?_
    refine pw_aload_n rfl rfl ?_
    refine pw_iload_n rfl rfl ?_
    refine pw_iconst (v := nI (2)) rfl (by decide) ?_
    refine pw_iadd (z := nI (ii + 2)) rfl (nI_add _ _) ?_
    refine px_saldn (x := G (0) (ii + 2)) rfl rfl (by omega) (by omega) (congrFun (hf.2 0 (.inr rfl)) _) ?_
    refine pw_if1p (A := G (0) (ii + 2) = 0) rfl rfl (t := 564) rfl (fun _ => ?_) (fun q => absurd c1 q)
    refine pw_iconst (v := nI (0)) rfl (by decide) ?_
    refine pw_aload_n rfl rfl ?_
    refine pw_iload_n rfl rfl ?_
    refine pw_iconst (v := nI (3)) rfl (by decide) ?_
    refine pw_iadd (z := nI (ii + 3)) rfl (nI_add _ _) ?_
    refine px_saldn (x := G (0) (ii + 3)) rfl rfl (by omega) (by omega) (congrFun (hf.2 0 (.inr rfl)) _) ?_
    refine pw_aload_n rfl rfl ?_
    refine pw_iload_n rfl rfl ?_
    refine pw_iconst (v := nI (4)) rfl (by decide) ?_
    refine pw_iadd (z := nI (ii + 4)) rfl (nI_add _ _) ?_
    refine px_saldn (x := G (0) (ii + 4)) rfl rfl (by omega) (by omega) (congrFun (hf.2 0 (.inr rfl)) _) ?_
    refine px_callv (as := [.inr (some (103)), .inl (G (0) (ii + 1)), .inl (nI (0)), .inl (G (0) (ii + 3)), .inl (G (0) (ii + 4))]) (rest := [.inl (r)]) rfl rfl (by decide) rfl (Nat.le_of_ble_eq_true rfl) (Nat.le_of_ble_eq_true rfl) (Nat.le_of_ble_eq_true rfl) (Nat.le_of_ble_eq_true rfl) rfl rfl rfl rfl ?_
    refine tw _ (fun θ2 Γ2 F2 G2 h2 hn2 => ?_)
    show pw pP mSBLaw_law (578, [some (.inr (some (0))), some (.inr (some (1))), some (.inr (some (103))), some (.inl (nI (ii)))], [.inl (r), .inl (r)], 130, 14975, hb (sL L) F2 G2 R1 sO) _
    refine pw_if2p (A := r = r) rfl rfl (t := 750) rfl (fun _ => ?_) (fun q => absurd rfl q)
    exact k θ2 Γ2 F2 G2 R1 h2 hn2
  · -- 528
    refine pw_iconst (v := nI (1)) rfl (by decide) ?_
    refine pw_goto (t := 533) rfl rfl ?_
    refine pw_aload_n rfl rfl ?_
    refine pw_iload_n rfl rfl ?_
    refine pw_iconst (v := nI (3)) rfl (by decide) ?_
    refine pw_iadd (z := nI (ii + 3)) rfl (nI_add _ _) ?_
    refine px_saldn (x := G (0) (ii + 3)) rfl rfl (by omega) (by omega) (rfl) ?_
    refine pw_aload_n rfl rfl ?_
    refine pw_iload_n rfl rfl ?_
    refine pw_iconst (v := nI (4)) rfl (by decide) ?_
    refine pw_iadd (z := nI (ii + 4)) rfl (nI_add _ _) ?_
    refine px_saldn (x := G (0) (ii + 4)) rfl rfl (by omega) (by omega) (rfl) ?_
    refine px_callv (as := [.inr (some (1)), .inl (G (0) (ii + 1)), .inl (nI (1)), .inl (G (0) (ii + 3)), .inl (G (0) (ii + 4))]) (rest := []) rfl rfl (by decide) rfl (Nat.le_of_ble_eq_true rfl) (Nat.le_of_ble_eq_true rfl) (Nat.le_of_ble_eq_true rfl) (Nat.le_of_ble_eq_true rfl) rfl rfl rfl rfl ?_
    refine pr_word1 h L _ (fun r F1 G1 R1 hf tw => ?_)
    show pw pP mSBLaw_law (546, [some (.inr (some (0))), some (.inr (some (1))), some (.inr (some (103))), some (.inl (nI (ii)))], [.inl (r)], 130, 14975, hb (sL L) F1 G1 R1 sO) _
    refine pw_aload_n rfl rfl ?_
    refine pw_aload_n rfl rfl ?_
    refine pw_iload_n rfl rfl ?_
    refine pw_iconst (v := nI (1)) rfl (by decide) ?_
    refine pw_iadd (z := nI (ii + 1)) rfl (nI_add _ _) ?_
    refine px_saldn (x := G (0) (ii + 1)) rfl rfl (by omega) (by omega) (congrFun (hf.2 0 (.inr rfl)) _) ?_
    refine pw_aload_n rfl rfl ?_
    refine pw_iload_n rfl rfl ?_
    refine pw_iconst (v := nI (2)) rfl (by decide) ?_
    refine pw_iadd (z := nI (ii + 2)) rfl (nI_add _ _) ?_
    refine px_saldn (x := G (0) (ii + 2)) rfl rfl (by omega) (by omega) (congrFun (hf.2 0 (.inr rfl)) _) ?_
    refine pw_if1p (A := G (0) (ii + 2) = 0) rfl rfl (t := 564) rfl (fun q => absurd q c1) (fun _ => ?_)
    refine pw_iconst (v := nI (1)) rfl (by decide) ?_
    refine pw_goto (t := 565) rfl rfl ?_
    refine pw_aload_n rfl rfl ?_
    refine pw_iload_n rfl rfl ?_
    refine pw_iconst (v := nI (3)) rfl (by decide) ?_
    refine pw_iadd (z := nI (ii + 3)) rfl (nI_add _ _) ?_
    refine px_saldn (x := G (0) (ii + 3)) rfl rfl (by omega) (by omega) (congrFun (hf.2 0 (.inr rfl)) _) ?_
    refine pw_aload_n rfl rfl ?_
    refine pw_iload_n rfl rfl ?_
    refine pw_iconst (v := nI (4)) rfl (by decide) ?_
    refine pw_iadd (z := nI (ii + 4)) rfl (nI_add _ _) ?_
    refine px_saldn (x := G (0) (ii + 4)) rfl rfl (by omega) (by omega) (congrFun (hf.2 0 (.inr rfl)) _) ?_
    refine px_callv (as := [.inr (some (103)), .inl (G (0) (ii + 1)), .inl (nI (1)), .inl (G (0) (ii + 3)), .inl (G (0) (ii + 4))]) (rest := [.inl (r)]) rfl rfl (by decide) rfl (Nat.le_of_ble_eq_true rfl) (Nat.le_of_ble_eq_true rfl) (Nat.le_of_ble_eq_true rfl) (Nat.le_of_ble_eq_true rfl) rfl rfl rfl rfl ?_
    refine tw _ (fun θ2 Γ2 F2 G2 h2 hn2 => ?_)
    show pw pP mSBLaw_law (578, [some (.inr (some (0))), some (.inr (some (1))), some (.inr (some (103))), some (.inl (nI (ii)))], [.inl (r), .inl (r)], 130, 14975, hb (sL L) F2 G2 R1 sO) _
    refine pw_if2p (A := r = r) rfl rfl (t := 750) rfl (fun _ => ?_) (fun q => absurd rfl q)
    exact k θ2 Γ2 F2 G2 R1 h2 hn2
set_option maxRecDepth 100000 in
theorem lw_c11 {L ii : Nat} {θ : TG} {Γ : Nat → PG} {F G : FN} {R : RN} {Q : Option PV → PH → Prop} (h : CI θ Γ F G R F G) (hL : L ≤ 2563) (hii : ii + 5 ≤ L) (hnw : θ.now + 60 < 2 ^ 20) (k : ∀ (θ2 : TG) (Γ2 : Nat → PG) (F2 G2 : FN) (R2 : RN), CI θ2 Γ2 F2 G2 R2 F2 G2 → θ2.now ≤ θ.now + 60 → pw pP mSBLaw_law (750, [some (.inr (some 0)), some (.inr (some 1)), some (.inr (some 103)), some (.inl (nI ii))], [], 130, 14975, hb (sL L) F2 G2 R2 sO) Q) : pw pP mSBLaw_law (583, [some (.inr (some (0))), some (.inr (some (1))), some (.inr (some (103))), some (.inl (nI (ii)))], [], 130, 14975, hb (sL L) F G R sO) Q := by
  refine pw_aload_n rfl rfl ?_
  refine pw_aload_n rfl rfl ?_
  refine pw_iload_n rfl rfl ?_
  refine pw_iconst (v := nI (1)) rfl (by decide) ?_
  refine pw_iadd (z := nI (ii + 1)) rfl (nI_add _ _) ?_
  refine px_saldn (x := G (0) (ii + 1)) rfl rfl (by omega) (by omega) (rfl) ?_
  refine px_callv (as := [.inr (some (1)), .inl (G (0) (ii + 1))]) (rest := []) rfl rfl (by decide) rfl (Nat.le_of_ble_eq_true rfl) (Nat.le_of_ble_eq_true rfl) (Nat.le_of_ble_eq_true rfl) (Nat.le_of_ble_eq_true rfl) rfl rfl rfl rfl ?_
  refine pr_state h L _ (fun r F1 G1 R1 hf tw => ?_)
  show pw pP mSBLaw_law (592, [some (.inr (some (0))), some (.inr (some (1))), some (.inr (some (103))), some (.inl (nI (ii)))], [.inl (r)], 130, 14975, hb (sL L) F1 G1 R1 sO) _
  refine pw_aload_n rfl rfl ?_
  refine pw_aload_n rfl rfl ?_
  refine pw_iload_n rfl rfl ?_
  refine pw_iconst (v := nI (1)) rfl (by decide) ?_
  refine pw_iadd (z := nI (ii + 1)) rfl (nI_add _ _) ?_
  refine px_saldn (x := G (0) (ii + 1)) rfl rfl (by omega) (by omega) (congrFun (hf.2 0 (.inr rfl)) _) ?_
  refine px_callv (as := [.inr (some (103)), .inl (G (0) (ii + 1))]) (rest := [.inl (r)]) rfl rfl (by decide) rfl (Nat.le_of_ble_eq_true rfl) (Nat.le_of_ble_eq_true rfl) (Nat.le_of_ble_eq_true rfl) (Nat.le_of_ble_eq_true rfl) rfl rfl rfl rfl ?_
  refine tw _ (fun θ2 Γ2 F2 G2 h2 hn2 => ?_)
  show pw pP mSBLaw_law (601, [some (.inr (some (0))), some (.inr (some (1))), some (.inr (some (103))), some (.inl (nI (ii)))], [.inl (r), .inl (r)], 130, 14975, hb (sL L) F2 G2 R1 sO) _
  refine pw_if2p (A := r = r) rfl rfl (t := 750) rfl (fun _ => ?_) (fun q => absurd rfl q)
  exact k θ2 Γ2 F2 G2 R1 h2 hn2
set_option maxRecDepth 100000 in
theorem lw_c12 {L ii : Nat} {θ : TG} {Γ : Nat → PG} {F G : FN} {R : RN} {Q : Option PV → PH → Prop} (h : CI θ Γ F G R F G) (hL : L ≤ 2563) (hii : ii + 5 ≤ L) (hnw : θ.now + 60 < 2 ^ 20) (k : ∀ (θ2 : TG) (Γ2 : Nat → PG) (F2 G2 : FN) (R2 : RN), CI θ2 Γ2 F2 G2 R2 F2 G2 → θ2.now ≤ θ.now + 60 → pw pP mSBLaw_law (750, [some (.inr (some 0)), some (.inr (some 1)), some (.inr (some 103)), some (.inl (nI ii))], [], 130, 14975, hb (sL L) F2 G2 R2 sO) Q) : pw pP mSBLaw_law (606, [some (.inr (some (0))), some (.inr (some (1))), some (.inr (some (103))), some (.inl (nI (ii)))], [], 130, 14975, hb (sL L) F G R sO) Q := by
  refine pw_aload_n rfl rfl ?_
  refine pw_aload_n rfl rfl ?_
  refine pw_iload_n rfl rfl ?_
  refine pw_iconst (v := nI (1)) rfl (by decide) ?_
  refine pw_iadd (z := nI (ii + 1)) rfl (nI_add _ _) ?_
  refine px_saldn (x := G (0) (ii + 1)) rfl rfl (by omega) (by omega) (rfl) ?_
  refine px_callv (as := [.inr (some (1)), .inl (G (0) (ii + 1))]) (rest := []) rfl rfl (by decide) rfl (Nat.le_of_ble_eq_true rfl) (Nat.le_of_ble_eq_true rfl) (Nat.le_of_ble_eq_true rfl) (Nat.le_of_ble_eq_true rfl) rfl rfl rfl rfl ?_
  refine pr_smooth h L _ (fun r F1 G1 R1 hf tw => ?_)
  show pw pP mSBLaw_law (615, [some (.inr (some (0))), some (.inr (some (1))), some (.inr (some (103))), some (.inl (nI (ii)))], [.inl (r)], 130, 14975, hb (sL L) F1 G1 R1 sO) _
  refine pw_aload_n rfl rfl ?_
  refine pw_aload_n rfl rfl ?_
  refine pw_iload_n rfl rfl ?_
  refine pw_iconst (v := nI (1)) rfl (by decide) ?_
  refine pw_iadd (z := nI (ii + 1)) rfl (nI_add _ _) ?_
  refine px_saldn (x := G (0) (ii + 1)) rfl rfl (by omega) (by omega) (congrFun (hf.2 0 (.inr rfl)) _) ?_
  refine px_callv (as := [.inr (some (103)), .inl (G (0) (ii + 1))]) (rest := [.inl (r)]) rfl rfl (by decide) rfl (Nat.le_of_ble_eq_true rfl) (Nat.le_of_ble_eq_true rfl) (Nat.le_of_ble_eq_true rfl) (Nat.le_of_ble_eq_true rfl) rfl rfl rfl rfl ?_
  refine tw _ (fun θ2 Γ2 F2 G2 h2 hn2 => ?_)
  show pw pP mSBLaw_law (624, [some (.inr (some (0))), some (.inr (some (1))), some (.inr (some (103))), some (.inl (nI (ii)))], [.inl (r), .inl (r)], 130, 14975, hb (sL L) F2 G2 R1 sO) _
  refine pw_if2p (A := r = r) rfl rfl (t := 750) rfl (fun _ => ?_) (fun q => absurd rfl q)
  exact k θ2 Γ2 F2 G2 R1 h2 hn2
set_option maxRecDepth 100000 in
theorem lw_c13 {L ii : Nat} {θ : TG} {Γ : Nat → PG} {F G : FN} {R : RN} {Q : Option PV → PH → Prop} (h : CI θ Γ F G R F G) (hL : L ≤ 2563) (hii : ii + 5 ≤ L) (hnw : θ.now + 60 < 2 ^ 20) (k : ∀ (θ2 : TG) (Γ2 : Nat → PG) (F2 G2 : FN) (R2 : RN), CI θ2 Γ2 F2 G2 R2 F2 G2 → θ2.now ≤ θ.now + 60 → pw pP mSBLaw_law (750, [some (.inr (some 0)), some (.inr (some 1)), some (.inr (some 103)), some (.inl (nI ii))], [], 130, 14975, hb (sL L) F2 G2 R2 sO) Q) : pw pP mSBLaw_law (629, [some (.inr (some (0))), some (.inr (some (1))), some (.inr (some (103))), some (.inl (nI (ii)))], [], 130, 14975, hb (sL L) F G R sO) Q := by
  refine pw_aload_n rfl rfl ?_
  refine pw_aload_n rfl rfl ?_
  refine pw_iload_n rfl rfl ?_
  refine pw_iconst (v := nI (1)) rfl (by decide) ?_
  refine pw_iadd (z := nI (ii + 1)) rfl (nI_add _ _) ?_
  refine px_saldn (x := G (0) (ii + 1)) rfl rfl (by omega) (by omega) (rfl) ?_
  refine px_callv (as := [.inr (some (1)), .inl (G (0) (ii + 1))]) (rest := []) rfl rfl (by decide) rfl (Nat.le_of_ble_eq_true rfl) (Nat.le_of_ble_eq_true rfl) (Nat.le_of_ble_eq_true rfl) (Nat.le_of_ble_eq_true rfl) rfl rfl rfl rfl ?_
  refine pr_timeout h L _ (fun r F1 G1 R1 hf tw => ?_)
  show pw pP mSBLaw_law (638, [some (.inr (some (0))), some (.inr (some (1))), some (.inr (some (103))), some (.inl (nI (ii)))], [.inl (r)], 130, 14975, hb (sL L) F1 G1 R1 sO) _
  refine pw_aload_n rfl rfl ?_
  refine pw_aload_n rfl rfl ?_
  refine pw_iload_n rfl rfl ?_
  refine pw_iconst (v := nI (1)) rfl (by decide) ?_
  refine pw_iadd (z := nI (ii + 1)) rfl (nI_add _ _) ?_
  refine px_saldn (x := G (0) (ii + 1)) rfl rfl (by omega) (by omega) (congrFun (hf.2 0 (.inr rfl)) _) ?_
  refine px_callv (as := [.inr (some (103)), .inl (G (0) (ii + 1))]) (rest := [.inl (r)]) rfl rfl (by decide) rfl (Nat.le_of_ble_eq_true rfl) (Nat.le_of_ble_eq_true rfl) (Nat.le_of_ble_eq_true rfl) (Nat.le_of_ble_eq_true rfl) rfl rfl rfl rfl ?_
  refine tw _ (fun θ2 Γ2 F2 G2 h2 hn2 => ?_)
  show pw pP mSBLaw_law (647, [some (.inr (some (0))), some (.inr (some (1))), some (.inr (some (103))), some (.inl (nI (ii)))], [.inl (r), .inl (r)], 130, 14975, hb (sL L) F2 G2 R1 sO) _
  refine pw_if2p (A := r = r) rfl rfl (t := 750) rfl (fun _ => ?_) (fun q => absurd rfl q)
  exact k θ2 Γ2 F2 G2 R1 h2 hn2
set_option maxRecDepth 100000 in
theorem lw_c14 {L ii : Nat} {θ : TG} {Γ : Nat → PG} {F G : FN} {R : RN} {Q : Option PV → PH → Prop} (h : CI θ Γ F G R F G) (hL : L ≤ 2563) (hii : ii + 5 ≤ L) (hnw : θ.now + 60 < 2 ^ 20) (k : ∀ (θ2 : TG) (Γ2 : Nat → PG) (F2 G2 : FN) (R2 : RN), CI θ2 Γ2 F2 G2 R2 F2 G2 → θ2.now ≤ θ.now + 60 → pw pP mSBLaw_law (750, [some (.inr (some 0)), some (.inr (some 1)), some (.inr (some 103)), some (.inl (nI ii))], [], 130, 14975, hb (sL L) F2 G2 R2 sO) Q) : pw pP mSBLaw_law (652, [some (.inr (some (0))), some (.inr (some (1))), some (.inr (some (103))), some (.inl (nI (ii)))], [], 130, 14975, hb (sL L) F G R sO) Q := by
  refine pw_aload_n rfl rfl ?_
  refine pw_aload_n rfl rfl ?_
  refine pw_iload_n rfl rfl ?_
  refine pw_iconst (v := nI (1)) rfl (by decide) ?_
  refine pw_iadd (z := nI (ii + 1)) rfl (nI_add _ _) ?_
  refine px_saldn (x := G (0) (ii + 1)) rfl rfl (by omega) (by omega) (rfl) ?_
  refine px_callv (as := [.inr (some (1)), .inl (G (0) (ii + 1))]) (rest := []) rfl rfl (by decide) rfl (Nat.le_of_ble_eq_true rfl) (Nat.le_of_ble_eq_true rfl) (Nat.le_of_ble_eq_true rfl) (Nat.le_of_ble_eq_true rfl) rfl rfl rfl rfl ?_
  refine pr_unacked h L _ (fun r F1 G1 R1 hf tw => ?_)
  show pw pP mSBLaw_law (661, [some (.inr (some (0))), some (.inr (some (1))), some (.inr (some (103))), some (.inl (nI (ii)))], [.inl (r)], 130, 14975, hb (sL L) F1 G1 R1 sO) _
  refine pw_aload_n rfl rfl ?_
  refine pw_aload_n rfl rfl ?_
  refine pw_iload_n rfl rfl ?_
  refine pw_iconst (v := nI (1)) rfl (by decide) ?_
  refine pw_iadd (z := nI (ii + 1)) rfl (nI_add _ _) ?_
  refine px_saldn (x := G (0) (ii + 1)) rfl rfl (by omega) (by omega) (congrFun (hf.2 0 (.inr rfl)) _) ?_
  refine px_callv (as := [.inr (some (103)), .inl (G (0) (ii + 1))]) (rest := [.inl (r)]) rfl rfl (by decide) rfl (Nat.le_of_ble_eq_true rfl) (Nat.le_of_ble_eq_true rfl) (Nat.le_of_ble_eq_true rfl) (Nat.le_of_ble_eq_true rfl) rfl rfl rfl rfl ?_
  refine tw _ (fun θ2 Γ2 F2 G2 h2 hn2 => ?_)
  show pw pP mSBLaw_law (670, [some (.inr (some (0))), some (.inr (some (1))), some (.inr (some (103))), some (.inl (nI (ii)))], [.inl (r), .inl (r)], 130, 14975, hb (sL L) F2 G2 R1 sO) _
  refine pw_if2p (A := r = r) rfl rfl (t := 750) rfl (fun _ => ?_) (fun q => absurd rfl q)
  exact k θ2 Γ2 F2 G2 R1 h2 hn2
set_option maxRecDepth 100000 in
theorem lw_c15 {L ii : Nat} {θ : TG} {Γ : Nat → PG} {F G : FN} {R : RN} {Q : Option PV → PH → Prop} (h : CI θ Γ F G R F G) (hL : L ≤ 2563) (hii : ii + 5 ≤ L) (hnw : θ.now + 60 < 2 ^ 20) (k : ∀ (θ2 : TG) (Γ2 : Nat → PG) (F2 G2 : FN) (R2 : RN), CI θ2 Γ2 F2 G2 R2 F2 G2 → θ2.now ≤ θ.now + 60 → pw pP mSBLaw_law (750, [some (.inr (some 0)), some (.inr (some 1)), some (.inr (some 103)), some (.inl (nI ii))], [], 130, 14975, hb (sL L) F2 G2 R2 sO) Q) : pw pP mSBLaw_law (675, [some (.inr (some (0))), some (.inr (some (1))), some (.inr (some (103))), some (.inl (nI (ii)))], [], 130, 14975, hb (sL L) F G R sO) Q := by
  refine pw_aload_n rfl rfl ?_
  refine px_callv (as := [.inr (some (1))]) (rest := []) rfl rfl (by decide) rfl (Nat.le_of_ble_eq_true rfl) (Nat.le_of_ble_eq_true rfl) (Nat.le_of_ble_eq_true rfl) (Nat.le_of_ble_eq_true rfl) rfl rfl rfl rfl ?_
  refine pr_ack h L _ (fun r F1 G1 R1 hf tw => ?_)
  show pw pP mSBLaw_law (679, [some (.inr (some (0))), some (.inr (some (1))), some (.inr (some (103))), some (.inl (nI (ii)))], [.inl (r)], 130, 14975, hb (sL L) F1 G1 R1 sO) _
  refine pw_aload_n rfl rfl ?_
  refine px_callv (as := [.inr (some (103))]) (rest := [.inl (r)]) rfl rfl (by decide) rfl (Nat.le_of_ble_eq_true rfl) (Nat.le_of_ble_eq_true rfl) (Nat.le_of_ble_eq_true rfl) (Nat.le_of_ble_eq_true rfl) rfl rfl rfl rfl ?_
  refine tw _ (fun θ2 Γ2 F2 G2 h2 hn2 => ?_)
  show pw pP mSBLaw_law (683, [some (.inr (some (0))), some (.inr (some (1))), some (.inr (some (103))), some (.inl (nI (ii)))], [.inl (r), .inl (r)], 130, 14975, hb (sL L) F2 G2 R1 sO) _
  refine pw_if2p (A := r = r) rfl rfl (t := 750) rfl (fun _ => ?_) (fun q => absurd rfl q)
  exact k θ2 Γ2 F2 G2 R1 h2 hn2
set_option maxRecDepth 100000 in
theorem lw_c16 {L ii : Nat} {θ : TG} {Γ : Nat → PG} {F G : FN} {R : RN} {Q : Option PV → PH → Prop} (h : CI θ Γ F G R F G) (hL : L ≤ 2563) (hii : ii + 5 ≤ L) (hnw : θ.now + 60 < 2 ^ 20) (k : ∀ (θ2 : TG) (Γ2 : Nat → PG) (F2 G2 : FN) (R2 : RN), CI θ2 Γ2 F2 G2 R2 F2 G2 → θ2.now ≤ θ.now + 60 → pw pP mSBLaw_law (750, [some (.inr (some 0)), some (.inr (some 1)), some (.inr (some 103)), some (.inl (nI ii))], [], 130, 14975, hb (sL L) F2 G2 R2 sO) Q) : pw pP mSBLaw_law (688, [some (.inr (some (0))), some (.inr (some (1))), some (.inr (some (103))), some (.inl (nI (ii)))], [], 130, 14975, hb (sL L) F G R sO) Q := by
  refine pw_aload_n rfl rfl ?_
  refine px_callv (as := [.inr (some (1))]) (rest := []) rfl rfl (by decide) rfl (Nat.le_of_ble_eq_true rfl) (Nat.le_of_ble_eq_true rfl) (Nat.le_of_ble_eq_true rfl) (Nat.le_of_ble_eq_true rfl) rfl rfl rfl rfl ?_
  refine pr_recv h L _ (fun r F1 G1 R1 hf tw => ?_)
  show pw pP mSBLaw_law (692, [some (.inr (some (0))), some (.inr (some (1))), some (.inr (some (103))), some (.inl (nI (ii)))], [.inl (r)], 130, 14975, hb (sL L) F1 G1 R1 sO) _
  refine pw_aload_n rfl rfl ?_
  refine px_callv (as := [.inr (some (103))]) (rest := [.inl (r)]) rfl rfl (by decide) rfl (Nat.le_of_ble_eq_true rfl) (Nat.le_of_ble_eq_true rfl) (Nat.le_of_ble_eq_true rfl) (Nat.le_of_ble_eq_true rfl) rfl rfl rfl rfl ?_
  refine tw _ (fun θ2 Γ2 F2 G2 h2 hn2 => ?_)
  show pw pP mSBLaw_law (696, [some (.inr (some (0))), some (.inr (some (1))), some (.inr (some (103))), some (.inl (nI (ii)))], [.inl (r), .inl (r)], 130, 14975, hb (sL L) F2 G2 R1 sO) _
  refine pw_if2p (A := r = r) rfl rfl (t := 750) rfl (fun _ => ?_) (fun q => absurd rfl q)
  exact k θ2 Γ2 F2 G2 R1 h2 hn2
set_option maxRecDepth 100000 in
theorem lw_c17 {L ii : Nat} {θ : TG} {Γ : Nat → PG} {F G : FN} {R : RN} {Q : Option PV → PH → Prop} (h : CI θ Γ F G R F G) (hL : L ≤ 2563) (hii : ii + 5 ≤ L) (hnw : θ.now + 60 < 2 ^ 20) (k : ∀ (θ2 : TG) (Γ2 : Nat → PG) (F2 G2 : FN) (R2 : RN), CI θ2 Γ2 F2 G2 R2 F2 G2 → θ2.now ≤ θ.now + 60 → pw pP mSBLaw_law (750, [some (.inr (some 0)), some (.inr (some 1)), some (.inr (some 103)), some (.inl (nI ii))], [], 130, 14975, hb (sL L) F2 G2 R2 sO) Q) : pw pP mSBLaw_law (701, [some (.inr (some (0))), some (.inr (some (1))), some (.inr (some (103))), some (.inl (nI (ii)))], [], 130, 14975, hb (sL L) F G R sO) Q := by
  refine pw_aload_n rfl rfl ?_
  refine pw_aload_n rfl rfl ?_
  refine pw_iload_n rfl rfl ?_
  refine pw_iconst (v := nI (1)) rfl (by decide) ?_
  refine pw_iadd (z := nI (ii + 1)) rfl (nI_add _ _) ?_
  refine px_saldn (x := G (0) (ii + 1)) rfl rfl (by omega) (by omega) (rfl) ?_
  refine px_callv (as := [.inr (some (1)), .inl (G (0) (ii + 1))]) (rest := []) rfl rfl (by decide) rfl (Nat.le_of_ble_eq_true rfl) (Nat.le_of_ble_eq_true rfl) (Nat.le_of_ble_eq_true rfl) (Nat.le_of_ble_eq_true rfl) rfl rfl rfl rfl ?_
  refine pr_sent h L _ (fun r F1 G1 R1 hf tw => ?_)
  show pw pP mSBLaw_law (710, [some (.inr (some (0))), some (.inr (some (1))), some (.inr (some (103))), some (.inl (nI (ii)))], [.inl (r)], 130, 14975, hb (sL L) F1 G1 R1 sO) _
  refine pw_aload_n rfl rfl ?_
  refine pw_aload_n rfl rfl ?_
  refine pw_iload_n rfl rfl ?_
  refine pw_iconst (v := nI (1)) rfl (by decide) ?_
  refine pw_iadd (z := nI (ii + 1)) rfl (nI_add _ _) ?_
  refine px_saldn (x := G (0) (ii + 1)) rfl rfl (by omega) (by omega) (congrFun (hf.2 0 (.inr rfl)) _) ?_
  refine px_callv (as := [.inr (some (103)), .inl (G (0) (ii + 1))]) (rest := [.inl (r)]) rfl rfl (by decide) rfl (Nat.le_of_ble_eq_true rfl) (Nat.le_of_ble_eq_true rfl) (Nat.le_of_ble_eq_true rfl) (Nat.le_of_ble_eq_true rfl) rfl rfl rfl rfl ?_
  refine tw _ (fun θ2 Γ2 F2 G2 h2 hn2 => ?_)
  show pw pP mSBLaw_law (719, [some (.inr (some (0))), some (.inr (some (1))), some (.inr (some (103))), some (.inl (nI (ii)))], [.inl (r), .inl (r)], 130, 14975, hb (sL L) F2 G2 R1 sO) _
  refine pw_if2p (A := r = r) rfl rfl (t := 750) rfl (fun _ => ?_) (fun q => absurd rfl q)
  exact k θ2 Γ2 F2 G2 R1 h2 hn2
set_option maxRecDepth 100000 in
theorem lw_c18 {L ii : Nat} {θ : TG} {Γ : Nat → PG} {F G : FN} {R : RN} {Q : Option PV → PH → Prop} (h : CI θ Γ F G R F G) (hL : L ≤ 2563) (hii : ii + 5 ≤ L) (hnw : θ.now + 60 < 2 ^ 20) (k : ∀ (θ2 : TG) (Γ2 : Nat → PG) (F2 G2 : FN) (R2 : RN), CI θ2 Γ2 F2 G2 R2 F2 G2 → θ2.now ≤ θ.now + 60 → pw pP mSBLaw_law (750, [some (.inr (some 0)), some (.inr (some 1)), some (.inr (some 103)), some (.inl (nI ii))], [], 130, 14975, hb (sL L) F2 G2 R2 sO) Q) : pw pP mSBLaw_law (724, [some (.inr (some (0))), some (.inr (some (1))), some (.inr (some (103))), some (.inl (nI (ii)))], [], 130, 14975, hb (sL L) F G R sO) Q := by
  refine pw_aload_n rfl rfl ?_
  refine px_callv (as := [.inr (some (1))]) (rest := []) rfl rfl (by decide) rfl (Nat.le_of_ble_eq_true rfl) (Nat.le_of_ble_eq_true rfl) (Nat.le_of_ble_eq_true rfl) (Nat.le_of_ble_eq_true rfl) rfl rfl rfl rfl ?_
  refine pr_rein h L _ (fun r F1 G1 R1 hf tw => ?_)
  show pw pP mSBLaw_law (728, [some (.inr (some (0))), some (.inr (some (1))), some (.inr (some (103))), some (.inl (nI (ii)))], [.inl (r)], 130, 14975, hb (sL L) F1 G1 R1 sO) _
  refine pw_aload_n rfl rfl ?_
  refine px_callv (as := [.inr (some (103))]) (rest := [.inl (r)]) rfl rfl (by decide) rfl (Nat.le_of_ble_eq_true rfl) (Nat.le_of_ble_eq_true rfl) (Nat.le_of_ble_eq_true rfl) (Nat.le_of_ble_eq_true rfl) rfl rfl rfl rfl ?_
  refine tw _ (fun θ2 Γ2 F2 G2 h2 hn2 => ?_)
  show pw pP mSBLaw_law (732, [some (.inr (some (0))), some (.inr (some (1))), some (.inr (some (103))), some (.inl (nI (ii)))], [.inl (r), .inl (r)], 130, 14975, hb (sL L) F2 G2 R1 sO) _
  refine pw_if2p (A := r = r) rfl rfl (t := 750) rfl (fun _ => ?_) (fun q => absurd rfl q)
  exact k θ2 Γ2 F2 G2 R1 h2 hn2
set_option maxRecDepth 100000 in
theorem lw_c19 {L ii : Nat} {θ : TG} {Γ : Nat → PG} {F G : FN} {R : RN} {Q : Option PV → PH → Prop} (h : CI θ Γ F G R F G) (hL : L ≤ 2563) (hii : ii + 5 ≤ L) (hnw : θ.now + 60 < 2 ^ 20) (k : ∀ (θ2 : TG) (Γ2 : Nat → PG) (F2 G2 : FN) (R2 : RN), CI θ2 Γ2 F2 G2 R2 F2 G2 → θ2.now ≤ θ.now + 60 → pw pP mSBLaw_law (750, [some (.inr (some 0)), some (.inr (some 1)), some (.inr (some 103)), some (.inl (nI ii))], [], 130, 14975, hb (sL L) F2 G2 R2 sO) Q) : pw pP mSBLaw_law (737, [some (.inr (some (0))), some (.inr (some (1))), some (.inr (some (103))), some (.inl (nI (ii)))], [], 130, 14975, hb (sL L) F G R sO) Q := by
  refine pw_aload_n rfl rfl ?_
  refine px_callv (as := [.inr (some (1))]) (rest := []) rfl rfl (by decide) rfl (Nat.le_of_ble_eq_true rfl) (Nat.le_of_ble_eq_true rfl) (Nat.le_of_ble_eq_true rfl) (Nat.le_of_ble_eq_true rfl) rfl rfl rfl rfl ?_
  refine pr_token h L _ (fun r F1 G1 R1 hf tw => ?_)
  show pw pP mSBLaw_law (741, [some (.inr (some (0))), some (.inr (some (1))), some (.inr (some (103))), some (.inl (nI (ii)))], [.inl (r)], 130, 14975, hb (sL L) F1 G1 R1 sO) _
  refine pw_aload_n rfl rfl ?_
  refine px_callv (as := [.inr (some (103))]) (rest := [.inl (r)]) rfl rfl (by decide) rfl (Nat.le_of_ble_eq_true rfl) (Nat.le_of_ble_eq_true rfl) (Nat.le_of_ble_eq_true rfl) (Nat.le_of_ble_eq_true rfl) rfl rfl rfl rfl ?_
  refine tw _ (fun θ2 Γ2 F2 G2 h2 hn2 => ?_)
  show pw pP mSBLaw_law (745, [some (.inr (some (0))), some (.inr (some (1))), some (.inr (some (103))), some (.inl (nI (ii)))], [.inl (r), .inl (r)], 130, 14975, hb (sL L) F2 G2 R1 sO) _
  refine pw_if2p (A := r = r) rfl rfl (t := 750) rfl (fun _ => ?_) (fun q => absurd rfl q)
  exact k θ2 Γ2 F2 G2 R1 h2 hn2
set_option maxRecDepth 100000 in
theorem lw_sw {L ii : Nat} {θ : TG} {Γ : Nat → PG} {F G : FN} {R : RN} {Q : Option PV → PH → Prop} (h : CI θ Γ F G R F G) (hL : L ≤ 2563) (hii : ii + 5 ≤ L) (hnw : θ.now + 60 < 2 ^ 20) (k : ∀ (θ2 : TG) (Γ2 : Nat → PG) (F2 G2 : FN) (R2 : RN), CI θ2 Γ2 F2 G2 R2 F2 G2 → θ2.now ≤ θ.now + 60 → pw pP mSBLaw_law (750, [some (.inr (some 0)), some (.inr (some 1)), some (.inr (some 103)), some (.inl (nI ii))], [], 130, 14975, hb (sL L) F2 G2 R2 sO) Q) : pw pP mSBLaw_law (56, [some (.inr (some 0)), some (.inr (some 1)), some (.inr (some 103)), some (.inl (nI ii))], [], 130, 14975, hb (sL L) F G R sO) Q := by
  refine pw_aload_n rfl rfl ?_
  refine pw_iload_n rfl rfl ?_
  refine px_saldn (x := G 0 ii) rfl rfl (by omega) (by omega) rfl ?_
  refine pw_bipush (v := nI 31) rfl (by decide) ?_
  obtain ⟨m, hm, em⟩ : ∃ m : Nat, m < 32 ∧ G 0 ii &&& nI 31 = nI m := ⟨_, Nat.mod_lt _ (by decide), pk_and (G 0 ii) 5 (by decide)⟩
  refine pw_iand (z := nI m) rfl em ?_
  by_cases e0 : m = 0
  · subst e0
    refine pw_sw (off := 94) (t := 156) rfl rfl rfl ?_
    exact lw_c0 h hL hii hnw k
  by_cases e1 : m = 1
  · subst e1
    refine pw_sw (off := 137) (t := 199) rfl rfl rfl ?_
    exact lw_c1 h hL hii hnw k
  by_cases e2 : m = 2
  · subst e2
    refine pw_sw (off := 160) (t := 222) rfl rfl rfl ?_
    exact lw_c2 h hL hii hnw k
  by_cases e3 : m = 3
  · subst e3
    refine pw_sw (off := 193) (t := 255) rfl rfl rfl ?_
    exact lw_c3 h hL hii hnw k
  by_cases e4 : m = 4
  · subst e4
    refine pw_sw (off := 206) (t := 268) rfl rfl rfl ?_
    exact lw_c4 h hL hii hnw k
  by_cases e5 : m = 5
  · subst e5
    refine pw_sw (off := 219) (t := 281) rfl rfl rfl ?_
    exact lw_c5 h hL hii hnw k
  by_cases e6 : m = 6
  · subst e6
    refine pw_sw (off := 242) (t := 304) rfl rfl rfl ?_
    exact lw_c6 h hL hii hnw k
  by_cases e7 : m = 7
  · subst e7
    refine pw_sw (off := 275) (t := 337) rfl rfl rfl ?_
    exact lw_c7 h hL hii hnw k
  by_cases e8 : m = 8
  · subst e8
    refine pw_sw (off := 334) (t := 396) rfl rfl rfl ?_
    exact lw_c8 h hL hii hnw k
  by_cases e9 : m = 9
  · subst e9
    refine pw_sw (off := 403) (t := 465) rfl rfl rfl ?_
    exact lw_c9 h hL hii hnw k
  by_cases e10 : m = 10
  · subst e10
    refine pw_sw (off := 452) (t := 514) rfl rfl rfl ?_
    exact lw_c10 h hL hii hnw k
  by_cases e11 : m = 11
  · subst e11
    refine pw_sw (off := 521) (t := 583) rfl rfl rfl ?_
    exact lw_c11 h hL hii hnw k
  by_cases e12 : m = 12
  · subst e12
    refine pw_sw (off := 544) (t := 606) rfl rfl rfl ?_
    exact lw_c12 h hL hii hnw k
  by_cases e13 : m = 13
  · subst e13
    refine pw_sw (off := 567) (t := 629) rfl rfl rfl ?_
    exact lw_c13 h hL hii hnw k
  by_cases e14 : m = 14
  · subst e14
    refine pw_sw (off := 590) (t := 652) rfl rfl rfl ?_
    exact lw_c14 h hL hii hnw k
  by_cases e15 : m = 15
  · subst e15
    refine pw_sw (off := 613) (t := 675) rfl rfl rfl ?_
    exact lw_c15 h hL hii hnw k
  by_cases e16 : m = 16
  · subst e16
    refine pw_sw (off := 626) (t := 688) rfl rfl rfl ?_
    exact lw_c16 h hL hii hnw k
  by_cases e17 : m = 17
  · subst e17
    refine pw_sw (off := 639) (t := 701) rfl rfl rfl ?_
    exact lw_c17 h hL hii hnw k
  by_cases e18 : m = 18
  · subst e18
    refine pw_sw (off := 662) (t := 724) rfl rfl rfl ?_
    exact lw_c18 h hL hii hnw k
  by_cases e19 : m = 19
  · subst e19
    refine pw_sw (off := 675) (t := 737) rfl rfl rfl ?_
    exact lw_c19 h hL hii hnw k
  have hm2 : (nI m).toInt = (m : Int) := nI_toInt (by omega)
  refine pw_sw (off := 688) (t := 750) rfl (if_pos (.inr (by rw [hm2]; omega))) rfl ?_
  exact k θ Γ F G R h (by omega)
set_option maxRecDepth 100000 in
theorem lw_end {L ii : Nat} {F G : FN} {R : RN} {Q : Option PV → PH → Prop} (k : Q (some (.inl (nI 1))) (hb (sL L) F G R sO)) : pw pP mSBLaw_law (756, [some (.inr (some 0)), some (.inr (some 1)), some (.inr (some 103)), some (.inl (nI ii))], [], 130, 14975, hb (sL L) F G R sO) Q := by
  refine pw_iconst (v := nI 1) rfl (by decide) ?_
  exact pw_iret rfl rfl (Nat.le_of_ble_eq_true rfl) (Nat.le_of_ble_eq_true rfl) rfl k
set_option maxRecDepth 100000 in
theorem lw_lp {L : Nat} {Q : Option PV → PH → Prop} (hL : L ≤ 2563) (k : ∀ h1 : PH, Q (some (.inl (nI 1))) h1) : ∀ (n ii : Nat) (θ : TG) (Γ : Nat → PG) (F G : FN) (R : RN), L ≤ ii + 5 * n + 4 → 3 ≤ ii → ii ≤ 2570 → CI θ Γ F G R F G → θ.now ≤ 12 * ii → pw pP mSBLaw_law (48, [some (.inr (some 0)), some (.inr (some 1)), some (.inr (some 103)), some (.inl (nI ii))], [], 130, 14975, hb (sL L) F G R sO) Q := by
  intro n
  induction n with
  | zero =>
    intro ii θ Γ F G R hn h3 hi h hw
    refine pw_iload_n rfl rfl ?_
    refine pw_aload_n rfl rfl ?_
    refine px_alen (v := nI L) rfl rfl (by decide) rfl ?_
    refine pw_iconst (v := nI 5) rfl (by decide) ?_
    refine pw_isub (z := nI L - nI 5) rfl rfl ?_
    refine pw_if2 (t := 756) rfl rfl (fun _ => lw_end (k _)) (fun q => ?_)
    exfalso
    by_cases h5 : 5 ≤ L
    · rw [pk_sub h5, cn_gt (by omega) (by omega)] at q
      exact absurd (of_decide_eq_false q) (by omega)
    · have h6 : nI L - nI 5 < 0 := pk_sneg (by omega) (by omega)
      have h7 : nI L - nI 5 < nI ii := by
        have a1 := Int32.lt_iff_toInt_lt.mp h6
        have a2 : (nI ii).toInt = (ii : Int) := nI_toInt (by omega)
        have a3 : (0 : Int32).toInt = 0 := rfl
        exact Int32.lt_iff_toInt_lt.mpr (by omega)
      exact absurd (of_decide_eq_false q) (fun w => w h7)
  | succ n ih =>
    intro ii θ Γ F G R hn h3 hi h hw
    by_cases hx : L < ii + 5
    · refine pw_iload_n rfl rfl ?_
      refine pw_aload_n rfl rfl ?_
      refine px_alen (v := nI L) rfl rfl (by decide) rfl ?_
      refine pw_iconst (v := nI 5) rfl (by decide) ?_
      refine pw_isub (z := nI L - nI 5) rfl rfl ?_
      refine pw_if2 (t := 756) rfl rfl (fun _ => lw_end (k _)) (fun q => ?_)
      exfalso
      by_cases h5 : 5 ≤ L
      · rw [pk_sub h5, cn_gt (by omega) (by omega)] at q
        exact absurd (of_decide_eq_false q) (by omega)
      · have h6 : nI L - nI 5 < 0 := pk_sneg (by omega) (by omega)
        have h7 : nI L - nI 5 < nI ii := by
          have a1 := Int32.lt_iff_toInt_lt.mp h6
          have a2 : (nI ii).toInt = (ii : Int) := nI_toInt (by omega)
          have a3 : (0 : Int32).toInt = 0 := rfl
          exact Int32.lt_iff_toInt_lt.mpr (by omega)
        exact absurd (of_decide_eq_false q) (fun w => w h7)
    · refine pw_iload_n rfl rfl ?_
      refine pw_aload_n rfl rfl ?_
      refine px_alen (v := nI L) rfl rfl (by decide) rfl ?_
      refine pw_iconst (v := nI 5) rfl (by decide) ?_
      refine pw_isub (z := nI (L - 5)) rfl (pk_sub (by omega)) ?_
      refine pw_if2p (cn_gt (by omega) (by omega)) rfl (t := 756) rfl (fun q => absurd q (by omega)) (fun _ => ?_)
      refine lw_sw h hL (by omega) (by omega) (fun θ2 Γ2 F2 G2 R2 h2 hn2 => ?_)
      refine pw_iinc (v := nI (ii + 5)) (ls1 := [some (.inr (some 0)), some (.inr (some 1)), some (.inr (some 103)), some (.inl (nI (ii + 5)))]) rfl rfl (by rw [show Int32.ofInt 5 = nI 5 from by decide]; exact nI_add ii 5) rfl ?_
      refine pw_goto (t := 48) rfl rfl ?_
      exact ih (ii + 5) θ2 Γ2 F2 G2 R2 (by omega) (by omega) (by omega) h2 (by omega)
