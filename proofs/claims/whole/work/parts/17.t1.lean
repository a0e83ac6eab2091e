/-! THE REFERENCE: its methods as functions of the memory. Rows laid by a program (wip/whole/gen/twin1.py). -/
theorem t_put {L q fl : Nat} {k a b c m d : Int32} {F G : FN} {R : RN} (hq : q < 8) (hfl : G 124 q = nI fl) (hf : fl < 6) : pz pP mSBModel_put [.inr (some (103)), .inl (nI (q)), .inl (k), .inl (a), .inl (b), .inl (c), .inl (m), .inl (d)] (hb (sL L) F G R sO) (fun r h1 => r = none ∧ h1 = hb (sL L) F (up2 (up2 (up2 (up2 (up2 (up2 (up2 G (125) (6 * q + fl) (k)) (126) (6 * q + fl) (a)) (127) (6 * q + fl) (b)) (128) (6 * q + fl) (c)) (129) (6 * q + fl) (m)) (130) (6 * q + fl) (d)) (124) (q) (nI (fl + 1))) R sO) := by
  show pw pP mSBModel_put (0, [some (.inr (some (103))), some (.inl (nI (q))), some (.inl (k)), some (.inl (a)), some (.inl (b)), some (.inl (c)), some (.inl (m)), some (.inl (d)), none], [], 0, 0, hb (sL L) F G R sO) _
  refine pw_bipush (v := nI (6)) rfl (by decide) ?_
  refine pw_iload_n rfl rfl ?_
  refine pw_imul (z := nI (6 * q)) rfl (pk_mul _ _) ?_
  refine pw_aload_n rfl rfl ?_
  refine px_getr (r := some (124)) rfl rfl rfl rfl rfl ?_
  refine pw_iload_n rfl rfl ?_
  refine px_ialdn (x := nI (fl)) rfl rfl (by omega) (by decide) (hfl) ?_
  refine pw_iadd (z := nI (6 * q + fl)) rfl (nI_add _ _) ?_
  refine pw_istore (ls1 := [some (.inr (some (103))), some (.inl (nI (q))), some (.inl (k)), some (.inl (a)), some (.inl (b)), some (.inl (c)), some (.inl (m)), some (.inl (d)), some (.inl (nI (6 * q + fl)))]) rfl (Nat.le_of_ble_eq_true rfl) rfl ?_
  refine pw_aload_n rfl rfl ?_
  refine px_getr (r := some (125)) rfl rfl rfl rfl rfl ?_
  refine pw_iload rfl rfl ?_
  refine pw_iload_n rfl rfl ?_
  refine px_iastn rfl rfl (by omega) (by decide) ?_
  refine pw_aload_n rfl rfl ?_
  refine px_getr (r := some (126)) rfl rfl rfl rfl rfl ?_
  refine pw_iload rfl rfl ?_
  refine pw_iload_n rfl rfl ?_
  refine px_iastn rfl rfl (by omega) (by decide) ?_
  refine pw_aload_n rfl rfl ?_
  refine px_getr (r := some (127)) rfl rfl rfl rfl rfl ?_
  refine pw_iload rfl rfl ?_
  refine pw_iload rfl rfl ?_
  refine px_iastn rfl rfl (by omega) (by decide) ?_
  refine pw_aload_n rfl rfl ?_
  refine px_getr (r := some (128)) rfl rfl rfl rfl rfl ?_
  refine pw_iload rfl rfl ?_
  refine pw_iload rfl rfl ?_
  refine px_iastn rfl rfl (by omega) (by decide) ?_
  refine pw_aload_n rfl rfl ?_
  refine px_getr (r := some (129)) rfl rfl rfl rfl rfl ?_
  refine pw_iload rfl rfl ?_
  refine pw_iload rfl rfl ?_
  refine px_iastn rfl rfl (by omega) (by decide) ?_
  refine pw_aload_n rfl rfl ?_
  refine px_getr (r := some (130)) rfl rfl rfl rfl rfl ?_
  refine pw_iload rfl rfl ?_
  refine pw_iload rfl rfl ?_
  refine px_iastn rfl rfl (by omega) (by decide) ?_
  refine pw_aload_n rfl rfl ?_
  refine px_getr (r := some (124)) rfl rfl rfl rfl rfl ?_
  refine pw_iload_n rfl rfl ?_
  refine pw_dup2 rfl ?_
  refine px_ialdn (x := nI (fl)) rfl rfl (by omega) (by decide) (((up2_ne1 (by decide)).trans ((up2_ne1 (by decide)).trans ((up2_ne1 (by decide)).trans ((up2_ne1 (by decide)).trans ((up2_ne1 (by decide)).trans (up2_ne1 (by decide))))))).trans (hfl)) ?_
  refine pw_iconst (v := nI (1)) rfl (by decide) ?_
  refine pw_iadd (z := nI (fl + 1)) rfl (nI_add _ _) ?_
  refine px_iastn rfl rfl (by omega) (by decide) ?_
  exact pw_vret rfl rfl (Nat.zero_le _) (Nat.zero_le _) ⟨rfl, rfl⟩
theorem t_path {L : Nat} {p : Int32} {F G : FN} {R : RN} : pz pP mSBModel_path [.inl (p)] (hb (sL L) F G R sO) (fun r h1 => r = some (.inl (if p < 0 then nI 0 else if nI 4 ≤ p then nI 0 else nI 1)) ∧ h1 = hb (sL L) F G R sO) := by
  show pw pP mSBModel_path (0, [some (.inl (p))], [], 0, 0, hb (sL L) F G R sO) _
  refine pw_iload_n rfl rfl ?_
  refine pw_if1p (A := p < 0) rfl rfl (t := 13) rfl (fun c1 => ?_) (fun c1 => ?_)
  · -- 13
    refine pw_iconst (v := nI (0)) rfl (by decide) ?_
    exact pw_iret rfl rfl (Nat.zero_le _) (Nat.zero_le _) rfl ⟨by simp [c1], rfl⟩
  · -- 4
    refine pw_iload_n rfl rfl ?_
    refine pw_iconst (v := nI (4)) rfl (by decide) ?_
    refine pw_if2p (A := nI (4) ≤ p) rfl rfl (t := 13) rfl (fun c2 => ?_) (fun c2 => ?_)
    · -- 13
      refine pw_iconst (v := nI (0)) rfl (by decide) ?_
      exact pw_iret rfl rfl (Nat.zero_le _) (Nat.zero_le _) rfl ⟨by simp [c1, c2], rfl⟩
    · -- 9
      refine pw_iconst (v := nI (1)) rfl (by decide) ?_
      refine pw_goto (t := 14) rfl rfl ?_
      exact pw_iret rfl rfl (Nat.zero_le _) (Nat.zero_le _) rfl ⟨by simp [c1, c2], rfl⟩
