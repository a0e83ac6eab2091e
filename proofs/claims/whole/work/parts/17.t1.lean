/-! THE REFERENCE: its methods as functions of the memory; a method's row: what holds of its answer and its end holds (Q). Rows laid by a program (wip/whole/gen/twin1.py). -/
theorem cz_lt {a : Nat} (ha : a < 2 ^ 31) : pm_cnd .lt (nI a) 0 = decide (a < 0) := by have h := cn_lt (b := 0) ha (by decide); rw [nI_0] at h; exact h
theorem cz_ge {a : Nat} (ha : a < 2 ^ 31) : pm_cnd .ge (nI a) 0 = decide (0 ≤ a) := by have h := cn_ge (b := 0) ha (by decide); rw [nI_0] at h; exact h
theorem cz_gt {a : Nat} (ha : a < 2 ^ 31) : pm_cnd .gt (nI a) 0 = decide (0 < a) := by have h := cn_gt (b := 0) ha (by decide); rw [nI_0] at h; exact h
theorem cz_le {a : Nat} (ha : a < 2 ^ 31) : pm_cnd .le (nI a) 0 = decide (a ≤ 0) := by have h := cn_le (b := 0) ha (by decide); rw [nI_0] at h; exact h
theorem cz_eq {a : Nat} (ha : a < 2 ^ 31) : pm_cnd .eq (nI a) 0 = decide (a = 0) := by have h := cn_eq (b := 0) ha (by decide); rw [nI_0] at h; exact h
theorem cz_ne {a : Nat} (ha : a < 2 ^ 31) : pm_cnd .ne (nI a) 0 = decide (¬ a = 0) := by have h := cn_ne (b := 0) ha (by decide); rw [nI_0] at h; exact h
/-- a copy is put into the pipe q -/
def tput (G : FN) (q fl : Nat) (x1 x2 x3 x4 x5 x6 : Int32) : FN := (up2 (up2 (up2 (up2 (up2 (up2 (up2 G (125) (6 * q + fl) (x1)) (126) (6 * q + fl) (x2)) (127) (6 * q + fl) (x3)) (128) (6 * q + fl) (x4)) (129) (6 * q + fl) (x5)) (130) (6 * q + fl) (x6)) (124) (q) (nI (fl + 1)))
theorem t_put {L q fl : Nat} {x1 x2 x3 x4 x5 x6 : Int32} {F G : FN} {R : RN} (hq : q < 8) (hfl : G 124 q = nI fl) (hf : fl < 6) {Q : Option PV → PH → Prop} (k : Q none (hb (sL L) F (tput G q fl x1 x2 x3 x4 x5 x6) R sO)) : pz pP mSBModel_put [.inr (some (103)), .inl (nI (q)), .inl (x1), .inl (x2), .inl (x3), .inl (x4), .inl (x5), .inl (x6)] (hb (sL L) F G R sO) Q := by
  show pw pP mSBModel_put (0, [some (.inr (some (103))), some (.inl (nI (q))), some (.inl (x1)), some (.inl (x2)), some (.inl (x3)), some (.inl (x4)), some (.inl (x5)), some (.inl (x6)), none], [], 0, 0, hb (sL L) F G R sO) _
  refine pw_bipush (v := nI (6)) rfl (by decide) ?_
  refine pw_iload_n rfl rfl ?_
  refine pw_imul (z := nI (6 * q)) rfl (pk_mul _ _) ?_
  refine pw_aload_n rfl rfl ?_
  refine px_getr (r := some (124)) rfl rfl rfl rfl rfl ?_
  refine pw_iload_n rfl rfl ?_
  refine px_ialdn (x := nI (fl)) rfl rfl (by omega) (by decide) (hfl) ?_
  refine pw_iadd (z := nI (6 * q + fl)) rfl (nI_add _ _) ?_
  refine pw_istore (ls1 := [some (.inr (some (103))), some (.inl (nI (q))), some (.inl (x1)), some (.inl (x2)), some (.inl (x3)), some (.inl (x4)), some (.inl (x5)), some (.inl (x6)), some (.inl (nI (6 * q + fl)))]) rfl (Nat.le_of_ble_eq_true rfl) rfl ?_
  refine pw_aload_n rfl rfl ?_
  refine px_getr (r := some (125)) rfl rfl rfl rfl rfl ?_
  refine pw_iload rfl rfl ?_
  refine pw_iload_n rfl rfl ?_
  refine px_iastn rfl rfl (by omega) (by decide) ?_
  refine pw_aload_n rfl rfl ?_
  refine px_getr (r := some (126)) rfl rfl rfl rfl rfl ?_
  refine pw_iload rfl rfl ?_
  refine pw_iload_n rfl rfl ?_
  refine px_iastn rfl rfl (by omega) (by decide) ?_
  refine pw_aload_n rfl rfl ?_
  refine px_getr (r := some (127)) rfl rfl rfl rfl rfl ?_
  refine pw_iload rfl rfl ?_
  refine pw_iload rfl rfl ?_
  refine px_iastn rfl rfl (by omega) (by decide) ?_
  refine pw_aload_n rfl rfl ?_
  refine px_getr (r := some (128)) rfl rfl rfl rfl rfl ?_
  refine pw_iload rfl rfl ?_
  refine pw_iload rfl rfl ?_
  refine px_iastn rfl rfl (by omega) (by decide) ?_
  refine pw_aload_n rfl rfl ?_
  refine px_getr (r := some (129)) rfl rfl rfl rfl rfl ?_
  refine pw_iload rfl rfl ?_
  refine pw_iload rfl rfl ?_
  refine px_iastn rfl rfl (by omega) (by decide) ?_
  refine pw_aload_n rfl rfl ?_
  refine px_getr (r := some (130)) rfl rfl rfl rfl rfl ?_
  refine pw_iload rfl rfl ?_
  refine pw_iload rfl rfl ?_
  refine px_iastn rfl rfl (by omega) (by decide) ?_
  refine pw_aload_n rfl rfl ?_
  refine px_getr (r := some (124)) rfl rfl rfl rfl rfl ?_
  refine pw_iload_n rfl rfl ?_
  refine pw_dup2 rfl ?_
  refine px_ialdn (x := nI (fl)) rfl rfl (by omega) (by decide) (((up2_ne1 (by decide)).trans ((up2_ne1 (by decide)).trans ((up2_ne1 (by decide)).trans ((up2_ne1 (by decide)).trans ((up2_ne1 (by decide)).trans (up2_ne1 (by decide))))))).trans (hfl)) ?_
  refine pw_iconst (v := nI (1)) rfl (by decide) ?_
  refine pw_iadd (z := nI (fl + 1)) rfl (nI_add _ _) ?_
  refine px_iastn rfl rfl (by omega) (by decide) ?_
  exact pw_vret rfl rfl (Nat.zero_le _) (Nat.zero_le _) k
theorem t_path {L : Nat} {p : Int32} {F G : FN} {R : RN} {Q : Option PV → PH → Prop} (k : Q (some (.inl (if p < 0 then nI 0 else if nI 4 ≤ p then nI 0 else nI 1))) (hb (sL L) F G R sO)) : pz pP mSBModel_path [.inl (p)] (hb (sL L) F G R sO) Q := by
  show pw pP mSBModel_path (0, [some (.inl (p))], [], 0, 0, hb (sL L) F G R sO) _
  refine pw_iload_n rfl rfl ?_
  refine pw_if1p (A := p < 0) rfl rfl (t := 13) rfl (fun c1 => ?_) (fun c1 => ?_)
  · -- 13
    refine pw_iconst (v := nI (0)) rfl (by decide) ?_
    exact pw_iret rfl rfl (Nat.zero_le _) (Nat.zero_le _) rfl (by simp only [c1, if_true, if_false] at k; exact k)
  · -- 4
    refine pw_iload_n rfl rfl ?_
    refine pw_iconst (v := nI (4)) rfl (by decide) ?_
    refine pw_if2p (A := nI (4) ≤ p) rfl rfl (t := 13) rfl (fun c2 => ?_) (fun c2 => ?_)
    · -- 13
      refine pw_iconst (v := nI (0)) rfl (by decide) ?_
      exact pw_iret rfl rfl (Nat.zero_le _) (Nat.zero_le _) rfl (by simp only [c1, c2, if_true, if_false] at k; exact k)
    · -- 9
      refine pw_iconst (v := nI (1)) rfl (by decide) ?_
      refine pw_goto (t := 14) rfl rfl ?_
      exact pw_iret rfl rfl (Nat.zero_le _) (Nat.zero_le _) rfl (by simp only [c1, c2, if_true, if_false] at k; exact k)
theorem t_path_in {L p : Nat} {F G : FN} {R : RN} (hp : p < 4) {Q : Option PV → PH → Prop} (k : Q (some (.inl (nI 1))) (hb (sL L) F G R sO)) : pz pP mSBModel_path [.inl (nI p)] (hb (sL L) F G R sO) Q := by
  refine t_path ?_
  rw [if_neg (nI_pos (by omega)), if_neg (fun q => by rw [nI_leI (by omega) (by omega)] at q; omega)]
  exact k
theorem t_path_out {L : Nat} {p : Int32} {F G : FN} {R : RN} (hp : p < 0 ∨ nI 4 ≤ p) {Q : Option PV → PH → Prop} (k : Q (some (.inl (nI 0))) (hb (sL L) F G R sO)) : pz pP mSBModel_path [.inl p] (hb (sL L) F G R sO) Q := by
  refine t_path ?_
  by_cases h : p < 0
  · rw [if_pos h]
    exact k
  · rw [if_neg h, if_pos (hp.resolve_left h)]
    exact k
