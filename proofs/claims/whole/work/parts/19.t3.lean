/-! THE REFERENCE, third part. Rows laid by a program (wip/whole/gen/twin3.py). -/
/-- a boolean as an int -/
def bI (c : Prop) [Decidable c] : Int32 := if c then nI 1 else nI 0
theorem bI_t {c : Prop} [Decidable c] (h : c) : bI c = nI 1 := if_pos h
theorem bI_f {c : Prop} [Decidable c] (h : ¬ c) : bI c = nI 0 := if_neg h
theorem cb_ne {c : Prop} [Decidable c] : pm_cnd .ne (bI c) 0 = decide c := by
  by_cases h : c
  · rw [bI_t h, decide_eq_true h]; decide
  · rw [bI_f h, decide_eq_false h]; decide
theorem cb_eq {c : Prop} [Decidable c] : pm_cnd .eq (bI c) 0 = decide (¬ c) := by
  by_cases h : c
  · rw [bI_t h, decide_eq_false (fun q => q h)]; decide
  · rw [bI_f h, decide_eq_true h]; decide
def tsh1 (M : FN) (j : Nat) : FN := (up2 (up2 (up2 (up2 (up2 (up2 M (125) (j) (M 125 (j + 1))) (126) (j) (M 126 (j + 1))) (127) (j) (M 127 (j + 1))) (128) (j) (M 128 (j + 1))) (129) (j) (M 129 (j + 1))) (130) (j) (M 130 (j + 1)))
/-- n copies are moved one place down, from j on -/
def tsh : Nat → Nat → FN → FN
  | 0, _, M => M
  | n + 1, j, M => tsh n (j + 1) (tsh1 M j)
theorem tsh1_124 {M : FN} {j q : Nat} : tsh1 M j 124 q = M 124 q := by
  unfold tsh1
  rw [up2_ne1 (by decide), up2_ne1 (by decide), up2_ne1 (by decide), up2_ne1 (by decide), up2_ne1 (by decide), up2_ne1 (by decide)]
theorem t_drop_lp {L q kk fl : Nat} {F : FN} {R : RN} {Q : Option PV → PH → Prop} (hq : q < 8) (hf : fl ≤ 5) : ∀ (n j : Nat) (M : FN), j + n = 6 * q + fl → M 124 q = nI fl → Q none (hb (sL L) F (tsh n j M) R sO) → pw pP mSBModel_drop (17, [some (.inr (some (103))), some (.inl (nI (q))), some (.inl (nI (kk))), some (.inl (nI (j)))], [], 0, 0, hb (sL L) F M R sO) Q := by
  intro n
  induction n with
  | zero =>
    intro j M hn hM k
    refine pw_iload_n rfl rfl ?_
    refine pw_bipush (v := nI (6)) rfl (by decide) ?_
    refine pw_iload_n rfl rfl ?_
    refine pw_imul (z := nI (6 * q)) rfl (pk_mul _ _) ?_
    refine pw_aload_n rfl rfl ?_
    refine px_getr (r := some (124)) rfl rfl rfl rfl rfl ?_
    refine pw_iload_n rfl rfl ?_
    refine px_ialdn (x := nI (fl)) rfl rfl (by omega) (by decide) (hM) ?_
    refine pw_iadd (z := nI (6 * q + fl)) rfl (nI_add _ _) ?_
    refine pw_if2p (cn_ge (by omega) (by omega)) rfl (t := 122) rfl (fun c1 => ?_) (fun c1 => ?_)
    · -- 122
      exact pw_vret rfl rfl (Nat.zero_le _) (Nat.zero_le _) k
    · -- 32
      exact absurd c1 (by omega)
  | succ n ih =>
    intro j M hn hM k
    refine pw_iload_n rfl rfl ?_
    refine pw_bipush (v := nI (6)) rfl (by decide) ?_
    refine pw_iload_n rfl rfl ?_
    refine pw_imul (z := nI (6 * q)) rfl (pk_mul _ _) ?_
    refine pw_aload_n rfl rfl ?_
    refine px_getr (r := some (124)) rfl rfl rfl rfl rfl ?_
    refine pw_iload_n rfl rfl ?_
    refine px_ialdn (x := nI (fl)) rfl rfl (by omega) (by decide) (hM) ?_
    refine pw_iadd (z := nI (6 * q + fl)) rfl (nI_add _ _) ?_
    refine pw_if2p (cn_ge (by omega) (by omega)) rfl (t := 122) rfl (fun c1 => ?_) (fun c1 => ?_)
    · -- 122
      exact absurd c1 (by omega)
    · -- 32
      refine pw_aload_n rfl rfl ?_
      refine px_getr (r := some (125)) rfl rfl rfl rfl rfl ?_
      refine pw_iload_n rfl rfl ?_
      refine pw_aload_n rfl rfl ?_
      refine px_getr (r := some (125)) rfl rfl rfl rfl rfl ?_
      refine pw_iload_n rfl rfl ?_
      refine pw_iconst (v := nI (1)) rfl (by decide) ?_
      refine pw_iadd (z := nI (j + 1)) rfl (nI_add _ _) ?_
      refine px_ialdn (x := M (125) (j + 1)) rfl rfl (by omega) (by decide) (rfl) ?_
      refine px_iastn rfl rfl (by omega) (by decide) ?_
      refine pw_aload_n rfl rfl ?_
      refine px_getr (r := some (126)) rfl rfl rfl rfl rfl ?_
      refine pw_iload_n rfl rfl ?_
      refine pw_aload_n rfl rfl ?_
      refine px_getr (r := some (126)) rfl rfl rfl rfl rfl ?_
      refine pw_iload_n rfl rfl ?_
      refine pw_iconst (v := nI (1)) rfl (by decide) ?_
      refine pw_iadd (z := nI (j + 1)) rfl (nI_add _ _) ?_
      refine px_ialdn (x := M (126) (j + 1)) rfl rfl (by omega) (by decide) (up2_ne1 (by decide)) ?_
      refine px_iastn rfl rfl (by omega) (by decide) ?_
      refine pw_aload_n rfl rfl ?_
      refine px_getr (r := some (127)) rfl rfl rfl rfl rfl ?_
      refine pw_iload_n rfl rfl ?_
      refine pw_aload_n rfl rfl ?_
      refine px_getr (r := some (127)) rfl rfl rfl rfl rfl ?_
      refine pw_iload_n rfl rfl ?_
      refine pw_iconst (v := nI (1)) rfl (by decide) ?_
      refine pw_iadd (z := nI (j + 1)) rfl (nI_add _ _) ?_
      refine px_ialdn (x := M (127) (j + 1)) rfl rfl (by omega) (by decide) ((up2_ne1 (by decide)).trans (up2_ne1 (by decide))) ?_
      refine px_iastn rfl rfl (by omega) (by decide) ?_
      refine pw_aload_n rfl rfl ?_
      refine px_getr (r := some (128)) rfl rfl rfl rfl rfl ?_
      refine pw_iload_n rfl rfl ?_
      refine pw_aload_n rfl rfl ?_
      refine px_getr (r := some (128)) rfl rfl rfl rfl rfl ?_
      refine pw_iload_n rfl rfl ?_
      refine pw_iconst (v := nI (1)) rfl (by decide) ?_
      refine pw_iadd (z := nI (j + 1)) rfl (nI_add _ _) ?_
      refine px_ialdn (x := M (128) (j + 1)) rfl rfl (by omega) (by decide) ((up2_ne1 (by decide)).trans ((up2_ne1 (by decide)).trans (up2_ne1 (by decide)))) ?_
      refine px_iastn rfl rfl (by omega) (by decide) ?_
      refine pw_aload_n rfl rfl ?_
      refine px_getr (r := some (129)) rfl rfl rfl rfl rfl ?_
      refine pw_iload_n rfl rfl ?_
      refine pw_aload_n rfl rfl ?_
      refine px_getr (r := some (129)) rfl rfl rfl rfl rfl ?_
      refine pw_iload_n rfl rfl ?_
      refine pw_iconst (v := nI (1)) rfl (by decide) ?_
      refine pw_iadd (z := nI (j + 1)) rfl (nI_add _ _) ?_
      refine px_ialdn (x := M (129) (j + 1)) rfl rfl (by omega) (by decide) ((up2_ne1 (by decide)).trans ((up2_ne1 (by decide)).trans ((up2_ne1 (by decide)).trans (up2_ne1 (by decide))))) ?_
      refine px_iastn rfl rfl (by omega) (by decide) ?_
      refine pw_aload_n rfl rfl ?_
      refine px_getr (r := some (130)) rfl rfl rfl rfl rfl ?_
      refine pw_iload_n rfl rfl ?_
      refine pw_aload_n rfl rfl ?_
      refine px_getr (r := some (130)) rfl rfl rfl rfl rfl ?_
      refine pw_iload_n rfl rfl ?_
      refine pw_iconst (v := nI (1)) rfl (by decide) ?_
      refine pw_iadd (z := nI (j + 1)) rfl (nI_add _ _) ?_
      refine px_ialdn (x := M (130) (j + 1)) rfl rfl (by omega) (by decide) ((up2_ne1 (by decide)).trans ((up2_ne1 (by decide)).trans ((up2_ne1 (by decide)).trans ((up2_ne1 (by decide)).trans (up2_ne1 (by decide)))))) ?_
      refine px_iastn rfl rfl (by omega) (by decide) ?_
      refine pw_iinc (v := nI (j + 1)) (ls1 := [some (.inr (some (103))), some (.inl (nI (q))), some (.inl (nI (kk))), some (.inl (nI (j + 1)))]) rfl rfl (iinc_n _) rfl ?_
      refine pw_goto (t := 17) rfl rfl ?_
      exact ih (j + 1) (tsh1 M j) (by omega) (tsh1_124.trans hM) k
def tdrop (G : FN) (q fl kk : Nat) : FN := tsh (fl - 1 - kk) (6 * q + kk) (up2 G 124 q (nI (fl - 1)))
theorem t_drop {L q kk fl : Nat} {F G : FN} {R : RN} (hq : q < 8) (hfl : G 124 q = nI fl) (hf : fl ≤ 6) (hk : kk < fl) {Q : Option PV → PH → Prop} (k : Q none (hb (sL L) F (tdrop G q fl kk) R sO)) : pz pP mSBModel_drop [.inr (some (103)), .inl (nI (q)), .inl (nI (kk))] (hb (sL L) F G R sO) Q := by
  show pw pP mSBModel_drop (0, [some (.inr (some (103))), some (.inl (nI (q))), some (.inl (nI (kk))), none], [], 0, 0, hb (sL L) F G R sO) _
  refine pw_aload_n rfl rfl ?_
  refine px_getr (r := some (124)) rfl rfl rfl rfl rfl ?_
  refine pw_iload_n rfl rfl ?_
  refine pw_dup2 rfl ?_
  refine px_ialdn (x := nI (fl)) rfl rfl (by omega) (by decide) (hfl) ?_
  refine pw_iconst (v := nI (1)) rfl (by decide) ?_
  refine pw_isub (z := nI (fl - 1)) rfl (pk_sub (by omega)) ?_
  refine px_iastn rfl rfl (by omega) (by decide) ?_
  refine pw_bipush (v := nI (6)) rfl (by decide) ?_
  refine pw_iload_n rfl rfl ?_
  refine pw_imul (z := nI (6 * q)) rfl (pk_mul _ _) ?_
  refine pw_iload_n rfl rfl ?_
  refine pw_iadd (z := nI (6 * q + kk)) rfl (nI_add _ _) ?_
  refine pw_istore_n (ls1 := [some (.inr (some (103))), some (.inl (nI (q))), some (.inl (nI (kk))), some (.inl (nI (6 * q + kk)))]) rfl (Nat.le_of_ble_eq_true rfl) rfl ?_
  exact t_drop_lp hq (by omega) (fl - 1 - kk) (6 * q + kk) _ (by omega) up2_eq k
/-- SBModel_shut -/
def shut_G (G : FN) (p : Nat) : FN := (up2 (up2 (up2 (up2 G (107) (p) (nI (4))) (111) (p) (nI (0))) (124) (2 * p) (nI (0))) (124) (2 * p + 1) (nI (0)))
theorem t_shut {L p : Nat} {F G : FN} {R : RN} (hp : p < 4) {Q : Option PV → PH → Prop} (k : Q none (hb (sL L) F (shut_G G p) R sO)) : pz pP mSBModel_shut [.inr (some (103)), .inl (nI (p))] (hb (sL L) F G R sO) Q := by
  show pw pP mSBModel_shut (0, [some (.inr (some (103))), some (.inl (nI (p)))], [], 0, 0, hb (sL L) F G R sO) _
  refine pw_aload_n rfl rfl ?_
  refine px_getr (r := some (107)) rfl rfl rfl rfl rfl ?_
  refine pw_iload_n rfl rfl ?_
  refine pw_iconst (v := nI (4)) rfl (by decide) ?_
  refine px_iastn rfl rfl (by omega) (by decide) ?_
  refine pw_aload_n rfl rfl ?_
  refine px_getr (r := some (111)) rfl rfl rfl rfl rfl ?_
  refine pw_iload_n rfl rfl ?_
  refine pw_iconst (v := nI (0)) rfl (by decide) ?_
  refine px_iastn rfl rfl (by omega) (by decide) ?_
  refine pw_aload_n rfl rfl ?_
  refine px_getr (r := some (124)) rfl rfl rfl rfl rfl ?_
  refine pw_iconst (v := nI (2)) rfl (by decide) ?_
  refine pw_iload_n rfl rfl ?_
  refine pw_imul (z := nI (2 * p)) rfl (pk_mul _ _) ?_
  refine pw_iconst (v := nI (0)) rfl (by decide) ?_
  refine px_iastn rfl rfl (by omega) (by decide) ?_
  refine pw_aload_n rfl rfl ?_
  refine px_getr (r := some (124)) rfl rfl rfl rfl rfl ?_
  refine pw_iconst (v := nI (2)) rfl (by decide) ?_
  refine pw_iload_n rfl rfl ?_
  refine pw_imul (z := nI (2 * p)) rfl (pk_mul _ _) ?_
  refine pw_iconst (v := nI (1)) rfl (by decide) ?_
  refine pw_iadd (z := nI (2 * p + 1)) rfl (nI_add _ _) ?_
  refine pw_iconst (v := nI (0)) rfl (by decide) ?_
  refine px_iastn rfl rfl (by omega) (by decide) ?_
  exact pw_vret rfl rfl (Nat.zero_le _) (Nat.zero_le _) k
/-- SBModel_measure -/
def meas_G (G : FN) (p : Nat) (x : Int32) : FN := (if G (112) (p) = 0 then (if nI (6) ≤ (((nI (8)) * x) / (nI (8))) + ((nI (2)) * x) then (if (((nI (8)) * x) / (nI (8))) + ((nI (2)) * x) ≤ nI (120) then (up2 (up2 (up2 (up2 G (112) (p) (nI (1))) (113) (p) ((nI (8)) * x)) (114) (p) ((nI (2)) * x)) (110) (p) ((((nI (8)) * x) / (nI (8))) + ((nI (2)) * x))) else (up2 (up2 (up2 (up2 G (112) (p) (nI (1))) (113) (p) ((nI (8)) * x)) (114) (p) ((nI (2)) * x)) (110) (p) (nI (120)))) else (up2 (up2 (up2 (up2 G (112) (p) (nI (1))) (113) (p) ((nI (8)) * x)) (114) (p) ((nI (2)) * x)) (110) (p) (nI (6)))) else (if 0 ≤ ((G (113) (p)) / (nI (8))) - x then (if nI (6) ≤ ((((G (113) (p)) - ((G (113) (p)) / (nI (8)))) + x) / (nI (8))) + (((G (114) (p)) - ((G (114) (p)) / (nI (4)))) + (((G (113) (p)) / (nI (8))) - x)) then (if ((((G (113) (p)) - ((G (113) (p)) / (nI (8)))) + x) / (nI (8))) + (((G (114) (p)) - ((G (114) (p)) / (nI (4)))) + (((G (113) (p)) / (nI (8))) - x)) ≤ nI (120) then (up2 (up2 (up2 G (114) (p) (((G (114) (p)) - ((G (114) (p)) / (nI (4)))) + (((G (113) (p)) / (nI (8))) - x))) (113) (p) (((G (113) (p)) - ((G (113) (p)) / (nI (8)))) + x)) (110) (p) (((((G (113) (p)) - ((G (113) (p)) / (nI (8)))) + x) / (nI (8))) + (((G (114) (p)) - ((G (114) (p)) / (nI (4)))) + (((G (113) (p)) / (nI (8))) - x)))) else (up2 (up2 (up2 G (114) (p) (((G (114) (p)) - ((G (114) (p)) / (nI (4)))) + (((G (113) (p)) / (nI (8))) - x))) (113) (p) (((G (113) (p)) - ((G (113) (p)) / (nI (8)))) + x)) (110) (p) (nI (120)))) else (up2 (up2 (up2 G (114) (p) (((G (114) (p)) - ((G (114) (p)) / (nI (4)))) + (((G (113) (p)) / (nI (8))) - x))) (113) (p) (((G (113) (p)) - ((G (113) (p)) / (nI (8)))) + x)) (110) (p) (nI (6)))) else (if nI (6) ≤ ((((G (113) (p)) - ((G (113) (p)) / (nI (8)))) + x) / (nI (8))) + (((G (114) (p)) - ((G (114) (p)) / (nI (4)))) + (-(((G (113) (p)) / (nI (8))) - x))) then (if ((((G (113) (p)) - ((G (113) (p)) / (nI (8)))) + x) / (nI (8))) + (((G (114) (p)) - ((G (114) (p)) / (nI (4)))) + (-(((G (113) (p)) / (nI (8))) - x))) ≤ nI (120) then (up2 (up2 (up2 G (114) (p) (((G (114) (p)) - ((G (114) (p)) / (nI (4)))) + (-(((G (113) (p)) / (nI (8))) - x)))) (113) (p) (((G (113) (p)) - ((G (113) (p)) / (nI (8)))) + x)) (110) (p) (((((G (113) (p)) - ((G (113) (p)) / (nI (8)))) + x) / (nI (8))) + (((G (114) (p)) - ((G (114) (p)) / (nI (4)))) + (-(((G (113) (p)) / (nI (8))) - x))))) else (up2 (up2 (up2 G (114) (p) (((G (114) (p)) - ((G (114) (p)) / (nI (4)))) + (-(((G (113) (p)) / (nI (8))) - x)))) (113) (p) (((G (113) (p)) - ((G (113) (p)) / (nI (8)))) + x)) (110) (p) (nI (120)))) else (up2 (up2 (up2 G (114) (p) (((G (114) (p)) - ((G (114) (p)) / (nI (4)))) + (-(((G (113) (p)) / (nI (8))) - x)))) (113) (p) (((G (113) (p)) - ((G (113) (p)) / (nI (8)))) + x)) (110) (p) (nI (6))))))
theorem t_meas {L p : Nat} {x : Int32} {F G : FN} {R : RN} (hp : p < 4) {Q : Option PV → PH → Prop} (k : Q none (hb (sL L) F (meas_G G p x) R sO)) : pz pP mSBModel_measure [.inr (some (103)), .inl (nI (p)), .inl (x)] (hb (sL L) F G R sO) Q := by
  show pw pP mSBModel_measure (0, [some (.inr (some (103))), some (.inl (nI (p))), some (.inl (x)), none], [], 0, 0, hb (sL L) F G R sO) _
  refine pw_aload_n rfl rfl ?_
  refine px_getr (r := some (112)) rfl rfl rfl rfl rfl ?_
  refine pw_iload_n rfl rfl ?_
  refine px_zaldn (x := G (112) (p)) rfl rfl (by omega) (by decide) (rfl) ?_
  refine pw_if1p (A := G (112) (p) = 0) rfl rfl (t := 80) rfl (fun c1 => ?_) (fun c1 => ?_)
  · -- 80
    refine pw_aload_n rfl rfl ?_
    refine px_getr (r := some (112)) rfl rfl rfl rfl rfl ?_
    refine pw_iload_n rfl rfl ?_
    refine pw_iconst (v := nI (1)) rfl (by decide) ?_
    refine px_zastn (x1 := nI (1)) rfl rfl (by omega) (by decide) (by decide) ?_
    refine pw_aload_n rfl rfl ?_
    refine px_getr (r := some (113)) rfl rfl rfl rfl rfl ?_
    refine pw_iload_n rfl rfl ?_
    refine pw_bipush (v := nI (8)) rfl (by decide) ?_
    refine pw_iload_n rfl rfl ?_
    refine pw_imul (z := (nI (8)) * x) rfl rfl ?_
    refine px_iastn rfl rfl (by omega) (by decide) ?_
    refine pw_aload_n rfl rfl ?_
    refine px_getr (r := some (114)) rfl rfl rfl rfl rfl ?_
    refine pw_iload_n rfl rfl ?_
    refine pw_iconst (v := nI (2)) rfl (by decide) ?_
    refine pw_iload_n rfl rfl ?_
    refine pw_imul (z := (nI (2)) * x) rfl rfl ?_
    refine px_iastn rfl rfl (by omega) (by decide) ?_
    refine pw_aload_n rfl rfl ?_
    refine px_getr (r := some (113)) rfl rfl rfl rfl rfl ?_
    refine pw_iload_n rfl rfl ?_
    refine px_ialdn (x := (nI (8)) * x) rfl rfl (by omega) (by decide) ((up2_ne1 (by decide)).trans (up2_eq)) ?_
    refine pw_bipush (v := nI (8)) rfl (by decide) ?_
    refine pw_idiv (z := ((nI (8)) * x) / (nI (8))) rfl (nI_ne0 (by decide) (by decide)) rfl ?_
    refine pw_aload_n rfl rfl ?_
    refine px_getr (r := some (114)) rfl rfl rfl rfl rfl ?_
    refine pw_iload_n rfl rfl ?_
    refine px_ialdn (x := (nI (2)) * x) rfl rfl (by omega) (by decide) (up2_eq) ?_
    refine pw_iadd (z := (((nI (8)) * x) / (nI (8))) + ((nI (2)) * x)) rfl rfl ?_
    refine pw_istore_n (ls1 := [some (.inr (some (103))), some (.inl (nI (p))), some (.inl (x)), some (.inl ((((nI (8)) * x) / (nI (8))) + ((nI (2)) * x)))]) rfl (Nat.le_of_ble_eq_true rfl) rfl ?_
    refine pw_aload_n rfl rfl ?_
    refine px_getr (r := some (110)) rfl rfl rfl rfl rfl ?_
    refine pw_iload_n rfl rfl ?_
    refine pw_iload_n rfl rfl ?_
    refine pw_bipush (v := nI (6)) rfl (by decide) ?_
    refine pw_if2p (A := nI (6) ≤ (((nI (8)) * x) / (nI (8))) + ((nI (2)) * x)) rfl rfl (t := 139) rfl (fun c2 => ?_) (fun c2 => ?_)
    · -- 139
      refine pw_iload_n rfl rfl ?_
      refine pw_bipush (v := nI (120)) rfl (by decide) ?_
      refine pw_if2p (A := (((nI (8)) * x) / (nI (8))) + ((nI (2)) * x) ≤ nI (120)) rfl rfl (t := 150) rfl (fun c3 => ?_) (fun c3 => ?_)
      · -- 150
        refine pw_iload_n rfl rfl ?_
        refine px_iastn rfl rfl (by omega) (by decide) ?_
        exact pw_vret rfl rfl (Nat.zero_le _) (Nat.zero_le _) (by simp only [meas_G, c1, c2, c3, if_true, if_false] at k; exact k)
      · -- 145
        refine pw_bipush (v := nI (120)) rfl (by decide) ?_
        refine pw_goto (t := 151) rfl rfl ?_
        refine px_iastn rfl rfl (by omega) (by decide) ?_
        exact pw_vret rfl rfl (Nat.zero_le _) (Nat.zero_le _) (by simp only [meas_G, c1, c2, c3, if_true, if_false] at k; exact k)
    · -- 134
      refine pw_bipush (v := nI (6)) rfl (by decide) ?_
      refine pw_goto (t := 151) rfl rfl ?_
      refine px_iastn rfl rfl (by omega) (by decide) ?_
      exact pw_vret rfl rfl (Nat.zero_le _) (Nat.zero_le _) (by simp only [meas_G, c1, c2, if_true, if_false] at k; exact k)
  · -- 9
    refine pw_aload_n rfl rfl ?_
    refine px_getr (r := some (113)) rfl rfl rfl rfl rfl ?_
    refine pw_iload_n rfl rfl ?_
    refine px_ialdn (x := G (113) (p)) rfl rfl (by omega) (by decide) (rfl) ?_
    refine pw_bipush (v := nI (8)) rfl (by decide) ?_
    refine pw_idiv (z := (G (113) (p)) / (nI (8))) rfl (nI_ne0 (by decide) (by decide)) rfl ?_
    refine pw_iload_n rfl rfl ?_
    refine pw_isub (z := ((G (113) (p)) / (nI (8))) - x) rfl rfl ?_
    refine pw_istore_n (ls1 := [some (.inr (some (103))), some (.inl (nI (p))), some (.inl (x)), some (.inl (((G (113) (p)) / (nI (8))) - x))]) rfl (Nat.le_of_ble_eq_true rfl) rfl ?_
    refine pw_aload_n rfl rfl ?_
    refine px_getr (r := some (114)) rfl rfl rfl rfl rfl ?_
    refine pw_iload_n rfl rfl ?_
    refine pw_aload_n rfl rfl ?_
    refine px_getr (r := some (114)) rfl rfl rfl rfl rfl ?_
    refine pw_iload_n rfl rfl ?_
    refine px_ialdn (x := G (114) (p)) rfl rfl (by omega) (by decide) (rfl) ?_
    refine pw_aload_n rfl rfl ?_
    refine px_getr (r := some (114)) rfl rfl rfl rfl rfl ?_
    refine pw_iload_n rfl rfl ?_
    refine px_ialdn (x := G (114) (p)) rfl rfl (by omega) (by decide) (rfl) ?_
    refine pw_iconst (v := nI (4)) rfl (by decide) ?_
    refine pw_idiv (z := (G (114) (p)) / (nI (4))) rfl (nI_ne0 (by decide) (by decide)) rfl ?_
    refine pw_isub (z := (G (114) (p)) - ((G (114) (p)) / (nI (4)))) rfl rfl ?_
    refine pw_iload_n rfl rfl ?_
    refine pw_if1p (A := 0 ≤ ((G (113) (p)) / (nI (8))) - x) rfl rfl (t := 50) rfl (fun c4 => ?_) (fun c4 => ?_)
    · -- 50
      refine pw_iload_n rfl rfl ?_
      refine pw_iadd (z := ((G (114) (p)) - ((G (114) (p)) / (nI (4)))) + (((G (113) (p)) / (nI (8))) - x)) rfl rfl ?_
      refine px_iastn rfl rfl (by omega) (by decide) ?_
      refine pw_aload_n rfl rfl ?_
      refine px_getr (r := some (113)) rfl rfl rfl rfl rfl ?_
      refine pw_iload_n rfl rfl ?_
      refine pw_aload_n rfl rfl ?_
      refine px_getr (r := some (113)) rfl rfl rfl rfl rfl ?_
      refine pw_iload_n rfl rfl ?_
      refine px_ialdn (x := G (113) (p)) rfl rfl (by omega) (by decide) (up2_ne1 (by decide)) ?_
      refine pw_aload_n rfl rfl ?_
      refine px_getr (r := some (113)) rfl rfl rfl rfl rfl ?_
      refine pw_iload_n rfl rfl ?_
      refine px_ialdn (x := G (113) (p)) rfl rfl (by omega) (by decide) (up2_ne1 (by decide)) ?_
      refine pw_bipush (v := nI (8)) rfl (by decide) ?_
      refine pw_idiv (z := (G (113) (p)) / (nI (8))) rfl (nI_ne0 (by decide) (by decide)) rfl ?_
      refine pw_isub (z := (G (113) (p)) - ((G (113) (p)) / (nI (8)))) rfl rfl ?_
      refine pw_iload_n rfl rfl ?_
      refine pw_iadd (z := ((G (113) (p)) - ((G (113) (p)) / (nI (8)))) + x) rfl rfl ?_
      refine px_iastn rfl rfl (by omega) (by decide) ?_
      refine pw_goto (t := 106) rfl rfl ?_
      refine pw_aload_n rfl rfl ?_
      refine px_getr (r := some (113)) rfl rfl rfl rfl rfl ?_
      refine pw_iload_n rfl rfl ?_
      refine px_ialdn (x := ((G (113) (p)) - ((G (113) (p)) / (nI (8)))) + x) rfl rfl (by omega) (by decide) (up2_eq) ?_
      refine pw_bipush (v := nI (8)) rfl (by decide) ?_
      refine pw_idiv (z := (((G (113) (p)) - ((G (113) (p)) / (nI (8)))) + x) / (nI (8))) rfl (nI_ne0 (by decide) (by decide)) rfl ?_
      refine pw_aload_n rfl rfl ?_
      refine px_getr (r := some (114)) rfl rfl rfl rfl rfl ?_
      refine pw_iload_n rfl rfl ?_
      refine px_ialdn (x := ((G (114) (p)) - ((G (114) (p)) / (nI (4)))) + (((G (113) (p)) / (nI (8))) - x)) rfl rfl (by omega) (by decide) ((up2_ne1 (by decide)).trans (up2_eq)) ?_
      refine pw_iadd (z := ((((G (113) (p)) - ((G (113) (p)) / (nI (8)))) + x) / (nI (8))) + (((G (114) (p)) - ((G (114) (p)) / (nI (4)))) + (((G (113) (p)) / (nI (8))) - x))) rfl rfl ?_
      refine pw_istore_n (ls1 := [some (.inr (some (103))), some (.inl (nI (p))), some (.inl (x)), some (.inl (((((G (113) (p)) - ((G (113) (p)) / (nI (8)))) + x) / (nI (8))) + (((G (114) (p)) - ((G (114) (p)) / (nI (4)))) + (((G (113) (p)) / (nI (8))) - x))))]) rfl (Nat.le_of_ble_eq_true rfl) rfl ?_
      refine pw_aload_n rfl rfl ?_
      refine px_getr (r := some (110)) rfl rfl rfl rfl rfl ?_
      refine pw_iload_n rfl rfl ?_
      refine pw_iload_n rfl rfl ?_
      refine pw_bipush (v := nI (6)) rfl (by decide) ?_
      refine pw_if2p (A := nI (6) ≤ ((((G (113) (p)) - ((G (113) (p)) / (nI (8)))) + x) / (nI (8))) + (((G (114) (p)) - ((G (114) (p)) / (nI (4)))) + (((G (113) (p)) / (nI (8))) - x))) rfl rfl (t := 139) rfl (fun c5 => ?_) (fun c5 => ?_)
      · -- 139
        refine pw_iload_n rfl rfl ?_
        refine pw_bipush (v := nI (120)) rfl (by decide) ?_
        refine pw_if2p (A := ((((G (113) (p)) - ((G (113) (p)) / (nI (8)))) + x) / (nI (8))) + (((G (114) (p)) - ((G (114) (p)) / (nI (4)))) + (((G (113) (p)) / (nI (8))) - x)) ≤ nI (120)) rfl rfl (t := 150) rfl (fun c6 => ?_) (fun c6 => ?_)
        · -- 150
          refine pw_iload_n rfl rfl ?_
          refine px_iastn rfl rfl (by omega) (by decide) ?_
          exact pw_vret rfl rfl (Nat.zero_le _) (Nat.zero_le _) (by simp only [meas_G, c1, c4, c5, c6, if_true, if_false] at k; exact k)
        · -- 145
          refine pw_bipush (v := nI (120)) rfl (by decide) ?_
          refine pw_goto (t := 151) rfl rfl ?_
          refine px_iastn rfl rfl (by omega) (by decide) ?_
          exact pw_vret rfl rfl (Nat.zero_le _) (Nat.zero_le _) (by simp only [meas_G, c1, c4, c5, c6, if_true, if_false] at k; exact k)
      · -- 134
        refine pw_bipush (v := nI (6)) rfl (by decide) ?_
        refine pw_goto (t := 151) rfl rfl ?_
        refine px_iastn rfl rfl (by omega) (by decide) ?_
        exact pw_vret rfl rfl (Nat.zero_le _) (Nat.zero_le _) (by simp only [meas_G, c1, c4, c5, if_true, if_false] at k; exact k)
    · -- 45
      refine pw_iload_n rfl rfl ?_
      refine pw_ineg (z := -(((G (113) (p)) / (nI (8))) - x)) rfl rfl ?_
      refine pw_goto (t := 51) rfl rfl ?_
      refine pw_iadd (z := ((G (114) (p)) - ((G (114) (p)) / (nI (4)))) + (-(((G (113) (p)) / (nI (8))) - x))) rfl rfl ?_
      refine px_iastn rfl rfl (by omega) (by decide) ?_
      refine pw_aload_n rfl rfl ?_
      refine px_getr (r := some (113)) rfl rfl rfl rfl rfl ?_
      refine pw_iload_n rfl rfl ?_
      refine pw_aload_n rfl rfl ?_
      refine px_getr (r := some (113)) rfl rfl rfl rfl rfl ?_
      refine pw_iload_n rfl rfl ?_
      refine px_ialdn (x := G (113) (p)) rfl rfl (by omega) (by decide) (up2_ne1 (by decide)) ?_
      refine pw_aload_n rfl rfl ?_
      refine px_getr (r := some (113)) rfl rfl rfl rfl rfl ?_
      refine pw_iload_n rfl rfl ?_
      refine px_ialdn (x := G (113) (p)) rfl rfl (by omega) (by decide) (up2_ne1 (by decide)) ?_
      refine pw_bipush (v := nI (8)) rfl (by decide) ?_
      refine pw_idiv (z := (G (113) (p)) / (nI (8))) rfl (nI_ne0 (by decide) (by decide)) rfl ?_
      refine pw_isub (z := (G (113) (p)) - ((G (113) (p)) / (nI (8)))) rfl rfl ?_
      refine pw_iload_n rfl rfl ?_
      refine pw_iadd (z := ((G (113) (p)) - ((G (113) (p)) / (nI (8)))) + x) rfl rfl ?_
      refine px_iastn rfl rfl (by omega) (by decide) ?_
      refine pw_goto (t := 106) rfl rfl ?_
      refine pw_aload_n rfl rfl ?_
      refine px_getr (r := some (113)) rfl rfl rfl rfl rfl ?_
      refine pw_iload_n rfl rfl ?_
      refine px_ialdn (x := ((G (113) (p)) - ((G (113) (p)) / (nI (8)))) + x) rfl rfl (by omega) (by decide) (up2_eq) ?_
      refine pw_bipush (v := nI (8)) rfl (by decide) ?_
      refine pw_idiv (z := (((G (113) (p)) - ((G (113) (p)) / (nI (8)))) + x) / (nI (8))) rfl (nI_ne0 (by decide) (by decide)) rfl ?_
      refine pw_aload_n rfl rfl ?_
      refine px_getr (r := some (114)) rfl rfl rfl rfl rfl ?_
      refine pw_iload_n rfl rfl ?_
      refine px_ialdn (x := ((G (114) (p)) - ((G (114) (p)) / (nI (4)))) + (-(((G (113) (p)) / (nI (8))) - x))) rfl rfl (by omega) (by decide) ((up2_ne1 (by decide)).trans (up2_eq)) ?_
      refine pw_iadd (z := ((((G (113) (p)) - ((G (113) (p)) / (nI (8)))) + x) / (nI (8))) + (((G (114) (p)) - ((G (114) (p)) / (nI (4)))) + (-(((G (113) (p)) / (nI (8))) - x)))) rfl rfl ?_
      refine pw_istore_n (ls1 := [some (.inr (some (103))), some (.inl (nI (p))), some (.inl (x)), some (.inl (((((G (113) (p)) - ((G (113) (p)) / (nI (8)))) + x) / (nI (8))) + (((G (114) (p)) - ((G (114) (p)) / (nI (4)))) + (-(((G (113) (p)) / (nI (8))) - x)))))]) rfl (Nat.le_of_ble_eq_true rfl) rfl ?_
      refine pw_aload_n rfl rfl ?_
      refine px_getr (r := some (110)) rfl rfl rfl rfl rfl ?_
      refine pw_iload_n rfl rfl ?_
      refine pw_iload_n rfl rfl ?_
      refine pw_bipush (v := nI (6)) rfl (by decide) ?_
      refine pw_if2p (A := nI (6) ≤ ((((G (113) (p)) - ((G (113) (p)) / (nI (8)))) + x) / (nI (8))) + (((G (114) (p)) - ((G (114) (p)) / (nI (4)))) + (-(((G (113) (p)) / (nI (8))) - x)))) rfl rfl (t := 139) rfl (fun c7 => ?_) (fun c7 => ?_)
      · -- 139
        refine pw_iload_n rfl rfl ?_
        refine pw_bipush (v := nI (120)) rfl (by decide) ?_
        refine pw_if2p (A := ((((G (113) (p)) - ((G (113) (p)) / (nI (8)))) + x) / (nI (8))) + (((G (114) (p)) - ((G (114) (p)) / (nI (4)))) + (-(((G (113) (p)) / (nI (8))) - x))) ≤ nI (120)) rfl rfl (t := 150) rfl (fun c8 => ?_) (fun c8 => ?_)
        · -- 150
          refine pw_iload_n rfl rfl ?_
          refine px_iastn rfl rfl (by omega) (by decide) ?_
          exact pw_vret rfl rfl (Nat.zero_le _) (Nat.zero_le _) (by simp only [meas_G, c1, c4, c7, c8, if_true, if_false] at k; exact k)
        · -- 145
          refine pw_bipush (v := nI (120)) rfl (by decide) ?_
          refine pw_goto (t := 151) rfl rfl ?_
          refine px_iastn rfl rfl (by omega) (by decide) ?_
          exact pw_vret rfl rfl (Nat.zero_le _) (Nat.zero_le _) (by simp only [meas_G, c1, c4, c7, c8, if_true, if_false] at k; exact k)
      · -- 134
        refine pw_bipush (v := nI (6)) rfl (by decide) ?_
        refine pw_goto (t := 151) rfl rfl ?_
        refine px_iastn rfl rfl (by omega) (by decide) ?_
        exact pw_vret rfl rfl (Nat.zero_le _) (Nat.zero_le _) (by simp only [meas_G, c1, c4, c7, if_true, if_false] at k; exact k)
/-- SBModel_state -/
def state_r (G : FN) (p : Nat) : Int32 := G (107) (p)
theorem t_state {L p : Nat} {F G : FN} {R : RN} (hp : p < 4) {Q : Option PV → PH → Prop} (k : Q (some (.inl (state_r G p))) (hb (sL L) F G R sO)) : pz pP mSBModel_state [.inr (some (103)), .inl (nI (p))] (hb (sL L) F G R sO) Q := by
  show pw pP mSBModel_state (0, [some (.inr (some (103))), some (.inl (nI (p)))], [], 0, 0, hb (sL L) F G R sO) _
  refine pw_iload_n rfl rfl ?_
  refine pw_calls (as := [.inl (nI (p))]) (rest := []) rfl rfl (by decide) rfl (Nat.le_of_ble_eq_true rfl) (Nat.le_of_ble_eq_true rfl) (Nat.le_of_ble_eq_true rfl) (Nat.le_of_ble_eq_true rfl) rfl rfl ?_
  refine t_path_in hp ?_
  show pw pP mSBModel_state (4, [some (.inr (some (103))), some (.inl (nI (p)))], [.inl (nI (1))], 0, 0, hb (sL L) F G R sO) _
  refine pw_if1 (t := 16) rfl rfl (fun q => absurd q (by decide)) (fun _ => ?_)
  refine pw_aload_n rfl rfl ?_
  refine px_getr (r := some (107)) rfl rfl rfl rfl rfl ?_
  refine pw_iload_n rfl rfl ?_
  refine px_ialdn (x := G (107) (p)) rfl rfl (by omega) (by decide) (rfl) ?_
  refine pw_goto (t := 17) rfl rfl ?_
  exact pw_iret rfl rfl (Nat.zero_le _) (Nat.zero_le _) rfl k
/-- SBModel_timeout -/
def timeout_r (G : FN) (p : Nat) : Int32 := G (110) (p)
theorem t_timeout {L p : Nat} {F G : FN} {R : RN} (hp : p < 4) {Q : Option PV → PH → Prop} (k : Q (some (.inl (timeout_r G p))) (hb (sL L) F G R sO)) : pz pP mSBModel_timeout [.inr (some (103)), .inl (nI (p))] (hb (sL L) F G R sO) Q := by
  show pw pP mSBModel_timeout (0, [some (.inr (some (103))), some (.inl (nI (p)))], [], 0, 0, hb (sL L) F G R sO) _
  refine pw_iload_n rfl rfl ?_
  refine pw_calls (as := [.inl (nI (p))]) (rest := []) rfl rfl (by decide) rfl (Nat.le_of_ble_eq_true rfl) (Nat.le_of_ble_eq_true rfl) (Nat.le_of_ble_eq_true rfl) (Nat.le_of_ble_eq_true rfl) rfl rfl ?_
  refine t_path_in hp ?_
  show pw pP mSBModel_timeout (4, [some (.inr (some (103))), some (.inl (nI (p)))], [.inl (nI (1))], 0, 0, hb (sL L) F G R sO) _
  refine pw_if1 (t := 16) rfl rfl (fun q => absurd q (by decide)) (fun _ => ?_)
  refine pw_aload_n rfl rfl ?_
  refine px_getr (r := some (110)) rfl rfl rfl rfl rfl ?_
  refine pw_iload_n rfl rfl ?_
  refine px_ialdn (x := G (110) (p)) rfl rfl (by omega) (by decide) (rfl) ?_
  refine pw_goto (t := 17) rfl rfl ?_
  exact pw_iret rfl rfl (Nat.zero_le _) (Nat.zero_le _) rfl k
/-- SBModel_sent -/
def sent_r (G : FN) (p : Nat) : Int32 := G (117) (p)
theorem t_sent {L p : Nat} {F G : FN} {R : RN} (hp : p < 4) {Q : Option PV → PH → Prop} (k : Q (some (.inl (sent_r G p))) (hb (sL L) F G R sO)) : pz pP mSBModel_sent [.inr (some (103)), .inl (nI (p))] (hb (sL L) F G R sO) Q := by
  show pw pP mSBModel_sent (0, [some (.inr (some (103))), some (.inl (nI (p)))], [], 0, 0, hb (sL L) F G R sO) _
  refine pw_iload_n rfl rfl ?_
  refine pw_calls (as := [.inl (nI (p))]) (rest := []) rfl rfl (by decide) rfl (Nat.le_of_ble_eq_true rfl) (Nat.le_of_ble_eq_true rfl) (Nat.le_of_ble_eq_true rfl) (Nat.le_of_ble_eq_true rfl) rfl rfl ?_
  refine t_path_in hp ?_
  show pw pP mSBModel_sent (4, [some (.inr (some (103))), some (.inl (nI (p)))], [.inl (nI (1))], 0, 0, hb (sL L) F G R sO) _
  refine pw_if1 (t := 16) rfl rfl (fun q => absurd q (by decide)) (fun _ => ?_)
  refine pw_aload_n rfl rfl ?_
  refine px_getr (r := some (117)) rfl rfl rfl rfl rfl ?_
  refine pw_iload_n rfl rfl ?_
  refine px_ialdn (x := G (117) (p)) rfl rfl (by omega) (by decide) (rfl) ?_
  refine pw_goto (t := 17) rfl rfl ?_
  exact pw_iret rfl rfl (Nat.zero_le _) (Nat.zero_le _) rfl k
/-- SBModel_acknowledged -/
def acknowledged_r (F : FN) : Int32 := F (103) (22)
theorem t_acknowledged {L : Nat} {F G : FN} {R : RN} {Q : Option PV → PH → Prop} (k : Q (some (.inl (acknowledged_r F))) (hb (sL L) F G R sO)) : pz pP mSBModel_acknowledged [.inr (some (103))] (hb (sL L) F G R sO) Q := by
  show pw pP mSBModel_acknowledged (0, [some (.inr (some (103)))], [], 0, 0, hb (sL L) F G R sO) _
  refine pw_aload_n rfl rfl ?_
  refine px_getv (x := F (103) (22)) rfl rfl rfl rfl (rfl) ?_
  exact pw_iret rfl rfl (Nat.zero_le _) (Nat.zero_le _) rfl k
/-- SBModel_reinjected -/
def reinjected_r (F : FN) : Int32 := F (103) (24)
theorem t_reinjected {L : Nat} {F G : FN} {R : RN} {Q : Option PV → PH → Prop} (k : Q (some (.inl (reinjected_r F))) (hb (sL L) F G R sO)) : pz pP mSBModel_reinjected [.inr (some (103))] (hb (sL L) F G R sO) Q := by
  show pw pP mSBModel_reinjected (0, [some (.inr (some (103)))], [], 0, 0, hb (sL L) F G R sO) _
  refine pw_aload_n rfl rfl ?_
  refine px_getv (x := F (103) (24)) rfl rfl rfl rfl (rfl) ?_
  exact pw_iret rfl rfl (Nat.zero_le _) (Nat.zero_le _) rfl k
/-- SBModel_token -/
def token_r (F : FN) : Int32 := F (103) (2)
theorem t_token {L : Nat} {F G : FN} {R : RN} {Q : Option PV → PH → Prop} (k : Q (some (.inl (token_r F))) (hb (sL L) F G R sO)) : pz pP mSBModel_token [.inr (some (103))] (hb (sL L) F G R sO) Q := by
  show pw pP mSBModel_token (0, [some (.inr (some (103)))], [], 0, 0, hb (sL L) F G R sO) _
  refine pw_aload_n rfl rfl ?_
  refine px_getv (x := F (103) (2)) rfl rfl rfl rfl (rfl) ?_
  exact pw_iret rfl rfl (Nat.zero_le _) (Nat.zero_le _) rfl k
