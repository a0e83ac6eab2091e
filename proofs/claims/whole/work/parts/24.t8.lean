/-! THE REFERENCE, eighth part: B hears, write, open. Rows laid by a program (wip/whole/gen/twin7.py). -/
def tex (G : FN) (p : Nat) : Nat → Nat → Nat
  | 0, e => e
  | n + 1, e => tex G p n (if G 105 (402 * p + n) = 0 then 0 else e + 1)
def dj (n : Nat) : Int32 := match n with
  | 0 => -1
  | n + 1 => nI n
theorem dj_dec (n : Nat) : nI n + Int32.ofInt (-1) = dj n := by
  cases n with
  | zero => decide
  | succ n =>
    rw [show Int32.ofInt (-1) = -1 by decide]
    exact pk_m1 n
theorem t_atB_lp {L p : Nat} {wh a b m : Int32} {F G : FN} {R : RN} {Q : Option PV → PH → Prop} (hp : p < 4) : ∀ (n e : Nat), n ≤ 402 → pw pP mSBModel_atB (191, [some (.inr (some (103))), some (.inl (nI (p))), some (.inl (wh)), some (.inl (a)), some (.inl (b)), some (.inl (m)), some (.inl (nI (tex G p n e))), some (.inl (-1))], [], 0, 0, hb (sL L) F G R sO) Q → pw pP mSBModel_atB (154, [some (.inr (some (103))), some (.inl (nI (p))), some (.inl (wh)), some (.inl (a)), some (.inl (b)), some (.inl (m)), some (.inl (nI (e))), some (.inl (dj n))], [], 0, 0, hb (sL L) F G R sO) Q := by
  intro n
  induction n with
  | zero =>
    intro e hn k
    show pw pP mSBModel_atB (154, [some (.inr (some (103))), some (.inl (nI (p))), some (.inl (wh)), some (.inl (a)), some (.inl (b)), some (.inl (m)), some (.inl (nI (e))), some (.inl (-1))], [], 0, 0, hb (sL L) F G R sO) Q
    refine pw_iload rfl rfl ?_
    refine pw_if1p (A := -1 < 0) rfl rfl (t := 191) rfl (fun _ => ?_) (fun q => absurd (by decide) q)
    exact k
  | succ n ih =>
    intro e hn k
    show pw pP mSBModel_atB (154, [some (.inr (some (103))), some (.inl (nI (p))), some (.inl (wh)), some (.inl (a)), some (.inl (b)), some (.inl (m)), some (.inl (nI (e))), some (.inl (nI (n)))], [], 0, 0, hb (sL L) F G R sO) Q
    refine pw_iload rfl rfl ?_
    refine pw_if1p (cz_lt (by omega)) rfl (t := 191) rfl (fun q => absurd q (by omega)) (fun _ => ?_)
    refine pw_aload_n rfl rfl ?_
    refine px_getr (r := some (105)) rfl rfl rfl rfl rfl ?_
    refine pw_sipush (v := nI (402)) rfl (by decide) ?_
    refine pw_iload_n rfl rfl ?_
    refine pw_imul (z := nI (402 * p)) rfl (pk_mul _ _) ?_
    refine pw_iload rfl rfl ?_
    refine pw_iadd (z := nI (402 * p + n)) rfl (nI_add _ _) ?_
    refine px_zaldn (x := G (105) (402 * p + n)) rfl rfl (by omega) (by decide) (rfl) ?_
    refine pw_if1p (A := G (105) (402 * p + n) = 0) rfl rfl (t := 182) rfl (fun c1 => ?_) (fun c1 => ?_)
    · -- 182
      refine pw_iconst (v := nI (0)) rfl (by decide) ?_
      refine pw_istore (ls1 := [some (.inr (some (103))), some (.inl (nI (p))), some (.inl (wh)), some (.inl (a)), some (.inl (b)), some (.inl (m)), some (.inl (nI (0))), some (.inl (nI (n)))]) rfl (Nat.le_of_ble_eq_true rfl) rfl ?_
      refine pw_iinc (v := dj n) (ls1 := [some (.inr (some (103))), some (.inl (nI (p))), some (.inl (wh)), some (.inl (a)), some (.inl (b)), some (.inl (m)), some (.inl (nI (0))), some (.inl (dj n))]) rfl rfl (dj_dec n) rfl ?_
      refine pw_goto (t := 154) rfl rfl ?_
      exact ih _ (by omega) (by simp only [tex, c1, if_true, if_false] at k; exact k)
    · -- 175
      refine pw_iload rfl rfl ?_
      refine pw_iconst (v := nI (1)) rfl (by decide) ?_
      refine pw_iadd (z := nI (e + 1)) rfl (nI_add _ _) ?_
      refine pw_goto (t := 183) rfl rfl ?_
      refine pw_istore (ls1 := [some (.inr (some (103))), some (.inl (nI (p))), some (.inl (wh)), some (.inl (a)), some (.inl (b)), some (.inl (m)), some (.inl (nI (e + 1))), some (.inl (nI (n)))]) rfl (Nat.le_of_ble_eq_true rfl) rfl ?_
      refine pw_iinc (v := dj n) (ls1 := [some (.inr (some (103))), some (.inl (nI (p))), some (.inl (wh)), some (.inl (a)), some (.inl (b)), some (.inl (m)), some (.inl (nI (e + 1))), some (.inl (dj n))]) rfl rfl (dj_dec n) rfl ?_
      refine pw_goto (t := 154) rfl rfl ?_
      exact ih _ (by omega) (by simp only [tex, c1, if_true, if_false] at k; exact k)
/-- B answers -/
def tans (F G : FN) (p fl nx bu : Nat) : FN := tship F G (2 * p + 1) fl (nI 2) (nI (tex G p 402 0)) (nI (lead (G 106) 401 0)) (nI (nx + bu)) (nI 0)
theorem t_atB_tail {L p fl nx bu : Nat} {wh a b m : Int32} {F G : FN} {R : RN} {o6 o7 : Option PV} {Q : Option PV → PH → Prop} (hp : p < 4) (hfl : G 124 (2 * p + 1) = nI fl) (hf6 : fl ≤ 6) (hnx : F 103 10 = nI nx) (hbu : F 103 1 = nI bu) (k : Q none (hb (sL L) F (tans F G p fl nx bu) R sO)) : pw pP mSBModel_atB (146, [some (.inr (some (103))), some (.inl (nI (p))), some (.inl (wh)), some (.inl (a)), some (.inl (b)), some (.inl (m)), o6, o7], [], 0, 0, hb (sL L) F G R sO) Q := by
  refine pw_iconst (v := nI (0)) rfl (by decide) ?_
  refine pw_istore (ls1 := [some (.inr (some (103))), some (.inl (nI (p))), some (.inl (wh)), some (.inl (a)), some (.inl (b)), some (.inl (m)), some (.inl (nI (0))), o7]) rfl (Nat.le_of_ble_eq_true rfl) rfl ?_
  refine pw_sipush (v := nI (401)) rfl (by decide) ?_
  refine pw_istore (ls1 := [some (.inr (some (103))), some (.inl (nI (p))), some (.inl (wh)), some (.inl (a)), some (.inl (b)), some (.inl (m)), some (.inl (nI (0))), some (.inl (nI (401)))]) rfl (Nat.le_of_ble_eq_true rfl) rfl ?_
  refine t_atB_lp hp 402 0 (by decide) ?_
  refine pw_aload_n rfl rfl ?_
  refine px_callv (as := [.inr (some (103))]) (rest := []) rfl rfl (by decide) rfl (Nat.le_of_ble_eq_true rfl) (Nat.le_of_ble_eq_true rfl) (Nat.le_of_ble_eq_true rfl) (Nat.le_of_ble_eq_true rfl) rfl rfl rfl rfl ?_
  refine t_received ?_
  show pw pP mSBModel_atB (195, [some (.inr (some (103))), some (.inl (nI (p))), some (.inl (wh)), some (.inl (a)), some (.inl (b)), some (.inl (m)), some (.inl (nI (tex G p 402 0))), some (.inl (-1))], [.inl (nI (lead (G 106) 401 0))], 0, 0, hb (sL L) F G R sO) _
  refine pw_istore (ls1 := [some (.inr (some (103))), some (.inl (nI (p))), some (.inl (wh)), some (.inl (a)), some (.inl (b)), some (.inl (m)), some (.inl (nI (tex G p 402 0))), some (.inl (nI (lead (G 106) 401 0)))]) rfl (Nat.le_of_ble_eq_true rfl) rfl ?_
  refine pw_aload_n rfl rfl ?_
  refine pw_iconst (v := nI (2)) rfl (by decide) ?_
  refine pw_iload_n rfl rfl ?_
  refine pw_imul (z := nI (2 * p)) rfl (pk_mul _ _) ?_
  refine pw_iconst (v := nI (1)) rfl (by decide) ?_
  refine pw_iadd (z := nI (2 * p + 1)) rfl (nI_add _ _) ?_
  refine pw_iconst (v := nI (2)) rfl (by decide) ?_
  refine pw_iload rfl rfl ?_
  refine pw_iload rfl rfl ?_
  refine pw_aload_n rfl rfl ?_
  refine px_getv (x := nI (nx)) rfl rfl rfl rfl (hnx) ?_
  refine pw_aload_n rfl rfl ?_
  refine px_getv (x := nI (bu)) rfl rfl rfl rfl (hbu) ?_
  refine pw_iadd (z := nI (nx + bu)) rfl (nI_add _ _) ?_
  refine pw_iconst (v := nI (0)) rfl (by decide) ?_
  refine px_callv (as := [.inr (some (103)), .inl (nI (2 * p + 1)), .inl (nI (2)), .inl (nI (tex G p 402 0)), .inl (nI (lead (G 106) 401 0)), .inl (nI (nx + bu)), .inl (nI (0))]) (rest := []) rfl rfl (by decide) rfl (Nat.le_of_ble_eq_true rfl) (Nat.le_of_ble_eq_true rfl) (Nat.le_of_ble_eq_true rfl) (Nat.le_of_ble_eq_true rfl) rfl rfl rfl rfl ?_
  refine t_ship (by omega) (hfl) hf6 ?_
  show pw pP mSBModel_atB (221, [some (.inr (some (103))), some (.inl (nI (p))), some (.inl (wh)), some (.inl (a)), some (.inl (b)), some (.inl (m)), some (.inl (nI (tex G p 402 0))), some (.inl (nI (lead (G 106) 401 0)))], [], 0, 0, hb (sL L) F (tship F G (2 * p + 1) fl (nI (2)) (nI (tex G p 402 0)) (nI (lead (G 106) 401 0)) (nI (nx + bu)) (nI (0))) R sO) _
  exact pw_vret rfl rfl (Nat.zero_le _) (Nat.zero_le _) k
def abSF (F G : FN) (p : Nat) (b : Int32) : FN := if G 105 (402 * p) = 0 then (if ¬ F 103 9 = 0 ∧ ¬ b = F 103 2 then F else up2 F 103 9 (nI 1)) else F
def abSG (F G : FN) (p : Nat) (b : Int32) (fl nx bu : Nat) : FN := if G 105 (402 * p) = 0 then (if ¬ F 103 9 = 0 ∧ ¬ b = F 103 2 then tship F G (2 * p + 1) fl (nI 3) (nI 0) (nI 0) (nI 0) (nI 0) else tans (up2 F 103 9 (nI 1)) (up2 G 105 (402 * p) (nI 1)) p fl nx bu) else tans F G p fl nx bu
theorem t_atB0 {L p fl nx bu : Nat} {a b m : Int32} {F G : FN} {R : RN} (hp : p < 4) (hfl : G 124 (2 * p + 1) = nI fl) (hf6 : fl ≤ 6) (hnx : F 103 10 = nI nx) (hbu : F 103 1 = nI bu) {Q : Option PV → PH → Prop} (k : Q none (hb (sL L) (abSF F G p b) (abSG F G p b fl nx bu) R sO)) : pz pP mSBModel_atB [.inr (some (103)), .inl (nI (p)), .inl (nI (0)), .inl (a), .inl (b), .inl (m)] (hb (sL L) F G R sO) Q := by
  show pw pP mSBModel_atB (0, [some (.inr (some (103))), some (.inl (nI (p))), some (.inl (nI (0))), some (.inl (a)), some (.inl (b)), some (.inl (m)), none, none], [], 0, 0, hb (sL L) F G R sO) _
  refine pw_iload_n rfl rfl ?_
  refine pw_if1 (t := 64) rfl rfl (fun q => absurd q (by decide)) (fun _ => ?_)
  refine pw_aload_n rfl rfl ?_
  refine px_getr (r := some (105)) rfl rfl rfl rfl rfl ?_
  refine pw_sipush (v := nI (402)) rfl (by decide) ?_
  refine pw_iload_n rfl rfl ?_
  refine pw_imul (z := nI (402 * p)) rfl (pk_mul _ _) ?_
  refine px_zaldn (x := G (105) (402 * p)) rfl rfl (by omega) (by decide) (rfl) ?_
  refine pw_if1p (A := ¬ G (105) (402 * p) = 0) rfl rfl (t := 64) rfl (fun c1 => ?_) (fun c1 => ?_)
  · -- 64
    refine pw_iload_n rfl rfl ?_
    refine pw_iconst (v := nI (1)) rfl (by decide) ?_
    refine pw_if2 (t := 146) rfl rfl (fun _ => ?_) (fun q => absurd q (by decide))
    simp only [abSF, abSG, eq_false c1, not_true_eq_false, not_false_eq_true, and_self, and_true, true_and, and_false, false_and, or_true, true_or, or_false, false_or, or_self, if_true, if_false] at k
    exact t_atB_tail hp hfl hf6 hnx hbu k
  · -- 17
    refine pw_aload_n rfl rfl ?_
    refine px_getv (x := F (103) (9)) rfl rfl rfl rfl (rfl) ?_
    refine pw_if1p (A := F (103) (9) = 0) rfl rfl (t := 48) rfl (fun c2 => ?_) (fun c2 => ?_)
    · -- 48
      refine pw_aload_n rfl rfl ?_
      refine pw_iconst (v := nI (1)) rfl (by decide) ?_
      refine px_put rfl rfl rfl rfl rfl ?_
      refine pw_aload_n rfl rfl ?_
      refine px_getr (r := some (105)) rfl rfl rfl rfl rfl ?_
      refine pw_sipush (v := nI (402)) rfl (by decide) ?_
      refine pw_iload_n rfl rfl ?_
      refine pw_imul (z := nI (402 * p)) rfl (pk_mul _ _) ?_
      refine pw_iconst (v := nI (1)) rfl (by decide) ?_
      refine px_zastn (x1 := nI (1)) rfl rfl (by omega) (by decide) (by decide) ?_
      refine pw_iload_n rfl rfl ?_
      refine pw_iconst (v := nI (1)) rfl (by decide) ?_
      refine pw_if2 (t := 146) rfl rfl (fun _ => ?_) (fun q => absurd q (by decide))
      simp only [abSF, abSG, eq_true (Decidable.of_not_not c1), eq_true c2, not_true_eq_false, not_false_eq_true, and_self, and_true, true_and, and_false, false_and, or_true, true_or, or_false, false_or, or_self, if_true, if_false] at k
      exact t_atB_tail hp ((up2_ne1 (by decide)).trans hfl) hf6 ((up2_ne2 (by decide)).trans hnx) ((up2_ne2 (by decide)).trans hbu) k
    · -- 24
      refine pw_iload rfl rfl ?_
      refine pw_aload_n rfl rfl ?_
      refine px_getv (x := F (103) (2)) rfl rfl rfl rfl (rfl) ?_
      refine pw_if2p (A := b = F (103) (2)) rfl rfl (t := 48) rfl (fun c3 => ?_) (fun c3 => ?_)
      · -- 48
        refine pw_aload_n rfl rfl ?_
        refine pw_iconst (v := nI (1)) rfl (by decide) ?_
        refine px_put rfl rfl rfl rfl rfl ?_
        refine pw_aload_n rfl rfl ?_
        refine px_getr (r := some (105)) rfl rfl rfl rfl rfl ?_
        refine pw_sipush (v := nI (402)) rfl (by decide) ?_
        refine pw_iload_n rfl rfl ?_
        refine pw_imul (z := nI (402 * p)) rfl (pk_mul _ _) ?_
        refine pw_iconst (v := nI (1)) rfl (by decide) ?_
        refine px_zastn (x1 := nI (1)) rfl rfl (by omega) (by decide) (by decide) ?_
        refine pw_iload_n rfl rfl ?_
        refine pw_iconst (v := nI (1)) rfl (by decide) ?_
        refine pw_if2 (t := 146) rfl rfl (fun _ => ?_) (fun q => absurd q (by decide))
        simp only [abSF, abSG, eq_true (Decidable.of_not_not c1), eq_false c2, eq_true c3, not_true_eq_false, not_false_eq_true, and_self, and_true, true_and, and_false, false_and, or_true, true_or, or_false, false_or, or_self, if_true, if_false] at k
        exact t_atB_tail hp ((up2_ne1 (by decide)).trans hfl) hf6 ((up2_ne2 (by decide)).trans hnx) ((up2_ne2 (by decide)).trans hbu) k
      · -- 33
        refine pw_aload_n rfl rfl ?_
        refine pw_iconst (v := nI (2)) rfl (by decide) ?_
        refine pw_iload_n rfl rfl ?_
        refine pw_imul (z := nI (2 * p)) rfl (pk_mul _ _) ?_
        refine pw_iconst (v := nI (1)) rfl (by decide) ?_
        refine pw_iadd (z := nI (2 * p + 1)) rfl (nI_add _ _) ?_
        refine pw_iconst (v := nI (3)) rfl (by decide) ?_
        refine pw_iconst (v := nI (0)) rfl (by decide) ?_
        refine pw_iconst (v := nI (0)) rfl (by decide) ?_
        refine pw_iconst (v := nI (0)) rfl (by decide) ?_
        refine pw_iconst (v := nI (0)) rfl (by decide) ?_
        refine px_callv (as := [.inr (some (103)), .inl (nI (2 * p + 1)), .inl (nI (3)), .inl (nI (0)), .inl (nI (0)), .inl (nI (0)), .inl (nI (0))]) (rest := []) rfl rfl (by decide) rfl (Nat.le_of_ble_eq_true rfl) (Nat.le_of_ble_eq_true rfl) (Nat.le_of_ble_eq_true rfl) (Nat.le_of_ble_eq_true rfl) rfl rfl rfl rfl ?_
        refine t_ship (by omega) (hfl) hf6 ?_
        show pw pP mSBModel_atB (47, [some (.inr (some (103))), some (.inl (nI (p))), some (.inl (nI (0))), some (.inl (a)), some (.inl (b)), some (.inl (m)), none, none], [], 0, 0, hb (sL L) F (tship F G (2 * p + 1) fl (nI (3)) (nI (0)) (nI (0)) (nI (0)) (nI (0))) R sO) _
        simp only [abSF, abSG, eq_true (Decidable.of_not_not c1), eq_false c2, eq_false c3, not_true_eq_false, not_false_eq_true, and_self, and_true, true_and, and_false, false_and, or_true, true_or, or_false, false_or, or_self, if_true, if_false] at k
        exact pw_vret rfl rfl (Nat.zero_le _) (Nat.zero_le _) k
def tdn (p a b : Nat) : Nat → Nat → FN → FN
  | 0, _, G => G
  | n + 1, j, G => tdn p a b n (j + 1) (up2 (up2 G 105 (402 * p + a + j) (nI 1)) 106 (b + j) (nI 1))
theorem tdn_row {p a b r : Nat} (h1 : ¬ r = 105) (h2 : ¬ r = 106) : ∀ (n j : Nat) (G : FN), tdn p a b n j G r = G r
  | 0, _, _ => rfl
  | n + 1, j, G => by
    refine (tdn_row h1 h2 n (j + 1) _).trans ?_
    rw [up2_row h2, up2_row h1]
theorem t_atB_dl {L p a b m : Nat} {F : FN} {R : RN} {Q : Option PV → PH → Prop} (hp : p < 4) (ha : a + m ≤ 402) (hb1 : b + m ≤ 401) : ∀ (n j : Nat) (G : FN), j + n = m → pw pP mSBModel_atB (146, [some (.inr (some (103))), some (.inl (nI (p))), some (.inl (nI (1))), some (.inl (nI (a))), some (.inl (nI (b))), some (.inl (nI (m))), some (.inl (nI (m))), none], [], 0, 0, hb (sL L) F (tdn p a b n j G) R sO) Q → pw pP mSBModel_atB (106, [some (.inr (some (103))), some (.inl (nI (p))), some (.inl (nI (1))), some (.inl (nI (a))), some (.inl (nI (b))), some (.inl (nI (m))), some (.inl (nI (j))), none], [], 0, 0, hb (sL L) F G R sO) Q := by
  intro n
  induction n with
  | zero =>
    intro j G hn k
    have e : m = j := by omega
    subst e
    refine pw_iload rfl rfl ?_
    refine pw_iload rfl rfl ?_
    refine pw_if2p (cn_ge (by omega) (by omega)) rfl (t := 146) rfl (fun c1 => ?_) (fun c1 => ?_)
    · -- 146
      exact k
    · -- 113
      exact absurd c1 (by omega)
  | succ n ih =>
    intro j G hn k
    refine pw_iload rfl rfl ?_
    refine pw_iload rfl rfl ?_
    refine pw_if2p (cn_ge (by omega) (by omega)) rfl (t := 146) rfl (fun c1 => ?_) (fun c1 => ?_)
    · -- 146
      exact absurd c1 (by omega)
    · -- 113
      refine pw_aload_n rfl rfl ?_
      refine px_getr (r := some (105)) rfl rfl rfl rfl rfl ?_
      refine pw_sipush (v := nI (402)) rfl (by decide) ?_
      refine pw_iload_n rfl rfl ?_
      refine pw_imul (z := nI (402 * p)) rfl (pk_mul _ _) ?_
      refine pw_iload_n rfl rfl ?_
      refine pw_iadd (z := nI (402 * p + a)) rfl (nI_add _ _) ?_
      refine pw_iload rfl rfl ?_
      refine pw_iadd (z := nI (402 * p + a + j)) rfl (nI_add _ _) ?_
      refine pw_iconst (v := nI (1)) rfl (by decide) ?_
      refine px_zastn (x1 := nI (1)) rfl rfl (by omega) (by decide) (by decide) ?_
      refine pw_aload_n rfl rfl ?_
      refine px_getr (r := some (106)) rfl rfl rfl rfl rfl ?_
      refine pw_iload rfl rfl ?_
      refine pw_iload rfl rfl ?_
      refine pw_iadd (z := nI (b + j)) rfl (nI_add _ _) ?_
      refine pw_iconst (v := nI (1)) rfl (by decide) ?_
      refine px_zastn (x1 := nI (1)) rfl rfl (by omega) (by decide) (by decide) ?_
      refine pw_iinc (v := nI (j + 1)) (ls1 := [some (.inr (some (103))), some (.inl (nI (p))), some (.inl (nI (1))), some (.inl (nI (a))), some (.inl (nI (b))), some (.inl (nI (m))), some (.inl (nI (j + 1))), none]) rfl rfl (iinc_n _) rfl ?_
      refine pw_goto (t := 106) rfl rfl ?_
      exact ih (j + 1) _ (by omega) k
def abDG (F G : FN) (p a b m fl nx bu : Nat) : FN := if ¬ G 105 (402 * p + a) = 0 then tans F G p fl nx bu else if nx + bu ≤ b + m - 1 then tans F G p fl nx bu else tans F (tdn p a b m 0 G) p fl nx bu
theorem t_atB1 {L p a b m fl nx bu : Nat} {F G : FN} {R : RN} (hp : p < 4) (ha : a + m ≤ 402) (hb1 : b + m ≤ 401) (hm : 0 < m) (hfl : G 124 (2 * p + 1) = nI fl) (hf6 : fl ≤ 6) (hnx : F 103 10 = nI nx) (hn2 : nx ≤ 401) (hbu : F 103 1 = nI bu) (hb2 : bu ≤ 56) {Q : Option PV → PH → Prop} (k : Q none (hb (sL L) F (abDG F G p a b m fl nx bu) R sO)) : pz pP mSBModel_atB [.inr (some (103)), .inl (nI (p)), .inl (nI (1)), .inl (nI (a)), .inl (nI (b)), .inl (nI (m))] (hb (sL L) F G R sO) Q := by
  show pw pP mSBModel_atB (0, [some (.inr (some (103))), some (.inl (nI (p))), some (.inl (nI (1))), some (.inl (nI (a))), some (.inl (nI (b))), some (.inl (nI (m))), none, none], [], 0, 0, hb (sL L) F G R sO) _
  refine pw_iload_n rfl rfl ?_
  refine pw_if1 (t := 64) rfl rfl (fun _ => ?_) (fun q => absurd q (by decide))
  refine pw_iload_n rfl rfl ?_
  refine pw_iconst (v := nI (1)) rfl (by decide) ?_
  refine pw_if2 (t := 146) rfl rfl (fun q => absurd q (by decide)) (fun _ => ?_)
  refine pw_aload_n rfl rfl ?_
  refine px_getr (r := some (105)) rfl rfl rfl rfl rfl ?_
  refine pw_sipush (v := nI (402)) rfl (by decide) ?_
  refine pw_iload_n rfl rfl ?_
  refine pw_imul (z := nI (402 * p)) rfl (pk_mul _ _) ?_
  refine pw_iload_n rfl rfl ?_
  refine pw_iadd (z := nI (402 * p + a)) rfl (nI_add _ _) ?_
  refine px_zaldn (x := G (105) (402 * p + a)) rfl rfl (by omega) (by decide) (rfl) ?_
  refine pw_if1p (A := ¬ G (105) (402 * p + a) = 0) rfl rfl (t := 146) rfl (fun c1 => ?_) (fun c1 => ?_)
  · -- 146
    simp only [abDG, c1, if_true, if_false] at k
    exact t_atB_tail hp hfl hf6 hnx hbu k
  · -- 84
    refine pw_iload rfl rfl ?_
    refine pw_iload rfl rfl ?_
    refine pw_iadd (z := nI (b + m)) rfl (nI_add _ _) ?_
    refine pw_iconst (v := nI (1)) rfl (by decide) ?_
    refine pw_isub (z := nI (b + m - 1)) rfl (pk_sub (by omega)) ?_
    refine pw_aload_n rfl rfl ?_
    refine px_getv (x := nI (nx)) rfl rfl rfl rfl (hnx) ?_
    refine pw_aload_n rfl rfl ?_
    refine px_getv (x := nI (bu)) rfl rfl rfl rfl (hbu) ?_
    refine pw_iadd (z := nI (nx + bu)) rfl (nI_add _ _) ?_
    refine pw_if2p (cn_ge (by omega) (by omega)) rfl (t := 146) rfl (fun c2 => ?_) (fun c2 => ?_)
    · -- 146
      simp only [abDG, c1, c2, if_true, if_false] at k
      exact t_atB_tail hp hfl hf6 hnx hbu k
    · -- 103
      refine pw_iconst (v := nI (0)) rfl (by decide) ?_
      refine pw_istore (ls1 := [some (.inr (some (103))), some (.inl (nI (p))), some (.inl (nI (1))), some (.inl (nI (a))), some (.inl (nI (b))), some (.inl (nI (m))), some (.inl (nI (0))), none]) rfl (Nat.le_of_ble_eq_true rfl) rfl ?_
      simp only [abDG, c1, c2, if_true, if_false] at k
      exact t_atB_dl hp ha hb1 m 0 G (by omega) (t_atB_tail hp ((congrFun (tdn_row (by decide) (by decide) m 0 G) (2 * p + 1)).trans hfl) hf6 hnx hbu k)
def tw1 (v : Int32) (j ct : Nat) (X : FN × FN) : FN × FN := (up2 X.1 103 5 (nI (ct + 1)), up2 X.2 104 ct ((v + nI j) &&& nI 255))
def twn (x v : Int32) : Nat → Nat → Nat → FN × FN → Nat × (FN × FN)
  | 0, j, _, X => (j, X)
  | f + 1, j, ct, X => if x ≤ nI j then (j, X) else twn x v f (j + 1) (ct + 1) (tw1 v j ct X)
theorem t_write_lp {L : Nat} {x v : Int32} {R : RN} {Q : Option PV → PH → Prop} : ∀ (f j ct : Nat) (X : FN × FN), ct + f = 400 → j ≤ ct → X.1 103 5 = nI ct → Q (some (.inl (nI (twn x v f j ct X).1))) (hb (sL L) (twn x v f j ct X).2.1 (twn x v f j ct X).2.2 R sO) → pw pP mSBModel_write (16, [some (.inr (some (103))), some (.inl (x)), some (.inl (v)), some (.inl (nI (j)))], [], 0, 0, hb (sL L) X.1 X.2 R sO) Q := by
  intro f
  induction f with
  | zero =>
    intro j ct X hn hj hct k
    refine pw_iload_n rfl rfl ?_
    refine pw_iload_n rfl rfl ?_
    refine pw_if2p (A := x ≤ nI (j)) rfl rfl (t := 63) rfl (fun c1 => ?_) (fun c1 => ?_)
    · -- 63
      refine pw_iload_n rfl rfl ?_
      exact pw_iret rfl rfl (Nat.zero_le _) (Nat.zero_le _) rfl k
    · -- 21
      refine pw_aload_n rfl rfl ?_
      refine px_getv (x := nI (ct)) rfl rfl rfl rfl (hct) ?_
      refine pw_sipush (v := nI (400)) rfl (by decide) ?_
      refine pw_if2p (cn_ge (by omega) (by omega)) rfl (t := 63) rfl (fun c2 => ?_) (fun c2 => ?_)
      · -- 63
        refine pw_iload_n rfl rfl ?_
        exact pw_iret rfl rfl (Nat.zero_le _) (Nat.zero_le _) rfl k
      · -- 31
        exact absurd c2 (by omega)
  | succ f ih =>
    intro j ct X hn hj hct k
    refine pw_iload_n rfl rfl ?_
    refine pw_iload_n rfl rfl ?_
    refine pw_if2p (A := x ≤ nI (j)) rfl rfl (t := 63) rfl (fun c1 => ?_) (fun c1 => ?_)
    · -- 63
      refine pw_iload_n rfl rfl ?_
      exact pw_iret rfl rfl (Nat.zero_le _) (Nat.zero_le _) rfl (by simp only [twn, c1, if_true] at k; exact k)
    · -- 21
      refine pw_aload_n rfl rfl ?_
      refine px_getv (x := nI (ct)) rfl rfl rfl rfl (hct) ?_
      refine pw_sipush (v := nI (400)) rfl (by decide) ?_
      refine pw_if2p (cn_ge (by omega) (by omega)) rfl (t := 63) rfl (fun c2 => ?_) (fun c2 => ?_)
      · -- 63
        refine pw_iload_n rfl rfl ?_
        exact absurd c2 (by omega)
      · -- 31
        refine pw_aload_n rfl rfl ?_
        refine px_getr (r := some (104)) rfl rfl rfl rfl rfl ?_
        refine pw_aload_n rfl rfl ?_
        refine px_getv (x := nI (ct)) rfl rfl rfl rfl (hct) ?_
        refine pw_iload_n rfl rfl ?_
        refine pw_iload_n rfl rfl ?_
        refine pw_iadd (z := v + (nI (j))) rfl rfl ?_
        refine pw_sipush (v := nI (255)) rfl (by decide) ?_
        refine pw_iand (z := (v + (nI (j))) &&& (nI (255))) rfl rfl ?_
        refine px_iastn rfl rfl (by omega) (by decide) ?_
        refine pw_aload_n rfl rfl ?_
        refine pw_dup rfl ?_
        refine px_getv (x := nI (ct)) rfl rfl rfl rfl (hct) ?_
        refine pw_iconst (v := nI (1)) rfl (by decide) ?_
        refine pw_iadd (z := nI (ct + 1)) rfl (nI_add _ _) ?_
        refine px_put rfl rfl rfl rfl rfl ?_
        refine pw_iinc (v := nI (j + 1)) (ls1 := [some (.inr (some (103))), some (.inl (x)), some (.inl (v)), some (.inl (nI (j + 1)))]) rfl rfl (iinc_n _) rfl ?_
        refine pw_goto (t := 16) rfl rfl ?_
        exact ih (j + 1) (ct + 1) (tw1 v j ct X) (by omega) (by omega) (show up2 X.1 103 5 (nI (ct + 1)) 103 5 = _ from up2_eq) (by simp only [twn, c1, if_false] at k; exact k)
def twr (F G : FN) (x v : Int32) (ct : Nat) : Nat × (FN × FN) := if x < nI 1 then (0, (F, G)) else if F 103 6 = 0 then twn x v (400 - ct) 0 ct (F, G) else (0, (F, G))
theorem t_write {L ct : Nat} {x v : Int32} {F G : FN} {R : RN} (hct : F 103 5 = nI ct) (hc4 : ct ≤ 400) {Q : Option PV → PH → Prop} (k : Q (some (.inl (nI (twr F G x v ct).1))) (hb (sL L) (twr F G x v ct).2.1 (twr F G x v ct).2.2 R sO)) : pz pP mSBModel_write [.inr (some (103)), .inl (x), .inl (v)] (hb (sL L) F G R sO) Q := by
  show pw pP mSBModel_write (0, [some (.inr (some (103))), some (.inl (x)), some (.inl (v)), none], [], 0, 0, hb (sL L) F G R sO) _
  refine pw_iload_n rfl rfl ?_
  refine pw_iconst (v := nI (1)) rfl (by decide) ?_
  refine pw_if2p (A := x < nI (1)) rfl rfl (t := 12) rfl (fun c1 => ?_) (fun c1 => ?_)
  · -- 12
    refine pw_iconst (v := nI (0)) rfl (by decide) ?_
    simp only [twr, c1, if_true, if_false] at k
    exact pw_iret rfl rfl (Nat.zero_le _) (Nat.zero_le _) rfl k
  · -- 5
    refine pw_aload_n rfl rfl ?_
    refine px_getv (x := F (103) (6)) rfl rfl rfl rfl (rfl) ?_
    refine pw_if1p (A := F (103) (6) = 0) rfl rfl (t := 14) rfl (fun c2 => ?_) (fun c2 => ?_)
    · -- 14
      refine pw_iconst (v := nI (0)) rfl (by decide) ?_
      refine pw_istore_n (ls1 := [some (.inr (some (103))), some (.inl (x)), some (.inl (v)), some (.inl (nI (0)))]) rfl (Nat.le_of_ble_eq_true rfl) rfl ?_
      simp only [twr, c1, c2, if_true, if_false] at k
      exact t_write_lp (400 - ct) 0 ct (F, G) (by omega) (by omega) hct k
    · -- 12
      refine pw_iconst (v := nI (0)) rfl (by decide) ?_
      simp only [twr, c1, c2, if_true, if_false] at k
      exact pw_iret rfl rfl (Nat.zero_le _) (Nat.zero_le _) rfl k
