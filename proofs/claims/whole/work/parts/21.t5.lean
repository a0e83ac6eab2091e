/-! THE REFERENCE, fifth part: sending. Rows laid by a program (wip/whole/gen/twin5.py). -/
/-- SBModel_transmit -/
def trans_G (F G : FN) (p f fl : Nat) : FN := (if ¬ f = 0 then (if F (103) (6) = 0 then (tship F (up2 (up2 G (121) (402 * p + f) ((G (121) (402 * p + f)) + (nI (1)))) (117) (p) ((G (117) (p)) + (nI (1)))) (2 * p) fl (nI (1)) (nI (f)) (G (118) (402 * p + f)) (nI (0)) (G (119) (402 * p + f))) else (if ¬ ((G (118) (402 * p + f)) + (G (119) (402 * p + f))) - (nI (1)) = F (103) (5) then (tship F (up2 (up2 G (121) (402 * p + f) ((G (121) (402 * p + f)) + (nI (1)))) (117) (p) ((G (117) (p)) + (nI (1)))) (2 * p) fl (nI (1)) (nI (f)) (G (118) (402 * p + f)) (nI (0)) (G (119) (402 * p + f))) else (tship F (up2 (up2 G (121) (402 * p + f) ((G (121) (402 * p + f)) + (nI (1)))) (117) (p) ((G (117) (p)) + (nI (1)))) (2 * p) fl (nI (1)) (nI (f)) (G (118) (402 * p + f)) (nI (1)) (G (119) (402 * p + f))))) else (tship F (up2 (up2 G (121) (402 * p + f) ((G (121) (402 * p + f)) + (nI (1)))) (117) (p) ((G (117) (p)) + (nI (1)))) (2 * p) fl (nI (0)) (nI (0)) (G (109) (p)) (nI (0)) (nI (0))))
theorem t_trans {L p f fl : Nat} {F G : FN} {R : RN} (hp : p < 4) (hf : f < 402) (hfl : G 124 (2 * p) = nI fl) (hf6 : fl ≤ 6) {Q : Option PV → PH → Prop} (k : Q none (hb (sL L) F (trans_G F G p f fl) R sO)) : pz pP mSBModel_transmit [.inr (some (103)), .inl (nI (p)), .inl (nI (f))] (hb (sL L) F G R sO) Q := by
  show pw pP mSBModel_transmit (0, [some (.inr (some (103))), some (.inl (nI (p))), some (.inl (nI (f))), none, none, none], [], 0, 0, hb (sL L) F G R sO) _
  refine pw_sipush (v := nI (402)) rfl (by decide) ?_
  refine pw_iload_n rfl rfl ?_
  refine pw_imul (z := nI (402 * p)) rfl (pk_mul _ _) ?_
  refine pw_iload_n rfl rfl ?_
  refine pw_iadd (z := nI (402 * p + f)) rfl (nI_add _ _) ?_
  refine pw_istore_n (ls1 := [some (.inr (some (103))), some (.inl (nI (p))), some (.inl (nI (f))), some (.inl (nI (402 * p + f))), none, none]) rfl (Nat.le_of_ble_eq_true rfl) rfl ?_
  refine pw_aload_n rfl rfl ?_
  refine px_getr (r := some (121)) rfl rfl rfl rfl rfl ?_
  refine pw_iload_n rfl rfl ?_
  refine pw_dup2 rfl ?_
  refine px_ialdn (x := G (121) (402 * p + f)) rfl rfl (by omega) (by decide) (rfl) ?_
  refine pw_iconst (v := nI (1)) rfl (by decide) ?_
  refine pw_iadd (z := (G (121) (402 * p + f)) + (nI (1))) rfl rfl ?_
  refine px_iastn rfl rfl (by omega) (by decide) ?_
  refine pw_aload_n rfl rfl ?_
  refine px_getr (r := some (117)) rfl rfl rfl rfl rfl ?_
  refine pw_iload_n rfl rfl ?_
  refine pw_dup2 rfl ?_
  refine px_ialdn (x := G (117) (p)) rfl rfl (by omega) (by decide) (up2_ne1 (by decide)) ?_
  refine pw_iconst (v := nI (1)) rfl (by decide) ?_
  refine pw_iadd (z := (G (117) (p)) + (nI (1))) rfl rfl ?_
  refine px_iastn rfl rfl (by omega) (by decide) ?_
  refine pw_iload_n rfl rfl ?_
  refine pw_if1p (cz_ne (by omega)) rfl (t := 52) rfl (fun c1 => ?_) (fun c1 => ?_)
  · -- 52
    refine pw_aload_n rfl rfl ?_
    refine px_getr (r := some (119)) rfl rfl rfl rfl rfl ?_
    refine pw_iload_n rfl rfl ?_
    refine px_ialdn (x := G (119) (402 * p + f)) rfl rfl (by omega) (by decide) ((up2_ne1 (by decide)).trans (up2_ne1 (by decide))) ?_
    refine pw_istore (ls1 := [some (.inr (some (103))), some (.inl (nI (p))), some (.inl (nI (f))), some (.inl (nI (402 * p + f))), some (.inl (G (119) (402 * p + f))), none]) rfl (Nat.le_of_ble_eq_true rfl) rfl ?_
    refine pw_aload_n rfl rfl ?_
    refine px_getv (x := F (103) (6)) rfl rfl rfl rfl (rfl) ?_
    refine pw_if1p (A := F (103) (6) = 0) rfl rfl (t := 89) rfl (fun c2 => ?_) (fun c2 => ?_)
    · -- 89
      refine pw_iconst (v := nI (0)) rfl (by decide) ?_
      refine pw_istore (ls1 := [some (.inr (some (103))), some (.inl (nI (p))), some (.inl (nI (f))), some (.inl (nI (402 * p + f))), some (.inl (G (119) (402 * p + f))), some (.inl (nI (0)))]) rfl (Nat.le_of_ble_eq_true rfl) rfl ?_
      refine pw_aload_n rfl rfl ?_
      refine pw_iconst (v := nI (2)) rfl (by decide) ?_
      refine pw_iload_n rfl rfl ?_
      refine pw_imul (z := nI (2 * p)) rfl (pk_mul _ _) ?_
      refine pw_iconst (v := nI (1)) rfl (by decide) ?_
      refine pw_iload_n rfl rfl ?_
      refine pw_aload_n rfl rfl ?_
      refine px_getr (r := some (118)) rfl rfl rfl rfl rfl ?_
      refine pw_iload_n rfl rfl ?_
      refine px_ialdn (x := G (118) (402 * p + f)) rfl rfl (by omega) (by decide) ((up2_ne1 (by decide)).trans (up2_ne1 (by decide))) ?_
      refine pw_iload rfl rfl ?_
      refine pw_if1 (t := 113) rfl rfl (fun _ => ?_) (fun q => absurd q (by decide))
      refine pw_iconst (v := nI (0)) rfl (by decide) ?_
      refine pw_iload rfl rfl ?_
      refine px_callv (as := [.inr (some (103)), .inl (nI (2 * p)), .inl (nI (1)), .inl (nI (f)), .inl (G (118) (402 * p + f)), .inl (nI (0)), .inl (G (119) (402 * p + f))]) (rest := []) rfl rfl (by decide) rfl (Nat.le_of_ble_eq_true rfl) (Nat.le_of_ble_eq_true rfl) (Nat.le_of_ble_eq_true rfl) (Nat.le_of_ble_eq_true rfl) rfl rfl rfl rfl ?_
      refine t_ship (by omega) (((up2_ne1 (by decide)).trans (up2_ne1 (by decide))).trans (hfl)) hf6 ?_
      show pw pP mSBModel_transmit (119, [some (.inr (some (103))), some (.inl (nI (p))), some (.inl (nI (f))), some (.inl (nI (402 * p + f))), some (.inl (G (119) (402 * p + f))), some (.inl (nI (0)))], [], 0, 0, hb (sL L) F (tship F (up2 (up2 G (121) (402 * p + f) ((G (121) (402 * p + f)) + (nI (1)))) (117) (p) ((G (117) (p)) + (nI (1)))) (2 * p) fl (nI (1)) (nI (f)) (G (118) (402 * p + f)) (nI (0)) (G (119) (402 * p + f))) R sO) _
      exact pw_vret rfl rfl (Nat.zero_le _) (Nat.zero_le _) (by simp only [trans_G, c1, c2, if_true, if_false] at k; exact k)
    · -- 67
      refine pw_aload_n rfl rfl ?_
      refine px_getr (r := some (118)) rfl rfl rfl rfl rfl ?_
      refine pw_iload_n rfl rfl ?_
      refine px_ialdn (x := G (118) (402 * p + f)) rfl rfl (by omega) (by decide) ((up2_ne1 (by decide)).trans (up2_ne1 (by decide))) ?_
      refine pw_iload rfl rfl ?_
      refine pw_iadd (z := (G (118) (402 * p + f)) + (G (119) (402 * p + f))) rfl rfl ?_
      refine pw_iconst (v := nI (1)) rfl (by decide) ?_
      refine pw_isub (z := ((G (118) (402 * p + f)) + (G (119) (402 * p + f))) - (nI (1))) rfl rfl ?_
      refine pw_aload_n rfl rfl ?_
      refine px_getv (x := F (103) (5)) rfl rfl rfl rfl (rfl) ?_
      refine pw_if2p (A := ¬ ((G (118) (402 * p + f)) + (G (119) (402 * p + f))) - (nI (1)) = F (103) (5)) rfl rfl (t := 89) rfl (fun c3 => ?_) (fun c3 => ?_)
      · -- 89
        refine pw_iconst (v := nI (0)) rfl (by decide) ?_
        refine pw_istore (ls1 := [some (.inr (some (103))), some (.inl (nI (p))), some (.inl (nI (f))), some (.inl (nI (402 * p + f))), some (.inl (G (119) (402 * p + f))), some (.inl (nI (0)))]) rfl (Nat.le_of_ble_eq_true rfl) rfl ?_
        refine pw_aload_n rfl rfl ?_
        refine pw_iconst (v := nI (2)) rfl (by decide) ?_
        refine pw_iload_n rfl rfl ?_
        refine pw_imul (z := nI (2 * p)) rfl (pk_mul _ _) ?_
        refine pw_iconst (v := nI (1)) rfl (by decide) ?_
        refine pw_iload_n rfl rfl ?_
        refine pw_aload_n rfl rfl ?_
        refine px_getr (r := some (118)) rfl rfl rfl rfl rfl ?_
        refine pw_iload_n rfl rfl ?_
        refine px_ialdn (x := G (118) (402 * p + f)) rfl rfl (by omega) (by decide) ((up2_ne1 (by decide)).trans (up2_ne1 (by decide))) ?_
        refine pw_iload rfl rfl ?_
        refine pw_if1 (t := 113) rfl rfl (fun _ => ?_) (fun q => absurd q (by decide))
        refine pw_iconst (v := nI (0)) rfl (by decide) ?_
        refine pw_iload rfl rfl ?_
        refine px_callv (as := [.inr (some (103)), .inl (nI (2 * p)), .inl (nI (1)), .inl (nI (f)), .inl (G (118) (402 * p + f)), .inl (nI (0)), .inl (G (119) (402 * p + f))]) (rest := []) rfl rfl (by decide) rfl (Nat.le_of_ble_eq_true rfl) (Nat.le_of_ble_eq_true rfl) (Nat.le_of_ble_eq_true rfl) (Nat.le_of_ble_eq_true rfl) rfl rfl rfl rfl ?_
        refine t_ship (by omega) (((up2_ne1 (by decide)).trans (up2_ne1 (by decide))).trans (hfl)) hf6 ?_
        show pw pP mSBModel_transmit (119, [some (.inr (some (103))), some (.inl (nI (p))), some (.inl (nI (f))), some (.inl (nI (402 * p + f))), some (.inl (G (119) (402 * p + f))), some (.inl (nI (0)))], [], 0, 0, hb (sL L) F (tship F (up2 (up2 G (121) (402 * p + f) ((G (121) (402 * p + f)) + (nI (1)))) (117) (p) ((G (117) (p)) + (nI (1)))) (2 * p) fl (nI (1)) (nI (f)) (G (118) (402 * p + f)) (nI (0)) (G (119) (402 * p + f))) R sO) _
        exact pw_vret rfl rfl (Nat.zero_le _) (Nat.zero_le _) (by simp only [trans_G, c1, c2, c3, if_true, if_false] at k; exact k)
      · -- 85
        refine pw_iconst (v := nI (1)) rfl (by decide) ?_
        refine pw_goto (t := 90) rfl rfl ?_
        refine pw_istore (ls1 := [some (.inr (some (103))), some (.inl (nI (p))), some (.inl (nI (f))), some (.inl (nI (402 * p + f))), some (.inl (G (119) (402 * p + f))), some (.inl (nI (1)))]) rfl (Nat.le_of_ble_eq_true rfl) rfl ?_
        refine pw_aload_n rfl rfl ?_
        refine pw_iconst (v := nI (2)) rfl (by decide) ?_
        refine pw_iload_n rfl rfl ?_
        refine pw_imul (z := nI (2 * p)) rfl (pk_mul _ _) ?_
        refine pw_iconst (v := nI (1)) rfl (by decide) ?_
        refine pw_iload_n rfl rfl ?_
        refine pw_aload_n rfl rfl ?_
        refine px_getr (r := some (118)) rfl rfl rfl rfl rfl ?_
        refine pw_iload_n rfl rfl ?_
        refine px_ialdn (x := G (118) (402 * p + f)) rfl rfl (by omega) (by decide) ((up2_ne1 (by decide)).trans (up2_ne1 (by decide))) ?_
        refine pw_iload rfl rfl ?_
        refine pw_if1 (t := 113) rfl rfl (fun q => absurd q (by decide)) (fun _ => ?_)
        refine pw_iconst (v := nI (1)) rfl (by decide) ?_
        refine pw_goto (t := 114) rfl rfl ?_
        refine pw_iload rfl rfl ?_
        refine px_callv (as := [.inr (some (103)), .inl (nI (2 * p)), .inl (nI (1)), .inl (nI (f)), .inl (G (118) (402 * p + f)), .inl (nI (1)), .inl (G (119) (402 * p + f))]) (rest := []) rfl rfl (by decide) rfl (Nat.le_of_ble_eq_true rfl) (Nat.le_of_ble_eq_true rfl) (Nat.le_of_ble_eq_true rfl) (Nat.le_of_ble_eq_true rfl) rfl rfl rfl rfl ?_
        refine t_ship (by omega) (((up2_ne1 (by decide)).trans (up2_ne1 (by decide))).trans (hfl)) hf6 ?_
        show pw pP mSBModel_transmit (119, [some (.inr (some (103))), some (.inl (nI (p))), some (.inl (nI (f))), some (.inl (nI (402 * p + f))), some (.inl (G (119) (402 * p + f))), some (.inl (nI (1)))], [], 0, 0, hb (sL L) F (tship F (up2 (up2 G (121) (402 * p + f) ((G (121) (402 * p + f)) + (nI (1)))) (117) (p) ((G (117) (p)) + (nI (1)))) (2 * p) fl (nI (1)) (nI (f)) (G (118) (402 * p + f)) (nI (1)) (G (119) (402 * p + f))) R sO) _
        exact pw_vret rfl rfl (Nat.zero_le _) (Nat.zero_le _) (by simp only [trans_G, c1, c2, c3, if_true, if_false] at k; exact k)
  · -- 32
    refine pw_aload_n rfl rfl ?_
    refine pw_iconst (v := nI (2)) rfl (by decide) ?_
    refine pw_iload_n rfl rfl ?_
    refine pw_imul (z := nI (2 * p)) rfl (pk_mul _ _) ?_
    refine pw_iconst (v := nI (0)) rfl (by decide) ?_
    refine pw_iconst (v := nI (0)) rfl (by decide) ?_
    refine pw_aload_n rfl rfl ?_
    refine px_getr (r := some (109)) rfl rfl rfl rfl rfl ?_
    refine pw_iload_n rfl rfl ?_
    refine px_ialdn (x := G (109) (p)) rfl rfl (by omega) (by decide) ((up2_ne1 (by decide)).trans (up2_ne1 (by decide))) ?_
    refine pw_iconst (v := nI (0)) rfl (by decide) ?_
    refine pw_iconst (v := nI (0)) rfl (by decide) ?_
    refine px_callv (as := [.inr (some (103)), .inl (nI (2 * p)), .inl (nI (0)), .inl (nI (0)), .inl (G (109) (p)), .inl (nI (0)), .inl (nI (0))]) (rest := []) rfl rfl (by decide) rfl (Nat.le_of_ble_eq_true rfl) (Nat.le_of_ble_eq_true rfl) (Nat.le_of_ble_eq_true rfl) (Nat.le_of_ble_eq_true rfl) rfl rfl rfl rfl ?_
    refine t_ship (by omega) (((up2_ne1 (by decide)).trans (up2_ne1 (by decide))).trans (hfl)) hf6 ?_
    show pw pP mSBModel_transmit (49, [some (.inr (some (103))), some (.inl (nI (p))), some (.inl (nI (f))), some (.inl (nI (402 * p + f))), none, none], [], 0, 0, hb (sL L) F (tship F (up2 (up2 G (121) (402 * p + f) ((G (121) (402 * p + f)) + (nI (1)))) (117) (p) ((G (117) (p)) + (nI (1)))) (2 * p) fl (nI (0)) (nI (0)) (G (109) (p)) (nI (0)) (nI (0))) R sO) _
    refine pw_goto (t := 119) rfl rfl ?_
    exact pw_vret rfl rfl (Nat.zero_le _) (Nat.zero_le _) (by simp only [trans_G, c1, if_true, if_false] at k; exact k)
def tbF (F G : FN) (a : Nat) : FN := if G 123 a = 0 then up2 F 103 24 (F 103 24) else up2 F 103 24 (F 103 24 + nI 1)
/-- the unit u + j is carried with the number hi + j on the path p -/
def tb1 (p u hi j : Nat) (X : FN × FN) : FN × FN := (tbF X.1 X.2 (u + j), up2 (up2 (up2 X.2 118 (402 * p + hi + j) (nI (u + j))) 123 (u + j) (nI 1)) 122 (402 * p + u + j) (nI (hi + j)))
def tbn (p u hi : Nat) : Nat → Nat → FN × FN → FN × FN
  | 0, _, X => X
  | n + 1, j, X => tbn p u hi n (j + 1) (tb1 p u hi j X)
theorem t_begin_lp {L p u m hi : Nat} {R : RN} {Q : Option PV → PH → Prop} (hp : p < 4) (hu : u + m ≤ 401) (hh : hi + m ≤ 402) : ∀ (n j : Nat) (X : FN × FN), j + n = m → pw pP mSBModel_begin (129, [some (.inr (some (103))), some (.inl (nI (p))), some (.inl (nI (u))), some (.inl (nI (m))), some (.inl (nI (hi))), some (.inl (nI (402 * p + hi))), some (.inl (nI (m)))], [], 0, 0, hb (sL L) (tbn p u hi n j X).1 (tbn p u hi n j X).2 R sO) Q → pw pP mSBModel_begin (40, [some (.inr (some (103))), some (.inl (nI (p))), some (.inl (nI (u))), some (.inl (nI (m))), some (.inl (nI (hi))), some (.inl (nI (402 * p + hi))), some (.inl (nI (j)))], [], 0, 0, hb (sL L) X.1 X.2 R sO) Q := by
  intro n
  induction n with
  | zero =>
    intro j X hn k
    have e : j = m := by omega
    subst e
    refine pw_iload rfl rfl ?_
    refine pw_iload_n rfl rfl ?_
    refine pw_if2p (cn_ge (by omega) (by omega)) rfl (t := 129) rfl (fun c1 => ?_) (fun c1 => ?_)
    · -- 129
      exact k
    · -- 46
      exact absurd c1 (by omega)
  | succ n ih =>
    intro j X hn k
    refine pw_iload rfl rfl ?_
    refine pw_iload_n rfl rfl ?_
    refine pw_if2p (cn_ge (by omega) (by omega)) rfl (t := 129) rfl (fun c1 => ?_) (fun c1 => ?_)
    · -- 129
      exact absurd c1 (by omega)
    · -- 46
      refine pw_aload_n rfl rfl ?_
      refine px_getr (r := some (118)) rfl rfl rfl rfl rfl ?_
      refine pw_iload rfl rfl ?_
      refine pw_iload rfl rfl ?_
      refine pw_iadd (z := nI (402 * p + hi + j)) rfl (nI_add _ _) ?_
      refine pw_iload_n rfl rfl ?_
      refine pw_iload rfl rfl ?_
      refine pw_iadd (z := nI (u + j)) rfl (nI_add _ _) ?_
      refine px_iastn rfl rfl (by omega) (by decide) ?_
      refine pw_iload_n rfl rfl ?_
      refine pw_if1p (cz_lt (by omega)) rfl (t := 123) rfl (fun q => absurd q (by omega)) (fun _ => ?_)
      refine pw_aload_n rfl rfl ?_
      refine pw_aload_n rfl rfl ?_
      refine px_getr (r := some (123)) rfl rfl rfl rfl rfl ?_
      refine pw_iload_n rfl rfl ?_
      refine pw_iload rfl rfl ?_
      refine pw_iadd (z := nI (u + j)) rfl (nI_add _ _) ?_
      refine px_zaldn (x := X.2 (123) (u + j)) rfl rfl (by omega) (by decide) (up2_ne1 (by decide)) ?_
      refine pw_if1p (A := X.2 (123) (u + j) = 0) rfl rfl (t := 86) rfl (fun c2 => ?_) (fun c2 => ?_)
      · -- 86
        refine pw_aload_n rfl rfl ?_
        refine px_getv (x := X.1 (103) (24)) rfl rfl rfl rfl (rfl) ?_
        refine px_put rfl rfl rfl rfl rfl ?_
        refine pw_aload_n rfl rfl ?_
        refine px_getr (r := some (123)) rfl rfl rfl rfl rfl ?_
        refine pw_iload_n rfl rfl ?_
        refine pw_iload rfl rfl ?_
        refine pw_iadd (z := nI (u + j)) rfl (nI_add _ _) ?_
        refine pw_iconst (v := nI (1)) rfl (by decide) ?_
        refine px_zastn (x1 := nI (1)) rfl rfl (by omega) (by decide) (by decide) ?_
        refine pw_aload_n rfl rfl ?_
        refine px_getr (r := some (122)) rfl rfl rfl rfl rfl ?_
        refine pw_sipush (v := nI (402)) rfl (by decide) ?_
        refine pw_iload_n rfl rfl ?_
        refine pw_imul (z := nI (402 * p)) rfl (pk_mul _ _) ?_
        refine pw_iload_n rfl rfl ?_
        refine pw_iadd (z := nI (402 * p + u)) rfl (nI_add _ _) ?_
        refine pw_iload rfl rfl ?_
        refine pw_iadd (z := nI (402 * p + u + j)) rfl (nI_add _ _) ?_
        refine pw_iload rfl rfl ?_
        refine pw_iload rfl rfl ?_
        refine pw_iadd (z := nI (hi + j)) rfl (nI_add _ _) ?_
        refine px_iastn rfl rfl (by omega) (by decide) ?_
        refine pw_iinc (v := nI (j + 1)) (ls1 := [some (.inr (some (103))), some (.inl (nI (p))), some (.inl (nI (u))), some (.inl (nI (m))), some (.inl (nI (hi))), some (.inl (nI (402 * p + hi))), some (.inl (nI (j + 1)))]) rfl rfl (iinc_n _) rfl ?_
        refine pw_goto (t := 40) rfl rfl ?_
        have h := ih (j + 1) (tb1 p u hi j X) (by omega) k
        simp only [tb1, tbF, c2, if_true, if_false] at h
        exact h
      · -- 77
        refine pw_aload_n rfl rfl ?_
        refine px_getv (x := X.1 (103) (24)) rfl rfl rfl rfl (rfl) ?_
        refine pw_iconst (v := nI (1)) rfl (by decide) ?_
        refine pw_iadd (z := (X.1 (103) (24)) + (nI (1))) rfl rfl ?_
        refine pw_goto (t := 90) rfl rfl ?_
        refine px_put rfl rfl rfl rfl rfl ?_
        refine pw_aload_n rfl rfl ?_
        refine px_getr (r := some (123)) rfl rfl rfl rfl rfl ?_
        refine pw_iload_n rfl rfl ?_
        refine pw_iload rfl rfl ?_
        refine pw_iadd (z := nI (u + j)) rfl (nI_add _ _) ?_
        refine pw_iconst (v := nI (1)) rfl (by decide) ?_
        refine px_zastn (x1 := nI (1)) rfl rfl (by omega) (by decide) (by decide) ?_
        refine pw_aload_n rfl rfl ?_
        refine px_getr (r := some (122)) rfl rfl rfl rfl rfl ?_
        refine pw_sipush (v := nI (402)) rfl (by decide) ?_
        refine pw_iload_n rfl rfl ?_
        refine pw_imul (z := nI (402 * p)) rfl (pk_mul _ _) ?_
        refine pw_iload_n rfl rfl ?_
        refine pw_iadd (z := nI (402 * p + u)) rfl (nI_add _ _) ?_
        refine pw_iload rfl rfl ?_
        refine pw_iadd (z := nI (402 * p + u + j)) rfl (nI_add _ _) ?_
        refine pw_iload rfl rfl ?_
        refine pw_iload rfl rfl ?_
        refine pw_iadd (z := nI (hi + j)) rfl (nI_add _ _) ?_
        refine px_iastn rfl rfl (by omega) (by decide) ?_
        refine pw_iinc (v := nI (j + 1)) (ls1 := [some (.inr (some (103))), some (.inl (nI (p))), some (.inl (nI (u))), some (.inl (nI (m))), some (.inl (nI (hi))), some (.inl (nI (402 * p + hi))), some (.inl (nI (j + 1)))]) rfl rfl (iinc_n _) rfl ?_
        refine pw_goto (t := 40) rfl rfl ?_
        have h := ih (j + 1) (tb1 p u hi j X) (by omega) k
        simp only [tb1, tbF, c2, if_true, if_false] at h
        exact h
def bend (F G : FN) (p m hi fl : Nat) : FN := (if ¬ G (111) (p) = 0 then (trans_G F (up2 G (116) (p) (nI (hi + m))) p (hi) fl) else (trans_G F (up2 (up2 G (116) (p) (nI (hi + m))) (111) (p) ((F (103) (3)) + (G (110) (p)))) p (hi) fl))
theorem t_bend {L p u m hi fl : Nat} {F G : FN} {R : RN} (hp : p < 4) (hh : hi < 402) (hfl : G 124 (2 * p) = nI fl) (hf6 : fl ≤ 6) {Q : Option PV → PH → Prop} (k : Q none (hb (sL L) F (bend F G p m hi fl) R sO)) : pw pP mSBModel_begin (129, [some (.inr (some (103))), some (.inl (nI (p))), some (.inl (nI (u))), some (.inl (nI (m))), some (.inl (nI (hi))), some (.inl (nI (402 * p + hi))), some (.inl (nI (m)))], [], 0, 0, hb (sL L) F G R sO) Q := by
  refine pw_aload_n rfl rfl ?_
  refine px_getr (r := some (116)) rfl rfl rfl rfl rfl ?_
  refine pw_iload_n rfl rfl ?_
  refine pw_iload rfl rfl ?_
  refine pw_iload_n rfl rfl ?_
  refine pw_iadd (z := nI (hi + m)) rfl (nI_add _ _) ?_
  refine px_iastn rfl rfl (by omega) (by decide) ?_
  refine pw_aload_n rfl rfl ?_
  refine px_getr (r := some (111)) rfl rfl rfl rfl rfl ?_
  refine pw_iload_n rfl rfl ?_
  refine px_ialdn (x := G (111) (p)) rfl rfl (by omega) (by decide) (up2_ne1 (by decide)) ?_
  refine pw_if1p (A := ¬ G (111) (p) = 0) rfl rfl (t := 165) rfl (fun c1 => ?_) (fun c1 => ?_)
  · -- 165
    refine pw_aload_n rfl rfl ?_
    refine pw_iload_n rfl rfl ?_
    refine pw_iload rfl rfl ?_
    refine px_callv (as := [.inr (some (103)), .inl (nI (p)), .inl (nI (hi))]) (rest := []) rfl rfl (by decide) rfl (Nat.le_of_ble_eq_true rfl) (Nat.le_of_ble_eq_true rfl) (Nat.le_of_ble_eq_true rfl) (Nat.le_of_ble_eq_true rfl) rfl rfl rfl rfl ?_
    refine t_trans hp (by omega) ((up2_ne1 (by decide)).trans (hfl)) hf6 ?_
    show pw pP mSBModel_begin (172, [some (.inr (some (103))), some (.inl (nI (p))), some (.inl (nI (u))), some (.inl (nI (m))), some (.inl (nI (hi))), some (.inl (nI (402 * p + hi))), some (.inl (nI (m)))], [], 0, 0, hb (sL L) F (trans_G F (up2 G (116) (p) (nI (hi + m))) p (hi) fl) R sO) _
    exact pw_vret rfl rfl (Nat.zero_le _) (Nat.zero_le _) (by simp only [bend, c1, if_true, if_false] at k; exact k)
  · -- 148
    refine pw_aload_n rfl rfl ?_
    refine px_getr (r := some (111)) rfl rfl rfl rfl rfl ?_
    refine pw_iload_n rfl rfl ?_
    refine pw_aload_n rfl rfl ?_
    refine px_getv (x := F (103) (3)) rfl rfl rfl rfl (rfl) ?_
    refine pw_aload_n rfl rfl ?_
    refine px_getr (r := some (110)) rfl rfl rfl rfl rfl ?_
    refine pw_iload_n rfl rfl ?_
    refine px_ialdn (x := G (110) (p)) rfl rfl (by omega) (by decide) (up2_ne1 (by decide)) ?_
    refine pw_iadd (z := (F (103) (3)) + (G (110) (p))) rfl rfl ?_
    refine px_iastn rfl rfl (by omega) (by decide) ?_
    refine pw_aload_n rfl rfl ?_
    refine pw_iload_n rfl rfl ?_
    refine pw_iload rfl rfl ?_
    refine px_callv (as := [.inr (some (103)), .inl (nI (p)), .inl (nI (hi))]) (rest := []) rfl rfl (by decide) rfl (Nat.le_of_ble_eq_true rfl) (Nat.le_of_ble_eq_true rfl) (Nat.le_of_ble_eq_true rfl) (Nat.le_of_ble_eq_true rfl) rfl rfl rfl rfl ?_
    refine t_trans hp (by omega) (((up2_ne1 (by decide)).trans (up2_ne1 (by decide))).trans (hfl)) hf6 ?_
    show pw pP mSBModel_begin (172, [some (.inr (some (103))), some (.inl (nI (p))), some (.inl (nI (u))), some (.inl (nI (m))), some (.inl (nI (hi))), some (.inl (nI (402 * p + hi))), some (.inl (nI (m)))], [], 0, 0, hb (sL L) F (trans_G F (up2 (up2 G (116) (p) (nI (hi + m))) (111) (p) ((F (103) (3)) + (G (110) (p)))) p (hi) fl) R sO) _
    exact pw_vret rfl rfl (Nat.zero_le _) (Nat.zero_le _) (by simp only [bend, c1, if_true, if_false] at k; exact k)
def bendS (F G : FN) (p hi fl : Nat) : FN := (if ¬ G (111) (p) = 0 then (trans_G F (up2 G (116) (p) (nI (hi + 1))) p (hi) fl) else (trans_G F (up2 (up2 G (116) (p) (nI (hi + 1))) (111) (p) ((F (103) (3)) + (G (110) (p)))) p (hi) fl))
theorem t_bendS {L p hi fl : Nat} {F G : FN} {R : RN} (hp : p < 4) (hh : hi < 402) (hfl : G 124 (2 * p) = nI fl) (hf6 : fl ≤ 6) {Q : Option PV → PH → Prop} (k : Q none (hb (sL L) F (bendS F G p hi fl) R sO)) : pw pP mSBModel_begin (129, [some (.inr (some (103))), some (.inl (nI (p))), some (.inl ((-1))), some (.inl (nI (1))), some (.inl (nI (hi))), some (.inl (nI (402 * p + hi))), some (.inl (nI (1)))], [], 0, 0, hb (sL L) F G R sO) Q := by
  refine pw_aload_n rfl rfl ?_
  refine px_getr (r := some (116)) rfl rfl rfl rfl rfl ?_
  refine pw_iload_n rfl rfl ?_
  refine pw_iload rfl rfl ?_
  refine pw_iload_n rfl rfl ?_
  refine pw_iadd (z := nI (hi + 1)) rfl (nI_add _ _) ?_
  refine px_iastn rfl rfl (by omega) (by decide) ?_
  refine pw_aload_n rfl rfl ?_
  refine px_getr (r := some (111)) rfl rfl rfl rfl rfl ?_
  refine pw_iload_n rfl rfl ?_
  refine px_ialdn (x := G (111) (p)) rfl rfl (by omega) (by decide) (up2_ne1 (by decide)) ?_
  refine pw_if1p (A := ¬ G (111) (p) = 0) rfl rfl (t := 165) rfl (fun c1 => ?_) (fun c1 => ?_)
  · -- 165
    refine pw_aload_n rfl rfl ?_
    refine pw_iload_n rfl rfl ?_
    refine pw_iload rfl rfl ?_
    refine px_callv (as := [.inr (some (103)), .inl (nI (p)), .inl (nI (hi))]) (rest := []) rfl rfl (by decide) rfl (Nat.le_of_ble_eq_true rfl) (Nat.le_of_ble_eq_true rfl) (Nat.le_of_ble_eq_true rfl) (Nat.le_of_ble_eq_true rfl) rfl rfl rfl rfl ?_
    refine t_trans hp (by omega) ((up2_ne1 (by decide)).trans (hfl)) hf6 ?_
    show pw pP mSBModel_begin (172, [some (.inr (some (103))), some (.inl (nI (p))), some (.inl ((-1))), some (.inl (nI (1))), some (.inl (nI (hi))), some (.inl (nI (402 * p + hi))), some (.inl (nI (1)))], [], 0, 0, hb (sL L) F (trans_G F (up2 G (116) (p) (nI (hi + 1))) p (hi) fl) R sO) _
    exact pw_vret rfl rfl (Nat.zero_le _) (Nat.zero_le _) (by simp only [bendS, c1, if_true, if_false] at k; exact k)
  · -- 148
    refine pw_aload_n rfl rfl ?_
    refine px_getr (r := some (111)) rfl rfl rfl rfl rfl ?_
    refine pw_iload_n rfl rfl ?_
    refine pw_aload_n rfl rfl ?_
    refine px_getv (x := F (103) (3)) rfl rfl rfl rfl (rfl) ?_
    refine pw_aload_n rfl rfl ?_
    refine px_getr (r := some (110)) rfl rfl rfl rfl rfl ?_
    refine pw_iload_n rfl rfl ?_
    refine px_ialdn (x := G (110) (p)) rfl rfl (by omega) (by decide) (up2_ne1 (by decide)) ?_
    refine pw_iadd (z := (F (103) (3)) + (G (110) (p))) rfl rfl ?_
    refine px_iastn rfl rfl (by omega) (by decide) ?_
    refine pw_aload_n rfl rfl ?_
    refine pw_iload_n rfl rfl ?_
    refine pw_iload rfl rfl ?_
    refine px_callv (as := [.inr (some (103)), .inl (nI (p)), .inl (nI (hi))]) (rest := []) rfl rfl (by decide) rfl (Nat.le_of_ble_eq_true rfl) (Nat.le_of_ble_eq_true rfl) (Nat.le_of_ble_eq_true rfl) (Nat.le_of_ble_eq_true rfl) rfl rfl rfl rfl ?_
    refine t_trans hp (by omega) (((up2_ne1 (by decide)).trans (up2_ne1 (by decide))).trans (hfl)) hf6 ?_
    show pw pP mSBModel_begin (172, [some (.inr (some (103))), some (.inl (nI (p))), some (.inl ((-1))), some (.inl (nI (1))), some (.inl (nI (hi))), some (.inl (nI (402 * p + hi))), some (.inl (nI (1)))], [], 0, 0, hb (sL L) F (trans_G F (up2 (up2 G (116) (p) (nI (hi + 1))) (111) (p) ((F (103) (3)) + (G (110) (p)))) p (hi) fl) R sO) _
    exact pw_vret rfl rfl (Nat.zero_le _) (Nat.zero_le _) (by simp only [bendS, c1, if_true, if_false] at k; exact k)
theorem tbn_row {p u hi i : Nat} (h1 : ¬ i = 118) (h2 : ¬ i = 122) (h3 : ¬ i = 123) : ∀ (n j : Nat) (X : FN × FN), (tbn p u hi n j X).2 i = X.2 i
  | 0, _, _ => rfl
  | n + 1, j, X => by
    refine (tbn_row h1 h2 h3 n (j + 1) _).trans ?_
    show up2 (up2 (up2 X.2 118 _ _) 123 _ _) 122 _ _ i = _
    rw [up2_row h2, up2_row h3, up2_row h1]
/-- what stands ahead of the loop -/
def tb0 (F G : FN) (p m hi : Nat) : FN := up2 (up2 G 119 (402 * p + hi) (nI m)) 120 (402 * p + hi) (F 103 3)
theorem tb0_124 {F G : FN} {p m hi q : Nat} : tb0 F G p m hi 124 q = G 124 q := by
  unfold tb0
  rw [up2_ne1 (by decide), up2_ne1 (by decide)]
def tbegin (F G : FN) (p u m hi fl : Nat) : FN × FN := ((tbn p u hi m 0 (F, tb0 F G p m hi)).1, bend (tbn p u hi m 0 (F, tb0 F G p m hi)).1 (tbn p u hi m 0 (F, tb0 F G p m hi)).2 p m hi fl)
theorem t_begin {L p u m hi fl : Nat} {F G : FN} {R : RN} (hp : p < 4) (hu : u + m ≤ 401) (hm : 0 < m) (hh : hi + m ≤ 402) (hhi : G 116 p = nI hi) (hfl : G 124 (2 * p) = nI fl) (hf6 : fl ≤ 6) {Q : Option PV → PH → Prop} (k : Q none (hb (sL L) (tbegin F G p u m hi fl).1 (tbegin F G p u m hi fl).2 R sO)) : pz pP mSBModel_begin [.inr (some 103), .inl (nI p), .inl (nI u), .inl (nI m)] (hb (sL L) F G R sO) Q := by
  show pw pP mSBModel_begin (0, [some (.inr (some (103))), some (.inl (nI (p))), some (.inl (nI (u))), some (.inl (nI (m))), none, none, none], [], 0, 0, hb (sL L) F G R sO) _
  refine pw_aload_n rfl rfl ?_
  refine px_getr (r := some (116)) rfl rfl rfl rfl rfl ?_
  refine pw_iload_n rfl rfl ?_
  refine px_ialdn (x := nI (hi)) rfl rfl (by omega) (by decide) (hhi) ?_
  refine pw_istore (ls1 := [some (.inr (some (103))), some (.inl (nI (p))), some (.inl (nI (u))), some (.inl (nI (m))), some (.inl (nI (hi))), none, none]) rfl (Nat.le_of_ble_eq_true rfl) rfl ?_
  refine pw_sipush (v := nI (402)) rfl (by decide) ?_
  refine pw_iload_n rfl rfl ?_
  refine pw_imul (z := nI (402 * p)) rfl (pk_mul _ _) ?_
  refine pw_iload rfl rfl ?_
  refine pw_iadd (z := nI (402 * p + hi)) rfl (nI_add _ _) ?_
  refine pw_istore (ls1 := [some (.inr (some (103))), some (.inl (nI (p))), some (.inl (nI (u))), some (.inl (nI (m))), some (.inl (nI (hi))), some (.inl (nI (402 * p + hi))), none]) rfl (Nat.le_of_ble_eq_true rfl) rfl ?_
  refine pw_aload_n rfl rfl ?_
  refine px_getr (r := some (119)) rfl rfl rfl rfl rfl ?_
  refine pw_iload rfl rfl ?_
  refine pw_iload_n rfl rfl ?_
  refine px_iastn rfl rfl (by omega) (by decide) ?_
  refine pw_aload_n rfl rfl ?_
  refine px_getr (r := some (120)) rfl rfl rfl rfl rfl ?_
  refine pw_iload rfl rfl ?_
  refine pw_aload_n rfl rfl ?_
  refine px_getv (x := F (103) (3)) rfl rfl rfl rfl (rfl) ?_
  refine px_iastn rfl rfl (by omega) (by decide) ?_
  refine pw_iconst (v := nI (0)) rfl (by decide) ?_
  refine pw_istore (ls1 := [some (.inr (some (103))), some (.inl (nI (p))), some (.inl (nI (u))), some (.inl (nI (m))), some (.inl (nI (hi))), some (.inl (nI (402 * p + hi))), some (.inl (nI (0)))]) rfl (Nat.le_of_ble_eq_true rfl) rfl ?_
  have e1 : (tbn p u hi m 0 (F, tb0 F G p m hi)).2 124 (2 * p) = nI fl := (congrFun (tbn_row (by decide) (by decide) (by decide) m 0 (F, tb0 F G p m hi)) (2 * p)).trans ((tb0_124 (F := F) (G := G) (p := p) (m := m) (hi := hi)).trans hfl)
  exact t_begin_lp hp hu hh m 0 (F, tb0 F G p m hi) (by omega) (t_bend hp (by omega) e1 hf6 k)
theorem t_beginS {L p hi fl : Nat} {F G : FN} {R : RN} (hp : p < 4) (hh : hi < 402) (hhi : G 116 p = nI hi) (hfl : G 124 (2 * p) = nI fl) (hf6 : fl ≤ 6) {Q : Option PV → PH → Prop} (k : Q none (hb (sL L) F (bendS F (up2 (tb0 F G p 1 hi) 118 (402 * p + hi + 0) ((-1) + nI 0)) p hi fl) R sO)) : pz pP mSBModel_begin [.inr (some 103), .inl (nI p), .inl (-1), .inl (nI 1)] (hb (sL L) F G R sO) Q := by
  show pw pP mSBModel_begin (0, [some (.inr (some (103))), some (.inl (nI (p))), some (.inl ((-1))), some (.inl (nI (1))), none, none, none], [], 0, 0, hb (sL L) F G R sO) _
  refine pw_aload_n rfl rfl ?_
  refine px_getr (r := some (116)) rfl rfl rfl rfl rfl ?_
  refine pw_iload_n rfl rfl ?_
  refine px_ialdn (x := nI (hi)) rfl rfl (by omega) (by decide) (hhi) ?_
  refine pw_istore (ls1 := [some (.inr (some (103))), some (.inl (nI (p))), some (.inl ((-1))), some (.inl (nI (1))), some (.inl (nI (hi))), none, none]) rfl (Nat.le_of_ble_eq_true rfl) rfl ?_
  refine pw_sipush (v := nI (402)) rfl (by decide) ?_
  refine pw_iload_n rfl rfl ?_
  refine pw_imul (z := nI (402 * p)) rfl (pk_mul _ _) ?_
  refine pw_iload rfl rfl ?_
  refine pw_iadd (z := nI (402 * p + hi)) rfl (nI_add _ _) ?_
  refine pw_istore (ls1 := [some (.inr (some (103))), some (.inl (nI (p))), some (.inl ((-1))), some (.inl (nI (1))), some (.inl (nI (hi))), some (.inl (nI (402 * p + hi))), none]) rfl (Nat.le_of_ble_eq_true rfl) rfl ?_
  refine pw_aload_n rfl rfl ?_
  refine px_getr (r := some (119)) rfl rfl rfl rfl rfl ?_
  refine pw_iload rfl rfl ?_
  refine pw_iload_n rfl rfl ?_
  refine px_iastn rfl rfl (by omega) (by decide) ?_
  refine pw_aload_n rfl rfl ?_
  refine px_getr (r := some (120)) rfl rfl rfl rfl rfl ?_
  refine pw_iload rfl rfl ?_
  refine pw_aload_n rfl rfl ?_
  refine px_getv (x := F (103) (3)) rfl rfl rfl rfl (rfl) ?_
  refine px_iastn rfl rfl (by omega) (by decide) ?_
  refine pw_iconst (v := nI (0)) rfl (by decide) ?_
  refine pw_istore (ls1 := [some (.inr (some (103))), some (.inl (nI (p))), some (.inl ((-1))), some (.inl (nI (1))), some (.inl (nI (hi))), some (.inl (nI (402 * p + hi))), some (.inl (nI (0)))]) rfl (Nat.le_of_ble_eq_true rfl) rfl ?_
  refine pw_iload rfl rfl ?_
  refine pw_iload_n rfl rfl ?_
  refine pw_if2 (t := 129) rfl rfl (fun q => absurd q (by decide)) (fun _ => ?_)
  refine pw_aload_n rfl rfl ?_
  refine px_getr (r := some (118)) rfl rfl rfl rfl rfl ?_
  refine pw_iload rfl rfl ?_
  refine pw_iload rfl rfl ?_
  refine pw_iadd (z := nI (402 * p + hi + 0)) rfl (nI_add _ _) ?_
  refine pw_iload_n rfl rfl ?_
  refine pw_iload rfl rfl ?_
  refine pw_iadd (z := (-1) + (nI (0))) rfl rfl ?_
  refine px_iastn rfl rfl (by omega) (by decide) ?_
  refine pw_iload_n rfl rfl ?_
  refine pw_if1p (A := (-1) < 0) rfl rfl (t := 123) rfl (fun _ => ?_) (fun q => absurd (by decide) q)
  refine pw_iinc (v := nI (1)) (ls1 := [some (.inr (some (103))), some (.inl (nI (p))), some (.inl ((-1))), some (.inl (nI (1))), some (.inl (nI (hi))), some (.inl (nI (402 * p + hi))), some (.inl (nI (1)))]) rfl rfl (iinc_n _) rfl ?_
  refine pw_goto (t := 40) rfl rfl ?_
  refine pw_iload rfl rfl ?_
  refine pw_iload_n rfl rfl ?_
  refine pw_if2 (t := 129) rfl rfl (fun _ => ?_) (fun q => absurd q (by decide))
  exact t_bendS hp hh ((up2_ne1 (by decide)).trans (tb0_124.trans hfl)) hf6 k
