/-! THE REFERENCE, sixth part: which units are loose. Rows laid by a program (wip/whole/gen/twin5.py). -/
/-- the path q does not keep the unit u from the path p -/
abbrev okq (G : FN) (p u q : Nat) : Prop := ¬ (¬ G 122 (402 * q + u) ≤ 0 ∧ ¬ G 115 q ≤ G 122 (402 * q + u)) ∧ ¬ ((¬ G 122 (402 * q + u) < G 115 q ∧ ¬ G 122 (402 * q + u) ≤ 0 ∧ ¬ G 107 q = nI 4) ∧ (q = p ∨ G 107 q = nI 2))
def lo (G : FN) (p u : Nat) : Nat → Nat → Int32
  | 0, _ => nI 1
  | n + 1, q => if okq G p u q then lo G p u n (q + 1) else nI 0
theorem lo_t {G : FN} {p u n q : Nat} (h : okq G p u q) : lo G p u (n + 1) q = lo G p u n (q + 1) := by simp only [lo, if_pos h]
theorem lo_f {G : FN} {p u n q : Nat} (h : ¬ okq G p u q) : lo G p u (n + 1) q = nI 0 := by simp only [lo, if_neg h]
theorem t_loose_0 {L p u q : Nat} {F G : FN} {R : RN} {o5 o6 o7 : Option PV} {Q : Option PV → PH → Prop} (hq : q ≤ 4) (k : Q (some (.inl (nI 0))) (hb (sL L) F G R sO)) : pw pP mSBModel_loose (25, [some (.inr (some (103))), some (.inl (nI (p))), some (.inl (nI (u))), some (.inl (nI (0))), some (.inl (nI (q))), o5, o6, o7], [], 0, 0, hb (sL L) F G R sO) Q := by
  refine pw_iload rfl rfl ?_
  refine pw_iconst (v := nI (4)) rfl (by decide) ?_
  refine pw_if2p (cn_ge (by omega) (by omega)) rfl (t := 148) rfl (fun c1 => ?_) (fun c1 => ?_)
  · -- 148
    refine pw_iload_n rfl rfl ?_
    exact pw_iret rfl rfl (Nat.zero_le _) (Nat.zero_le _) rfl k
  · -- 31
    refine pw_iload_n rfl rfl ?_
    refine pw_if1 (t := 148) rfl rfl (fun _ => ?_) (fun q => absurd q (by decide))
    refine pw_iload_n rfl rfl ?_
    exact pw_iret rfl rfl (Nat.zero_le _) (Nat.zero_le _) rfl k
theorem t_loose_lp {L p u : Nat} {F G : FN} {R : RN} {Q : Option PV → PH → Prop} (hp : p < 4) (hu : u < 402) : ∀ (n q : Nat) (o5 o6 o7 : Option PV), q + n = 4 → Q (some (.inl (lo G p u n q))) (hb (sL L) F G R sO) → pw pP mSBModel_loose (25, [some (.inr (some (103))), some (.inl (nI (p))), some (.inl (nI (u))), some (.inl (nI (1))), some (.inl (nI (q))), o5, o6, o7], [], 0, 0, hb (sL L) F G R sO) Q := by
  intro n
  induction n with
  | zero =>
    intro q o5 o6 o7 hn k
    refine pw_iload rfl rfl ?_
    refine pw_iconst (v := nI (4)) rfl (by decide) ?_
    refine pw_if2p (cn_ge (by omega) (by omega)) rfl (t := 148) rfl (fun c1 => ?_) (fun c1 => ?_)
    · -- 148
      refine pw_iload_n rfl rfl ?_
      exact pw_iret rfl rfl (Nat.zero_le _) (Nat.zero_le _) rfl k
    · -- 31
      exact absurd c1 (by omega)
  | succ n ih =>
    intro q o5 o6 o7 hn k
    refine pw_iload rfl rfl ?_
    refine pw_iconst (v := nI (4)) rfl (by decide) ?_
    refine pw_if2p (cn_ge (by omega) (by omega)) rfl (t := 148) rfl (fun c1 => ?_) (fun c1 => ?_)
    · -- 148
      refine pw_iload_n rfl rfl ?_
      exact absurd c1 (by omega)
    · -- 31
      refine pw_iload_n rfl rfl ?_
      refine pw_if1 (t := 148) rfl rfl (fun q => absurd q (by decide)) (fun _ => ?_)
      refine pw_aload_n rfl rfl ?_
      refine px_getr (r := some (122)) rfl rfl rfl rfl rfl ?_
      refine pw_sipush (v := nI (402)) rfl (by decide) ?_
      refine pw_iload rfl rfl ?_
      refine pw_imul (z := nI (402 * q)) rfl (pk_mul _ _) ?_
      refine pw_iload_n rfl rfl ?_
      refine pw_iadd (z := nI (402 * q + u)) rfl (nI_add _ _) ?_
      refine px_ialdn (x := G (122) (402 * q + u)) rfl rfl (by omega) (by decide) (rfl) ?_
      refine pw_istore (ls1 := [some (.inr (some (103))), some (.inl (nI (p))), some (.inl (nI (u))), some (.inl (nI (1))), some (.inl (nI (q))), some (.inl (G (122) (402 * q + u))), o6, o7]) rfl (Nat.le_of_ble_eq_true rfl) rfl ?_
      refine pw_iload rfl rfl ?_
      refine pw_if1p (A := G (122) (402 * q + u) ≤ 0) rfl rfl (t := 71) rfl (fun c2 => ?_) (fun c2 => ?_)
      · -- 71
        refine pw_iconst (v := nI (0)) rfl (by decide) ?_
        refine pw_istore (ls1 := [some (.inr (some (103))), some (.inl (nI (p))), some (.inl (nI (u))), some (.inl (nI (1))), some (.inl (nI (q))), some (.inl (G (122) (402 * q + u))), some (.inl (nI (0))), o7]) rfl (Nat.le_of_ble_eq_true rfl) rfl ?_
        refine pw_iload rfl rfl ?_
        refine pw_aload_n rfl rfl ?_
        refine px_getr (r := some (115)) rfl rfl rfl rfl rfl ?_
        refine pw_iload rfl rfl ?_
        refine px_ialdn (x := G (115) (q)) rfl rfl (by omega) (by decide) (rfl) ?_
        refine pw_if2p (A := G (122) (402 * q + u) < G (115) (q)) rfl rfl (t := 106) rfl (fun c3 => ?_) (fun c3 => ?_)
        · -- 106
          refine pw_iconst (v := nI (0)) rfl (by decide) ?_
          refine pw_istore (ls1 := [some (.inr (some (103))), some (.inl (nI (p))), some (.inl (nI (u))), some (.inl (nI (1))), some (.inl (nI (q))), some (.inl (G (122) (402 * q + u))), some (.inl (nI (0))), some (.inl (nI (0)))]) rfl (Nat.le_of_ble_eq_true rfl) rfl ?_
          refine pw_iload rfl rfl ?_
          refine pw_if1 (t := 140) rfl rfl (fun q => absurd q (by decide)) (fun _ => ?_)
          refine pw_iload rfl rfl ?_
          refine pw_if1 (t := 136) rfl rfl (fun _ => ?_) (fun q => absurd q (by decide))
          refine pw_iconst (v := nI (1)) rfl (by decide) ?_
          refine pw_goto (t := 141) rfl rfl ?_
          refine pw_istore_n (ls1 := [some (.inr (some (103))), some (.inl (nI (p))), some (.inl (nI (u))), some (.inl (nI (1))), some (.inl (nI (q))), some (.inl (G (122) (402 * q + u))), some (.inl (nI (0))), some (.inl (nI (0)))]) rfl (Nat.le_of_ble_eq_true rfl) rfl ?_
          refine pw_iinc (v := nI (q + 1)) (ls1 := [some (.inr (some (103))), some (.inl (nI (p))), some (.inl (nI (u))), some (.inl (nI (1))), some (.inl (nI (q + 1))), some (.inl (G (122) (402 * q + u))), some (.inl (nI (0))), some (.inl (nI (0)))]) rfl rfl (iinc_n _) rfl ?_
          refine pw_goto (t := 25) rfl rfl ?_
          exact ih (q + 1) _ _ _ (by omega) (by rw [lo_t (by simp only [okq, eq_true c2, eq_true c3, not_true_eq_false, not_false_eq_true, and_self, and_true, true_and, and_false, false_and, or_true, true_or, or_false, false_or, or_self])] at k; exact k)
        · -- 86
          refine pw_iload rfl rfl ?_
          refine pw_if1p (A := G (122) (402 * q + u) ≤ 0) rfl rfl (t := 106) rfl (fun _ => ?_) (fun q => absurd c2 q)
          refine pw_iconst (v := nI (0)) rfl (by decide) ?_
          refine pw_istore (ls1 := [some (.inr (some (103))), some (.inl (nI (p))), some (.inl (nI (u))), some (.inl (nI (1))), some (.inl (nI (q))), some (.inl (G (122) (402 * q + u))), some (.inl (nI (0))), some (.inl (nI (0)))]) rfl (Nat.le_of_ble_eq_true rfl) rfl ?_
          refine pw_iload rfl rfl ?_
          refine pw_if1 (t := 140) rfl rfl (fun q => absurd q (by decide)) (fun _ => ?_)
          refine pw_iload rfl rfl ?_
          refine pw_if1 (t := 136) rfl rfl (fun _ => ?_) (fun q => absurd q (by decide))
          refine pw_iconst (v := nI (1)) rfl (by decide) ?_
          refine pw_goto (t := 141) rfl rfl ?_
          refine pw_istore_n (ls1 := [some (.inr (some (103))), some (.inl (nI (p))), some (.inl (nI (u))), some (.inl (nI (1))), some (.inl (nI (q))), some (.inl (G (122) (402 * q + u))), some (.inl (nI (0))), some (.inl (nI (0)))]) rfl (Nat.le_of_ble_eq_true rfl) rfl ?_
          refine pw_iinc (v := nI (q + 1)) (ls1 := [some (.inr (some (103))), some (.inl (nI (p))), some (.inl (nI (u))), some (.inl (nI (1))), some (.inl (nI (q + 1))), some (.inl (G (122) (402 * q + u))), some (.inl (nI (0))), some (.inl (nI (0)))]) rfl rfl (iinc_n _) rfl ?_
          refine pw_goto (t := 25) rfl rfl ?_
          exact ih (q + 1) _ _ _ (by omega) (by rw [lo_t (by simp only [okq, eq_true c2, eq_false c3, not_true_eq_false, not_false_eq_true, and_self, and_true, true_and, and_false, false_and, or_true, true_or, or_false, false_or, or_self])] at k; exact k)
      · -- 55
        refine pw_iload rfl rfl ?_
        refine pw_aload_n rfl rfl ?_
        refine px_getr (r := some (115)) rfl rfl rfl rfl rfl ?_
        refine pw_iload rfl rfl ?_
        refine px_ialdn (x := G (115) (q)) rfl rfl (by omega) (by decide) (rfl) ?_
        refine pw_if2p (A := G (115) (q) ≤ G (122) (402 * q + u)) rfl rfl (t := 71) rfl (fun c4 => ?_) (fun c4 => ?_)
        · -- 71
          refine pw_iconst (v := nI (0)) rfl (by decide) ?_
          refine pw_istore (ls1 := [some (.inr (some (103))), some (.inl (nI (p))), some (.inl (nI (u))), some (.inl (nI (1))), some (.inl (nI (q))), some (.inl (G (122) (402 * q + u))), some (.inl (nI (0))), o7]) rfl (Nat.le_of_ble_eq_true rfl) rfl ?_
          refine pw_iload rfl rfl ?_
          refine pw_aload_n rfl rfl ?_
          refine px_getr (r := some (115)) rfl rfl rfl rfl rfl ?_
          refine pw_iload rfl rfl ?_
          refine px_ialdn (x := G (115) (q)) rfl rfl (by omega) (by decide) (rfl) ?_
          refine pw_if2p (A := G (122) (402 * q + u) < G (115) (q)) rfl rfl (t := 106) rfl (fun c5 => ?_) (fun c5 => ?_)
          · -- 106
            refine pw_iconst (v := nI (0)) rfl (by decide) ?_
            refine pw_istore (ls1 := [some (.inr (some (103))), some (.inl (nI (p))), some (.inl (nI (u))), some (.inl (nI (1))), some (.inl (nI (q))), some (.inl (G (122) (402 * q + u))), some (.inl (nI (0))), some (.inl (nI (0)))]) rfl (Nat.le_of_ble_eq_true rfl) rfl ?_
            refine pw_iload rfl rfl ?_
            refine pw_if1 (t := 140) rfl rfl (fun q => absurd q (by decide)) (fun _ => ?_)
            refine pw_iload rfl rfl ?_
            refine pw_if1 (t := 136) rfl rfl (fun _ => ?_) (fun q => absurd q (by decide))
            refine pw_iconst (v := nI (1)) rfl (by decide) ?_
            refine pw_goto (t := 141) rfl rfl ?_
            refine pw_istore_n (ls1 := [some (.inr (some (103))), some (.inl (nI (p))), some (.inl (nI (u))), some (.inl (nI (1))), some (.inl (nI (q))), some (.inl (G (122) (402 * q + u))), some (.inl (nI (0))), some (.inl (nI (0)))]) rfl (Nat.le_of_ble_eq_true rfl) rfl ?_
            refine pw_iinc (v := nI (q + 1)) (ls1 := [some (.inr (some (103))), some (.inl (nI (p))), some (.inl (nI (u))), some (.inl (nI (1))), some (.inl (nI (q + 1))), some (.inl (G (122) (402 * q + u))), some (.inl (nI (0))), some (.inl (nI (0)))]) rfl rfl (iinc_n _) rfl ?_
            refine pw_goto (t := 25) rfl rfl ?_
            exact ih (q + 1) _ _ _ (by omega) (by rw [lo_t (by simp only [okq, eq_false c2, eq_true c4, eq_true c5, not_true_eq_false, not_false_eq_true, and_self, and_true, true_and, and_false, false_and, or_true, true_or, or_false, false_or, or_self])] at k; exact k)
          · -- 86
            refine pw_iload rfl rfl ?_
            refine pw_if1p (A := G (122) (402 * q + u) ≤ 0) rfl rfl (t := 106) rfl (fun q => absurd q c2) (fun _ => ?_)
            refine pw_aload_n rfl rfl ?_
            refine px_getr (r := some (107)) rfl rfl rfl rfl rfl ?_
            refine pw_iload rfl rfl ?_
            refine px_ialdn (x := G (107) (q)) rfl rfl (by omega) (by decide) (rfl) ?_
            refine pw_iconst (v := nI (4)) rfl (by decide) ?_
            refine pw_if2p (A := G (107) (q) = nI (4)) rfl rfl (t := 106) rfl (fun c6 => ?_) (fun c6 => ?_)
            · -- 106
              refine pw_iconst (v := nI (0)) rfl (by decide) ?_
              refine pw_istore (ls1 := [some (.inr (some (103))), some (.inl (nI (p))), some (.inl (nI (u))), some (.inl (nI (1))), some (.inl (nI (q))), some (.inl (G (122) (402 * q + u))), some (.inl (nI (0))), some (.inl (nI (0)))]) rfl (Nat.le_of_ble_eq_true rfl) rfl ?_
              refine pw_iload rfl rfl ?_
              refine pw_if1 (t := 140) rfl rfl (fun q => absurd q (by decide)) (fun _ => ?_)
              refine pw_iload rfl rfl ?_
              refine pw_if1 (t := 136) rfl rfl (fun _ => ?_) (fun q => absurd q (by decide))
              refine pw_iconst (v := nI (1)) rfl (by decide) ?_
              refine pw_goto (t := 141) rfl rfl ?_
              refine pw_istore_n (ls1 := [some (.inr (some (103))), some (.inl (nI (p))), some (.inl (nI (u))), some (.inl (nI (1))), some (.inl (nI (q))), some (.inl (G (122) (402 * q + u))), some (.inl (nI (0))), some (.inl (nI (0)))]) rfl (Nat.le_of_ble_eq_true rfl) rfl ?_
              refine pw_iinc (v := nI (q + 1)) (ls1 := [some (.inr (some (103))), some (.inl (nI (p))), some (.inl (nI (u))), some (.inl (nI (1))), some (.inl (nI (q + 1))), some (.inl (G (122) (402 * q + u))), some (.inl (nI (0))), some (.inl (nI (0)))]) rfl rfl (iinc_n _) rfl ?_
              refine pw_goto (t := 25) rfl rfl ?_
              exact ih (q + 1) _ _ _ (by omega) (by rw [lo_t (by simp only [okq, eq_false c2, eq_true c4, eq_false c5, eq_true c6, not_true_eq_false, not_false_eq_true, and_self, and_true, true_and, and_false, false_and, or_true, true_or, or_false, false_or, or_self])] at k; exact k)
            · -- 102
              refine pw_iconst (v := nI (1)) rfl (by decide) ?_
              refine pw_goto (t := 107) rfl rfl ?_
              refine pw_istore (ls1 := [some (.inr (some (103))), some (.inl (nI (p))), some (.inl (nI (u))), some (.inl (nI (1))), some (.inl (nI (q))), some (.inl (G (122) (402 * q + u))), some (.inl (nI (0))), some (.inl (nI (1)))]) rfl (Nat.le_of_ble_eq_true rfl) rfl ?_
              refine pw_iload rfl rfl ?_
              refine pw_if1 (t := 140) rfl rfl (fun q => absurd q (by decide)) (fun _ => ?_)
              refine pw_iload rfl rfl ?_
              refine pw_if1 (t := 136) rfl rfl (fun q => absurd q (by decide)) (fun _ => ?_)
              refine pw_iload rfl rfl ?_
              refine pw_iload_n rfl rfl ?_
              refine pw_if2p (cn_eq (by omega) (by omega)) rfl (t := 140) rfl (fun c7 => ?_) (fun c7 => ?_)
              · -- 140
                refine pw_iconst (v := nI (0)) rfl (by decide) ?_
                refine pw_istore_n (ls1 := [some (.inr (some (103))), some (.inl (nI (p))), some (.inl (nI (u))), some (.inl (nI (0))), some (.inl (nI (q))), some (.inl (G (122) (402 * q + u))), some (.inl (nI (0))), some (.inl (nI (1)))]) rfl (Nat.le_of_ble_eq_true rfl) rfl ?_
                refine pw_iinc (v := nI (q + 1)) (ls1 := [some (.inr (some (103))), some (.inl (nI (p))), some (.inl (nI (u))), some (.inl (nI (0))), some (.inl (nI (q + 1))), some (.inl (G (122) (402 * q + u))), some (.inl (nI (0))), some (.inl (nI (1)))]) rfl rfl (iinc_n _) rfl ?_
                refine pw_goto (t := 25) rfl rfl ?_
                exact t_loose_0 (by omega) (by rw [lo_f (by simp only [okq, eq_false c2, eq_true c4, eq_false c5, eq_false c6, eq_true c7, not_true_eq_false, not_false_eq_true, and_self, and_true, true_and, and_false, false_and, or_true, true_or, or_false, false_or, or_self])] at k; exact k)
              · -- 125
                refine pw_aload_n rfl rfl ?_
                refine px_getr (r := some (107)) rfl rfl rfl rfl rfl ?_
                refine pw_iload rfl rfl ?_
                refine px_ialdn (x := G (107) (q)) rfl rfl (by omega) (by decide) (rfl) ?_
                refine pw_iconst (v := nI (2)) rfl (by decide) ?_
                refine pw_if2p (A := G (107) (q) = nI (2)) rfl rfl (t := 140) rfl (fun c8 => ?_) (fun c8 => ?_)
                · -- 140
                  refine pw_iconst (v := nI (0)) rfl (by decide) ?_
                  refine pw_istore_n (ls1 := [some (.inr (some (103))), some (.inl (nI (p))), some (.inl (nI (u))), some (.inl (nI (0))), some (.inl (nI (q))), some (.inl (G (122) (402 * q + u))), some (.inl (nI (0))), some (.inl (nI (1)))]) rfl (Nat.le_of_ble_eq_true rfl) rfl ?_
                  refine pw_iinc (v := nI (q + 1)) (ls1 := [some (.inr (some (103))), some (.inl (nI (p))), some (.inl (nI (u))), some (.inl (nI (0))), some (.inl (nI (q + 1))), some (.inl (G (122) (402 * q + u))), some (.inl (nI (0))), some (.inl (nI (1)))]) rfl rfl (iinc_n _) rfl ?_
                  refine pw_goto (t := 25) rfl rfl ?_
                  exact t_loose_0 (by omega) (by rw [lo_f (by simp only [okq, eq_false c2, eq_true c4, eq_false c5, eq_false c6, eq_false c7, eq_true c8, not_true_eq_false, not_false_eq_true, and_self, and_true, true_and, and_false, false_and, or_true, true_or, or_false, false_or, or_self])] at k; exact k)
                · -- 136
                  refine pw_iconst (v := nI (1)) rfl (by decide) ?_
                  refine pw_goto (t := 141) rfl rfl ?_
                  refine pw_istore_n (ls1 := [some (.inr (some (103))), some (.inl (nI (p))), some (.inl (nI (u))), some (.inl (nI (1))), some (.inl (nI (q))), some (.inl (G (122) (402 * q + u))), some (.inl (nI (0))), some (.inl (nI (1)))]) rfl (Nat.le_of_ble_eq_true rfl) rfl ?_
                  refine pw_iinc (v := nI (q + 1)) (ls1 := [some (.inr (some (103))), some (.inl (nI (p))), some (.inl (nI (u))), some (.inl (nI (1))), some (.inl (nI (q + 1))), some (.inl (G (122) (402 * q + u))), some (.inl (nI (0))), some (.inl (nI (1)))]) rfl rfl (iinc_n _) rfl ?_
                  refine pw_goto (t := 25) rfl rfl ?_
                  exact ih (q + 1) _ _ _ (by omega) (by rw [lo_t (by simp only [okq, eq_false c2, eq_true c4, eq_false c5, eq_false c6, eq_false c7, eq_false c8, not_true_eq_false, not_false_eq_true, and_self, and_true, true_and, and_false, false_and, or_true, true_or, or_false, false_or, or_self])] at k; exact k)
        · -- 67
          refine pw_iconst (v := nI (1)) rfl (by decide) ?_
          refine pw_goto (t := 72) rfl rfl ?_
          refine pw_istore (ls1 := [some (.inr (some (103))), some (.inl (nI (p))), some (.inl (nI (u))), some (.inl (nI (1))), some (.inl (nI (q))), some (.inl (G (122) (402 * q + u))), some (.inl (nI (1))), o7]) rfl (Nat.le_of_ble_eq_true rfl) rfl ?_
          refine pw_iload rfl rfl ?_
          refine pw_aload_n rfl rfl ?_
          refine px_getr (r := some (115)) rfl rfl rfl rfl rfl ?_
          refine pw_iload rfl rfl ?_
          refine px_ialdn (x := G (115) (q)) rfl rfl (by omega) (by decide) (rfl) ?_
          refine pw_if2p (A := G (122) (402 * q + u) < G (115) (q)) rfl rfl (t := 106) rfl (fun c9 => ?_) (fun c9 => ?_)
          · -- 106
            refine pw_iconst (v := nI (0)) rfl (by decide) ?_
            refine pw_istore (ls1 := [some (.inr (some (103))), some (.inl (nI (p))), some (.inl (nI (u))), some (.inl (nI (1))), some (.inl (nI (q))), some (.inl (G (122) (402 * q + u))), some (.inl (nI (1))), some (.inl (nI (0)))]) rfl (Nat.le_of_ble_eq_true rfl) rfl ?_
            refine pw_iload rfl rfl ?_
            refine pw_if1 (t := 140) rfl rfl (fun _ => ?_) (fun q => absurd q (by decide))
            refine pw_iconst (v := nI (0)) rfl (by decide) ?_
            refine pw_istore_n (ls1 := [some (.inr (some (103))), some (.inl (nI (p))), some (.inl (nI (u))), some (.inl (nI (0))), some (.inl (nI (q))), some (.inl (G (122) (402 * q + u))), some (.inl (nI (1))), some (.inl (nI (0)))]) rfl (Nat.le_of_ble_eq_true rfl) rfl ?_
            refine pw_iinc (v := nI (q + 1)) (ls1 := [some (.inr (some (103))), some (.inl (nI (p))), some (.inl (nI (u))), some (.inl (nI (0))), some (.inl (nI (q + 1))), some (.inl (G (122) (402 * q + u))), some (.inl (nI (1))), some (.inl (nI (0)))]) rfl rfl (iinc_n _) rfl ?_
            refine pw_goto (t := 25) rfl rfl ?_
            exact t_loose_0 (by omega) (by rw [lo_f (by simp only [okq, eq_false c2, eq_false c4, eq_true c9, not_true_eq_false, not_false_eq_true, and_self, and_true, true_and, and_false, false_and, or_true, true_or, or_false, false_or, or_self])] at k; exact k)
          · -- 86
            refine pw_iload rfl rfl ?_
            refine pw_if1p (A := G (122) (402 * q + u) ≤ 0) rfl rfl (t := 106) rfl (fun q => absurd q c2) (fun _ => ?_)
            refine pw_aload_n rfl rfl ?_
            refine px_getr (r := some (107)) rfl rfl rfl rfl rfl ?_
            refine pw_iload rfl rfl ?_
            refine px_ialdn (x := G (107) (q)) rfl rfl (by omega) (by decide) (rfl) ?_
            refine pw_iconst (v := nI (4)) rfl (by decide) ?_
            refine pw_if2p (A := G (107) (q) = nI (4)) rfl rfl (t := 106) rfl (fun c10 => ?_) (fun c10 => ?_)
            · -- 106
              refine pw_iconst (v := nI (0)) rfl (by decide) ?_
              refine pw_istore (ls1 := [some (.inr (some (103))), some (.inl (nI (p))), some (.inl (nI (u))), some (.inl (nI (1))), some (.inl (nI (q))), some (.inl (G (122) (402 * q + u))), some (.inl (nI (1))), some (.inl (nI (0)))]) rfl (Nat.le_of_ble_eq_true rfl) rfl ?_
              refine pw_iload rfl rfl ?_
              refine pw_if1 (t := 140) rfl rfl (fun _ => ?_) (fun q => absurd q (by decide))
              refine pw_iconst (v := nI (0)) rfl (by decide) ?_
              refine pw_istore_n (ls1 := [some (.inr (some (103))), some (.inl (nI (p))), some (.inl (nI (u))), some (.inl (nI (0))), some (.inl (nI (q))), some (.inl (G (122) (402 * q + u))), some (.inl (nI (1))), some (.inl (nI (0)))]) rfl (Nat.le_of_ble_eq_true rfl) rfl ?_
              refine pw_iinc (v := nI (q + 1)) (ls1 := [some (.inr (some (103))), some (.inl (nI (p))), some (.inl (nI (u))), some (.inl (nI (0))), some (.inl (nI (q + 1))), some (.inl (G (122) (402 * q + u))), some (.inl (nI (1))), some (.inl (nI (0)))]) rfl rfl (iinc_n _) rfl ?_
              refine pw_goto (t := 25) rfl rfl ?_
              exact t_loose_0 (by omega) (by rw [lo_f (by simp only [okq, eq_false c2, eq_false c4, eq_false c9, eq_true c10, not_true_eq_false, not_false_eq_true, and_self, and_true, true_and, and_false, false_and, or_true, true_or, or_false, false_or, or_self])] at k; exact k)
            · -- 102
              refine pw_iconst (v := nI (1)) rfl (by decide) ?_
              refine pw_goto (t := 107) rfl rfl ?_
              refine pw_istore (ls1 := [some (.inr (some (103))), some (.inl (nI (p))), some (.inl (nI (u))), some (.inl (nI (1))), some (.inl (nI (q))), some (.inl (G (122) (402 * q + u))), some (.inl (nI (1))), some (.inl (nI (1)))]) rfl (Nat.le_of_ble_eq_true rfl) rfl ?_
              refine pw_iload rfl rfl ?_
              refine pw_if1 (t := 140) rfl rfl (fun _ => ?_) (fun q => absurd q (by decide))
              refine pw_iconst (v := nI (0)) rfl (by decide) ?_
              refine pw_istore_n (ls1 := [some (.inr (some (103))), some (.inl (nI (p))), some (.inl (nI (u))), some (.inl (nI (0))), some (.inl (nI (q))), some (.inl (G (122) (402 * q + u))), some (.inl (nI (1))), some (.inl (nI (1)))]) rfl (Nat.le_of_ble_eq_true rfl) rfl ?_
              refine pw_iinc (v := nI (q + 1)) (ls1 := [some (.inr (some (103))), some (.inl (nI (p))), some (.inl (nI (u))), some (.inl (nI (0))), some (.inl (nI (q + 1))), some (.inl (G (122) (402 * q + u))), some (.inl (nI (1))), some (.inl (nI (1)))]) rfl rfl (iinc_n _) rfl ?_
              refine pw_goto (t := 25) rfl rfl ?_
              exact t_loose_0 (by omega) (by rw [lo_f (by simp only [okq, eq_false c2, eq_false c4, eq_false c9, eq_false c10, not_true_eq_false, not_false_eq_true, and_self, and_true, true_and, and_false, false_and, or_true, true_or, or_false, false_or, or_self])] at k; exact k)
def tloose (F G : FN) (p u kn ln : Nat) : Int32 := if u < kn then nI 0 else if ln ≤ u then nI 0 else lo G p u 4 0
theorem t_loose {L p u kn ln : Nat} {F G : FN} {R : RN} (hp : p < 4) (hu : u < 2 ^ 30) (hkn : F 103 22 = nI kn) (hk2 : kn < 2 ^ 30) (hln : tlen F = nI ln) (hl2 : ln ≤ 401) {Q : Option PV → PH → Prop} (k : Q (some (.inl (tloose F G p u kn ln))) (hb (sL L) F G R sO)) : pz pP mSBModel_loose [.inr (some (103)), .inl (nI (p)), .inl (nI (u))] (hb (sL L) F G R sO) Q := by
  show pw pP mSBModel_loose (0, [some (.inr (some (103))), some (.inl (nI (p))), some (.inl (nI (u))), none, none, none, none, none], [], 0, 0, hb (sL L) F G R sO) _
  refine pw_iload_n rfl rfl ?_
  refine pw_aload_n rfl rfl ?_
  refine px_getv (x := nI (kn)) rfl rfl rfl rfl (hkn) ?_
  refine pw_if2p (cn_lt (by omega) (by omega)) rfl (t := 20) rfl (fun c1 => ?_) (fun c1 => ?_)
  · -- 20
    refine pw_iconst (v := nI (0)) rfl (by decide) ?_
    refine pw_istore_n (ls1 := [some (.inr (some (103))), some (.inl (nI (p))), some (.inl (nI (u))), some (.inl (nI (0))), none, none, none, none]) rfl (Nat.le_of_ble_eq_true rfl) rfl ?_
    refine pw_iconst (v := nI (0)) rfl (by decide) ?_
    refine pw_istore (ls1 := [some (.inr (some (103))), some (.inl (nI (p))), some (.inl (nI (u))), some (.inl (nI (0))), some (.inl (nI (0))), none, none, none]) rfl (Nat.le_of_ble_eq_true rfl) rfl ?_
    exact t_loose_0 (by omega) (by simp only [tloose, c1, if_true, if_false] at k; exact k)
  · -- 8
    refine pw_iload_n rfl rfl ?_
    refine pw_aload_n rfl rfl ?_
    refine px_callv (as := [.inr (some (103))]) (rest := [.inl (nI (u))]) rfl rfl (by decide) rfl (Nat.le_of_ble_eq_true rfl) (Nat.le_of_ble_eq_true rfl) (Nat.le_of_ble_eq_true rfl) (Nat.le_of_ble_eq_true rfl) rfl rfl rfl rfl ?_
    refine t_length ?_
    rw [hln]
    show pw pP mSBModel_loose (13, [some (.inr (some (103))), some (.inl (nI (p))), some (.inl (nI (u))), none, none, none, none, none], [.inl (nI (ln)), .inl (nI (u))], 0, 0, hb (sL L) F G R sO) _
    refine pw_if2p (cn_ge (by omega) (by omega)) rfl (t := 20) rfl (fun c2 => ?_) (fun c2 => ?_)
    · -- 20
      refine pw_iconst (v := nI (0)) rfl (by decide) ?_
      refine pw_istore_n (ls1 := [some (.inr (some (103))), some (.inl (nI (p))), some (.inl (nI (u))), some (.inl (nI (0))), none, none, none, none]) rfl (Nat.le_of_ble_eq_true rfl) rfl ?_
      refine pw_iconst (v := nI (0)) rfl (by decide) ?_
      refine pw_istore (ls1 := [some (.inr (some (103))), some (.inl (nI (p))), some (.inl (nI (u))), some (.inl (nI (0))), some (.inl (nI (0))), none, none, none]) rfl (Nat.le_of_ble_eq_true rfl) rfl ?_
      exact t_loose_0 (by omega) (by simp only [tloose, c1, c2, if_true, if_false] at k; exact k)
    · -- 16
      refine pw_iconst (v := nI (1)) rfl (by decide) ?_
      refine pw_goto (t := 21) rfl rfl ?_
      refine pw_istore_n (ls1 := [some (.inr (some (103))), some (.inl (nI (p))), some (.inl (nI (u))), some (.inl (nI (1))), none, none, none, none]) rfl (Nat.le_of_ble_eq_true rfl) rfl ?_
      refine pw_iconst (v := nI (0)) rfl (by decide) ?_
      refine pw_istore (ls1 := [some (.inr (some (103))), some (.inl (nI (p))), some (.inl (nI (u))), some (.inl (nI (1))), some (.inl (nI (0))), none, none, none]) rfl (Nat.le_of_ble_eq_true rfl) rfl ?_
      exact t_loose_lp hp (by omega) 4 0 _ _ _ rfl (by simp only [tloose, c1, c2, if_false] at k; exact k)
/-- how many segments begin at one of the n numbers from j on -/
def to3 (G : FN) (p : Nat) : Nat → Nat → Nat → Nat
  | 0, _, c => c
  | n + 1, j, c => if G 119 (402 * p + j) ≤ 0 then to3 G p n (j + 1) c else to3 G p n (j + 1) (c + 1)
theorem t_open3_lp {L p hi : Nat} {F G : FN} {R : RN} {Q : Option PV → PH → Prop} (hp : p < 4) (hhi : G 116 p = nI hi) (hh : hi ≤ 402) : ∀ (n j c : Nat), j + n = hi → c ≤ j → Q (some (.inl (nI (to3 G p n j c)))) (hb (sL L) F G R sO) → pw pP mSBModel_open3 (9, [some (.inr (some (103))), some (.inl (nI (p))), some (.inl (nI (c))), some (.inl (nI (j)))], [], 0, 0, hb (sL L) F G R sO) Q := by
  intro n
  induction n with
  | zero =>
    intro j c hn hc k
    refine pw_iload_n rfl rfl ?_
    refine pw_aload_n rfl rfl ?_
    refine px_getr (r := some (116)) rfl rfl rfl rfl rfl ?_
    refine pw_iload_n rfl rfl ?_
    refine px_ialdn (x := nI (hi)) rfl rfl (by omega) (by decide) (hhi) ?_
    refine pw_if2p (cn_ge (by omega) (by omega)) rfl (t := 48) rfl (fun c1 => ?_) (fun c1 => ?_)
    · -- 48
      refine pw_iload_n rfl rfl ?_
      exact pw_iret rfl rfl (Nat.zero_le _) (Nat.zero_le _) rfl k
    · -- 19
      exact absurd c1 (by omega)
  | succ n ih =>
    intro j c hn hc k
    refine pw_iload_n rfl rfl ?_
    refine pw_aload_n rfl rfl ?_
    refine px_getr (r := some (116)) rfl rfl rfl rfl rfl ?_
    refine pw_iload_n rfl rfl ?_
    refine px_ialdn (x := nI (hi)) rfl rfl (by omega) (by decide) (hhi) ?_
    refine pw_if2p (cn_ge (by omega) (by omega)) rfl (t := 48) rfl (fun c1 => ?_) (fun c1 => ?_)
    · -- 48
      refine pw_iload_n rfl rfl ?_
      exact absurd c1 (by omega)
    · -- 19
      refine pw_aload_n rfl rfl ?_
      refine px_getr (r := some (119)) rfl rfl rfl rfl rfl ?_
      refine pw_sipush (v := nI (402)) rfl (by decide) ?_
      refine pw_iload_n rfl rfl ?_
      refine pw_imul (z := nI (402 * p)) rfl (pk_mul _ _) ?_
      refine pw_iload_n rfl rfl ?_
      refine pw_iadd (z := nI (402 * p + j)) rfl (nI_add _ _) ?_
      refine px_ialdn (x := G (119) (402 * p + j)) rfl rfl (by omega) (by decide) (rfl) ?_
      refine pw_if1p (A := G (119) (402 * p + j) ≤ 0) rfl rfl (t := 40) rfl (fun c2 => ?_) (fun c2 => ?_)
      · -- 40
        refine pw_iload_n rfl rfl ?_
        refine pw_istore_n (ls1 := [some (.inr (some (103))), some (.inl (nI (p))), some (.inl (nI (c))), some (.inl (nI (j)))]) rfl (Nat.le_of_ble_eq_true rfl) rfl ?_
        refine pw_iinc (v := nI (j + 1)) (ls1 := [some (.inr (some (103))), some (.inl (nI (p))), some (.inl (nI (c))), some (.inl (nI (j + 1)))]) rfl rfl (iinc_n _) rfl ?_
        refine pw_goto (t := 9) rfl rfl ?_
        exact ih (j + 1) _ (by omega) (by omega) (by simp only [to3, c2, if_true, if_false] at k; exact k)
      · -- 34
        refine pw_iload_n rfl rfl ?_
        refine pw_iconst (v := nI (1)) rfl (by decide) ?_
        refine pw_iadd (z := nI (c + 1)) rfl (nI_add _ _) ?_
        refine pw_goto (t := 41) rfl rfl ?_
        refine pw_istore_n (ls1 := [some (.inr (some (103))), some (.inl (nI (p))), some (.inl (nI (c + 1))), some (.inl (nI (j)))]) rfl (Nat.le_of_ble_eq_true rfl) rfl ?_
        refine pw_iinc (v := nI (j + 1)) (ls1 := [some (.inr (some (103))), some (.inl (nI (p))), some (.inl (nI (c + 1))), some (.inl (nI (j + 1)))]) rfl rfl (iinc_n _) rfl ?_
        refine pw_goto (t := 9) rfl rfl ?_
        exact ih (j + 1) _ (by omega) (by omega) (by simp only [to3, c2, if_true, if_false] at k; exact k)
theorem t_open3 {L p lw hi : Nat} {F G : FN} {R : RN} (hp : p < 4) (hlw : G 115 p = nI lw) (hhi : G 116 p = nI hi) (hlh : lw ≤ hi) (hh : hi ≤ 402) {Q : Option PV → PH → Prop} (k : Q (some (.inl (nI (to3 G p (hi - lw) lw 0)))) (hb (sL L) F G R sO)) : pz pP mSBModel_open3 [.inr (some (103)), .inl (nI (p))] (hb (sL L) F G R sO) Q := by
  show pw pP mSBModel_open3 (0, [some (.inr (some (103))), some (.inl (nI (p))), none, none], [], 0, 0, hb (sL L) F G R sO) _
  refine pw_iconst (v := nI (0)) rfl (by decide) ?_
  refine pw_istore_n (ls1 := [some (.inr (some (103))), some (.inl (nI (p))), some (.inl (nI (0))), none]) rfl (Nat.le_of_ble_eq_true rfl) rfl ?_
  refine pw_aload_n rfl rfl ?_
  refine px_getr (r := some (115)) rfl rfl rfl rfl rfl ?_
  refine pw_iload_n rfl rfl ?_
  refine px_ialdn (x := nI (lw)) rfl rfl (by omega) (by decide) (hlw) ?_
  refine pw_istore_n (ls1 := [some (.inr (some (103))), some (.inl (nI (p))), some (.inl (nI (0))), some (.inl (nI (lw)))]) rfl (Nat.le_of_ble_eq_true rfl) rfl ?_
  exact t_open3_lp hp hhi hh (hi - lw) lw 0 (by omega) (by omega) k
