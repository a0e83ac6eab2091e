/-! THE REFERENCE, seventh part: the timer rings, A hears. Rows laid by a program (wip/whole/gen/twin6.py). -/
/-- SBModel_ring -/
def ring_G (F G : FN) (p lw fl : Nat) : FN := (if G (110) (p) ≤ nI (60) then (if ¬ G (107) (p) = nI (2) then (trans_G F (up2 (up2 (up2 G (110) (p) ((nI (2)) * (G (110) (p)))) (111) (p) ((F (103) (3)) + ((nI (2)) * (G (110) (p))))) (107) (p) (G (107) (p))) p (lw) fl) else (trans_G F (up2 (up2 (up2 G (110) (p) ((nI (2)) * (G (110) (p)))) (111) (p) ((F (103) (3)) + ((nI (2)) * (G (110) (p))))) (107) (p) (nI (3))) p (lw) fl)) else (if ¬ G (107) (p) = nI (2) then (trans_G F (up2 (up2 (up2 G (110) (p) (nI (120))) (111) (p) ((F (103) (3)) + (nI (120)))) (107) (p) (G (107) (p))) p (lw) fl) else (trans_G F (up2 (up2 (up2 G (110) (p) (nI (120))) (111) (p) ((F (103) (3)) + (nI (120)))) (107) (p) (nI (3))) p (lw) fl)))
theorem t_ring {L p lw fl : Nat} {F G : FN} {R : RN} (hp : p < 4) (hlw : G 115 p = nI lw) (hl : lw < 402) (hfl : G 124 (2 * p) = nI fl) (hf6 : fl ≤ 6) {Q : Option PV → PH → Prop} (k : Q none (hb (sL L) F (ring_G F G p lw fl) R sO)) : pz pP mSBModel_ring [.inr (some (103)), .inl (nI (p))] (hb (sL L) F G R sO) Q := by
  show pw pP mSBModel_ring (0, [some (.inr (some (103))), some (.inl (nI (p)))], [], 0, 0, hb (sL L) F G R sO) _
  refine pw_aload_n rfl rfl ?_
  refine px_getr (r := some (110)) rfl rfl rfl rfl rfl ?_
  refine pw_iload_n rfl rfl ?_
  refine pw_aload_n rfl rfl ?_
  refine px_getr (r := some (110)) rfl rfl rfl rfl rfl ?_
  refine pw_iload_n rfl rfl ?_
  refine px_ialdn (x := G (110) (p)) rfl rfl (by omega) (by decide) (rfl) ?_
  refine pw_bipush (v := nI (60)) rfl (by decide) ?_
  refine pw_if2p (A := G (110) (p) ≤ nI (60)) rfl rfl (t := 21) rfl (fun c1 => ?_) (fun c1 => ?_)
  · -- 21
    refine pw_iconst (v := nI (2)) rfl (by decide) ?_
    refine pw_aload_n rfl rfl ?_
    refine px_getr (r := some (110)) rfl rfl rfl rfl rfl ?_
    refine pw_iload_n rfl rfl ?_
    refine px_ialdn (x := G (110) (p)) rfl rfl (by omega) (by decide) (rfl) ?_
    refine pw_imul (z := (nI (2)) * (G (110) (p))) rfl rfl ?_
    refine px_iastn rfl rfl (by omega) (by decide) ?_
    refine pw_aload_n rfl rfl ?_
    refine px_getr (r := some (111)) rfl rfl rfl rfl rfl ?_
    refine pw_iload_n rfl rfl ?_
    refine pw_aload_n rfl rfl ?_
    refine px_getv (x := F (103) (3)) rfl rfl rfl rfl (rfl) ?_
    refine pw_aload_n rfl rfl ?_
    refine px_getr (r := some (110)) rfl rfl rfl rfl rfl ?_
    refine pw_iload_n rfl rfl ?_
    refine px_ialdn (x := (nI (2)) * (G (110) (p))) rfl rfl (by omega) (by decide) (up2_eq) ?_
    refine pw_iadd (z := (F (103) (3)) + ((nI (2)) * (G (110) (p)))) rfl rfl ?_
    refine px_iastn rfl rfl (by omega) (by decide) ?_
    refine pw_aload_n rfl rfl ?_
    refine px_getr (r := some (107)) rfl rfl rfl rfl rfl ?_
    refine pw_iload_n rfl rfl ?_
    refine pw_aload_n rfl rfl ?_
    refine px_getr (r := some (107)) rfl rfl rfl rfl rfl ?_
    refine pw_iload_n rfl rfl ?_
    refine px_ialdn (x := G (107) (p)) rfl rfl (by omega) (by decide) ((up2_ne1 (by decide)).trans (up2_ne1 (by decide))) ?_
    refine pw_iconst (v := nI (2)) rfl (by decide) ?_
    refine pw_if2p (A := ¬ G (107) (p) = nI (2)) rfl rfl (t := 66) rfl (fun c2 => ?_) (fun c2 => ?_)
    · -- 66
      refine pw_aload_n rfl rfl ?_
      refine px_getr (r := some (107)) rfl rfl rfl rfl rfl ?_
      refine pw_iload_n rfl rfl ?_
      refine px_ialdn (x := G (107) (p)) rfl rfl (by omega) (by decide) ((up2_ne1 (by decide)).trans (up2_ne1 (by decide))) ?_
      refine px_iastn rfl rfl (by omega) (by decide) ?_
      refine pw_aload_n rfl rfl ?_
      refine pw_iload_n rfl rfl ?_
      refine pw_aload_n rfl rfl ?_
      refine px_getr (r := some (115)) rfl rfl rfl rfl rfl ?_
      refine pw_iload_n rfl rfl ?_
      refine px_ialdn (x := nI (lw)) rfl rfl (by omega) (by decide) (((up2_ne1 (by decide)).trans ((up2_ne1 (by decide)).trans (up2_ne1 (by decide)))).trans (hlw)) ?_
      refine px_callv (as := [.inr (some (103)), .inl (nI (p)), .inl (nI (lw))]) (rest := []) rfl rfl (by decide) rfl (Nat.le_of_ble_eq_true rfl) (Nat.le_of_ble_eq_true rfl) (Nat.le_of_ble_eq_true rfl) (Nat.le_of_ble_eq_true rfl) rfl rfl rfl rfl ?_
      refine t_trans hp (by omega) (((up2_ne1 (by decide)).trans ((up2_ne1 (by decide)).trans (up2_ne1 (by decide)))).trans (hfl)) hf6 ?_
      show pw pP mSBModel_ring (84, [some (.inr (some (103))), some (.inl (nI (p)))], [], 0, 0, hb (sL L) F (trans_G F (up2 (up2 (up2 G (110) (p) ((nI (2)) * (G (110) (p)))) (111) (p) ((F (103) (3)) + ((nI (2)) * (G (110) (p))))) (107) (p) (G (107) (p))) p (lw) fl) R sO) _
      exact pw_vret rfl rfl (Nat.zero_le _) (Nat.zero_le _) (by simp only [ring_G, c1, c2, if_true, if_false] at k; exact k)
    · -- 62
      refine pw_iconst (v := nI (3)) rfl (by decide) ?_
      refine pw_goto (t := 72) rfl rfl ?_
      refine px_iastn rfl rfl (by omega) (by decide) ?_
      refine pw_aload_n rfl rfl ?_
      refine pw_iload_n rfl rfl ?_
      refine pw_aload_n rfl rfl ?_
      refine px_getr (r := some (115)) rfl rfl rfl rfl rfl ?_
      refine pw_iload_n rfl rfl ?_
      refine px_ialdn (x := nI (lw)) rfl rfl (by omega) (by decide) (((up2_ne1 (by decide)).trans ((up2_ne1 (by decide)).trans (up2_ne1 (by decide)))).trans (hlw)) ?_
      refine px_callv (as := [.inr (some (103)), .inl (nI (p)), .inl (nI (lw))]) (rest := []) rfl rfl (by decide) rfl (Nat.le_of_ble_eq_true rfl) (Nat.le_of_ble_eq_true rfl) (Nat.le_of_ble_eq_true rfl) (Nat.le_of_ble_eq_true rfl) rfl rfl rfl rfl ?_
      refine t_trans hp (by omega) (((up2_ne1 (by decide)).trans ((up2_ne1 (by decide)).trans (up2_ne1 (by decide)))).trans (hfl)) hf6 ?_
      show pw pP mSBModel_ring (84, [some (.inr (some (103))), some (.inl (nI (p)))], [], 0, 0, hb (sL L) F (trans_G F (up2 (up2 (up2 G (110) (p) ((nI (2)) * (G (110) (p)))) (111) (p) ((F (103) (3)) + ((nI (2)) * (G (110) (p))))) (107) (p) (nI (3))) p (lw) fl) R sO) _
      exact pw_vret rfl rfl (Nat.zero_le _) (Nat.zero_le _) (by simp only [ring_G, c1, c2, if_true, if_false] at k; exact k)
  · -- 16
    refine pw_bipush (v := nI (120)) rfl (by decide) ?_
    refine pw_goto (t := 29) rfl rfl ?_
    refine px_iastn rfl rfl (by omega) (by decide) ?_
    refine pw_aload_n rfl rfl ?_
    refine px_getr (r := some (111)) rfl rfl rfl rfl rfl ?_
    refine pw_iload_n rfl rfl ?_
    refine pw_aload_n rfl rfl ?_
    refine px_getv (x := F (103) (3)) rfl rfl rfl rfl (rfl) ?_
    refine pw_aload_n rfl rfl ?_
    refine px_getr (r := some (110)) rfl rfl rfl rfl rfl ?_
    refine pw_iload_n rfl rfl ?_
    refine px_ialdn (x := nI (120)) rfl rfl (by omega) (by decide) (up2_eq) ?_
    refine pw_iadd (z := (F (103) (3)) + (nI (120))) rfl rfl ?_
    refine px_iastn rfl rfl (by omega) (by decide) ?_
    refine pw_aload_n rfl rfl ?_
    refine px_getr (r := some (107)) rfl rfl rfl rfl rfl ?_
    refine pw_iload_n rfl rfl ?_
    refine pw_aload_n rfl rfl ?_
    refine px_getr (r := some (107)) rfl rfl rfl rfl rfl ?_
    refine pw_iload_n rfl rfl ?_
    refine px_ialdn (x := G (107) (p)) rfl rfl (by omega) (by decide) ((up2_ne1 (by decide)).trans (up2_ne1 (by decide))) ?_
    refine pw_iconst (v := nI (2)) rfl (by decide) ?_
    refine pw_if2p (A := ¬ G (107) (p) = nI (2)) rfl rfl (t := 66) rfl (fun c3 => ?_) (fun c3 => ?_)
    · -- 66
      refine pw_aload_n rfl rfl ?_
      refine px_getr (r := some (107)) rfl rfl rfl rfl rfl ?_
      refine pw_iload_n rfl rfl ?_
      refine px_ialdn (x := G (107) (p)) rfl rfl (by omega) (by decide) ((up2_ne1 (by decide)).trans (up2_ne1 (by decide))) ?_
      refine px_iastn rfl rfl (by omega) (by decide) ?_
      refine pw_aload_n rfl rfl ?_
      refine pw_iload_n rfl rfl ?_
      refine pw_aload_n rfl rfl ?_
      refine px_getr (r := some (115)) rfl rfl rfl rfl rfl ?_
      refine pw_iload_n rfl rfl ?_
      refine px_ialdn (x := nI (lw)) rfl rfl (by omega) (by decide) (((up2_ne1 (by decide)).trans ((up2_ne1 (by decide)).trans (up2_ne1 (by decide)))).trans (hlw)) ?_
      refine px_callv (as := [.inr (some (103)), .inl (nI (p)), .inl (nI (lw))]) (rest := []) rfl rfl (by decide) rfl (Nat.le_of_ble_eq_true rfl) (Nat.le_of_ble_eq_true rfl) (Nat.le_of_ble_eq_true rfl) (Nat.le_of_ble_eq_true rfl) rfl rfl rfl rfl ?_
      refine t_trans hp (by omega) (((up2_ne1 (by decide)).trans ((up2_ne1 (by decide)).trans (up2_ne1 (by decide)))).trans (hfl)) hf6 ?_
      show pw pP mSBModel_ring (84, [some (.inr (some (103))), some (.inl (nI (p)))], [], 0, 0, hb (sL L) F (trans_G F (up2 (up2 (up2 G (110) (p) (nI (120))) (111) (p) ((F (103) (3)) + (nI (120)))) (107) (p) (G (107) (p))) p (lw) fl) R sO) _
      exact pw_vret rfl rfl (Nat.zero_le _) (Nat.zero_le _) (by simp only [ring_G, c1, c3, if_true, if_false] at k; exact k)
    · -- 62
      refine pw_iconst (v := nI (3)) rfl (by decide) ?_
      refine pw_goto (t := 72) rfl rfl ?_
      refine px_iastn rfl rfl (by omega) (by decide) ?_
      refine pw_aload_n rfl rfl ?_
      refine pw_iload_n rfl rfl ?_
      refine pw_aload_n rfl rfl ?_
      refine px_getr (r := some (115)) rfl rfl rfl rfl rfl ?_
      refine pw_iload_n rfl rfl ?_
      refine px_ialdn (x := nI (lw)) rfl rfl (by omega) (by decide) (((up2_ne1 (by decide)).trans ((up2_ne1 (by decide)).trans (up2_ne1 (by decide)))).trans (hlw)) ?_
      refine px_callv (as := [.inr (some (103)), .inl (nI (p)), .inl (nI (lw))]) (rest := []) rfl rfl (by decide) rfl (Nat.le_of_ble_eq_true rfl) (Nat.le_of_ble_eq_true rfl) (Nat.le_of_ble_eq_true rfl) (Nat.le_of_ble_eq_true rfl) rfl rfl rfl rfl ?_
      refine t_trans hp (by omega) (((up2_ne1 (by decide)).trans ((up2_ne1 (by decide)).trans (up2_ne1 (by decide)))).trans (hfl)) hf6 ?_
      show pw pP mSBModel_ring (84, [some (.inr (some (103))), some (.inl (nI (p)))], [], 0, 0, hb (sL L) F (trans_G F (up2 (up2 (up2 G (110) (p) (nI (120))) (111) (p) ((F (103) (3)) + (nI (120)))) (107) (p) (nI (3))) p (lw) fl) R sO) _
      exact pw_vret rfl rfl (Nat.zero_le _) (Nat.zero_le _) (by simp only [ring_G, c1, c3, if_true, if_false] at k; exact k)
/-- the last of the n numbers from j on where a segment begins that ends at a or before it -/
def tla (G : FN) (p : Nat) (a : Int32) : Nat → Nat → Option Nat → Option Nat
  | 0, _, l => l
  | n + 1, j, l => tla G p a n (j + 1) (if G 119 (402 * p + j) ≤ 0 then l else if a < nI j + G 119 (402 * p + j) then l else some j)
/-- none as -1 -/
def oI (l : Option Nat) : Int32 := match l with
  | none => -1
  | some l => nI l
theorem t_atA_lp {L p hi : Nat} {wh a b c : Int32} {F G : FN} {R : RN} {Q : Option PV → PH → Prop} (hp : p < 4) (hhi : G 116 p = nI hi) (hh : hi ≤ 402) : ∀ (n j : Nat) (l : Option Nat) (o8 : Option PV), j + n = hi → (∀ o, pw pP mSBModel_atA (116, [some (.inr (some (103))), some (.inl (nI (p))), some (.inl (wh)), some (.inl (a)), some (.inl (b)), some (.inl (c)), some (.inl (oI (tla G p a n j l))), some (.inl (nI (hi))), o], [], 0, 0, hb (sL L) F G R sO) Q) → pw pP mSBModel_atA (66, [some (.inr (some (103))), some (.inl (nI (p))), some (.inl (wh)), some (.inl (a)), some (.inl (b)), some (.inl (c)), some (.inl (oI l)), some (.inl (nI (j))), o8], [], 0, 0, hb (sL L) F G R sO) Q := by
  intro n
  induction n with
  | zero =>
    intro j l o8 hn k
    have e : hi = j := by omega
    subst e
    refine pw_iload rfl rfl ?_
    refine pw_aload_n rfl rfl ?_
    refine px_getr (r := some (116)) rfl rfl rfl rfl rfl ?_
    refine pw_iload_n rfl rfl ?_
    refine px_ialdn (x := nI (hi)) rfl rfl (by omega) (by decide) (hhi) ?_
    refine pw_if2p (cn_ge (by omega) (by omega)) rfl (t := 116) rfl (fun c1 => ?_) (fun c1 => ?_)
    · -- 116
      exact k _
    · -- 77
      exact absurd c1 (by omega)
  | succ n ih =>
    intro j l o8 hn k
    refine pw_iload rfl rfl ?_
    refine pw_aload_n rfl rfl ?_
    refine px_getr (r := some (116)) rfl rfl rfl rfl rfl ?_
    refine pw_iload_n rfl rfl ?_
    refine px_ialdn (x := nI (hi)) rfl rfl (by omega) (by decide) (hhi) ?_
    refine pw_if2p (cn_ge (by omega) (by omega)) rfl (t := 116) rfl (fun c1 => ?_) (fun c1 => ?_)
    · -- 116
      exact absurd c1 (by omega)
    · -- 77
      refine pw_aload_n rfl rfl ?_
      refine px_getr (r := some (119)) rfl rfl rfl rfl rfl ?_
      refine pw_sipush (v := nI (402)) rfl (by decide) ?_
      refine pw_iload_n rfl rfl ?_
      refine pw_imul (z := nI (402 * p)) rfl (pk_mul _ _) ?_
      refine pw_iload rfl rfl ?_
      refine pw_iadd (z := nI (402 * p + j)) rfl (nI_add _ _) ?_
      refine px_ialdn (x := G (119) (402 * p + j)) rfl rfl (by omega) (by decide) (rfl) ?_
      refine pw_istore (ls1 := [some (.inr (some (103))), some (.inl (nI (p))), some (.inl (wh)), some (.inl (a)), some (.inl (b)), some (.inl (c)), some (.inl (oI l)), some (.inl (nI (j))), some (.inl (G (119) (402 * p + j)))]) rfl (Nat.le_of_ble_eq_true rfl) rfl ?_
      refine pw_iload rfl rfl ?_
      refine pw_if1p (A := G (119) (402 * p + j) ≤ 0) rfl rfl (t := 110) rfl (fun c2 => ?_) (fun c2 => ?_)
      · -- 110
        refine pw_iinc (v := nI (j + 1)) (ls1 := [some (.inr (some (103))), some (.inl (nI (p))), some (.inl (wh)), some (.inl (a)), some (.inl (b)), some (.inl (c)), some (.inl (oI l)), some (.inl (nI (j + 1))), some (.inl (G (119) (402 * p + j)))]) rfl rfl (iinc_n _) rfl ?_
        refine pw_goto (t := 66) rfl rfl ?_
        exact ih (j + 1) l _ (by omega) (fun o => by have k := k o; simp only [tla, c2, if_true, if_false] at k; exact k)
      · -- 97
        refine pw_iload rfl rfl ?_
        refine pw_iload rfl rfl ?_
        refine pw_iadd (z := (nI (j)) + (G (119) (402 * p + j))) rfl rfl ?_
        refine pw_iload_n rfl rfl ?_
        refine pw_if2p (A := a < (nI (j)) + (G (119) (402 * p + j))) rfl rfl (t := 110) rfl (fun c3 => ?_) (fun c3 => ?_)
        · -- 110
          refine pw_iinc (v := nI (j + 1)) (ls1 := [some (.inr (some (103))), some (.inl (nI (p))), some (.inl (wh)), some (.inl (a)), some (.inl (b)), some (.inl (c)), some (.inl (oI l)), some (.inl (nI (j + 1))), some (.inl (G (119) (402 * p + j)))]) rfl rfl (iinc_n _) rfl ?_
          refine pw_goto (t := 66) rfl rfl ?_
          exact ih (j + 1) l _ (by omega) (fun o => by have k := k o; simp only [tla, c2, c3, if_true, if_false] at k; exact k)
        · -- 106
          refine pw_iload rfl rfl ?_
          refine pw_istore (ls1 := [some (.inr (some (103))), some (.inl (nI (p))), some (.inl (wh)), some (.inl (a)), some (.inl (b)), some (.inl (c)), some (.inl (nI (j))), some (.inl (nI (j))), some (.inl (G (119) (402 * p + j)))]) rfl (Nat.le_of_ble_eq_true rfl) rfl ?_
          refine pw_iinc (v := nI (j + 1)) (ls1 := [some (.inr (some (103))), some (.inl (nI (p))), some (.inl (wh)), some (.inl (a)), some (.inl (b)), some (.inl (c)), some (.inl (nI (j))), some (.inl (nI (j + 1))), some (.inl (G (119) (402 * p + j)))]) rfl rfl (iinc_n _) rfl ?_
          refine pw_goto (t := 66) rfl rfl ?_
          exact ih (j + 1) (some j) _ (by omega) (fun o => by have k := k o; simp only [tla, c2, c3, if_true, if_false] at k; exact k)
def aeF (F : FN) : FN := (up2 F (103) (25) (nI (1)))
def aeG (F G : FN) (p l : Nat) : FN := (if ¬ G (121) (402 * p + l) = nI (1) then (if ¬ (nI (l)) + (G (119) (402 * p + l)) = G (116) (p) then (up2 (up2 (up2 G (115) (p) ((nI (l)) + (G (119) (402 * p + l)))) (107) (p) (nI (2))) (111) (p) ((F (103) (3)) + (G (110) (p)))) else (up2 (up2 (up2 G (115) (p) ((nI (l)) + (G (119) (402 * p + l)))) (107) (p) (nI (2))) (111) (p) (nI (0)))) else (if ¬ (meas_G (up2 G (115) (p) ((nI (l)) + (G (119) (402 * p + l)))) p ((F (103) (3)) - (G (120) (402 * p + l)))) (115) (p) = (meas_G (up2 G (115) (p) ((nI (l)) + (G (119) (402 * p + l)))) p ((F (103) (3)) - (G (120) (402 * p + l)))) (116) (p) then (up2 (up2 (meas_G (up2 G (115) (p) ((nI (l)) + (G (119) (402 * p + l)))) p ((F (103) (3)) - (G (120) (402 * p + l)))) (107) (p) (nI (2))) (111) (p) ((F (103) (3)) + ((meas_G (up2 G (115) (p) ((nI (l)) + (G (119) (402 * p + l)))) p ((F (103) (3)) - (G (120) (402 * p + l)))) (110) (p)))) else (up2 (up2 (meas_G (up2 G (115) (p) ((nI (l)) + (G (119) (402 * p + l)))) p ((F (103) (3)) - (G (120) (402 * p + l)))) (107) (p) (nI (2))) (111) (p) (nI (0)))))
theorem t_atA_end {L p l hi : Nat} {wh a b c : Int32} {F G : FN} {R : RN} {o : Option PV} {Q : Option PV → PH → Prop} (hp : p < 4) (hl : l < 402) (k : Q none (hb (sL L) (aeF F) (aeG F G p l) R sO)) : pw pP mSBModel_atA (116, [some (.inr (some (103))), some (.inl (nI (p))), some (.inl (wh)), some (.inl (a)), some (.inl (b)), some (.inl (c)), some (.inl (nI (l))), some (.inl (nI (hi))), o], [], 0, 0, hb (sL L) F G R sO) Q := by
  refine pw_iload rfl rfl ?_
  refine pw_if1p (cz_ge (by omega)) rfl (t := 122) rfl (fun _ => ?_) (fun q => absurd (by omega) q)
  refine pw_sipush (v := nI (402)) rfl (by decide) ?_
  refine pw_iload_n rfl rfl ?_
  refine pw_imul (z := nI (402 * p)) rfl (pk_mul _ _) ?_
  refine pw_iload rfl rfl ?_
  refine pw_iadd (z := nI (402 * p + l)) rfl (nI_add _ _) ?_
  refine pw_istore (ls1 := [some (.inr (some (103))), some (.inl (nI (p))), some (.inl (wh)), some (.inl (a)), some (.inl (b)), some (.inl (c)), some (.inl (nI (l))), some (.inl (nI (402 * p + l))), o]) rfl (Nat.le_of_ble_eq_true rfl) rfl ?_
  refine pw_aload_n rfl rfl ?_
  refine px_getr (r := some (115)) rfl rfl rfl rfl rfl ?_
  refine pw_iload_n rfl rfl ?_
  refine pw_iload rfl rfl ?_
  refine pw_aload_n rfl rfl ?_
  refine px_getr (r := some (119)) rfl rfl rfl rfl rfl ?_
  refine pw_iload rfl rfl ?_
  refine px_ialdn (x := G (119) (402 * p + l)) rfl rfl (by omega) (by decide) (rfl) ?_
  refine pw_iadd (z := (nI (l)) + (G (119) (402 * p + l))) rfl rfl ?_
  refine px_iastn rfl rfl (by omega) (by decide) ?_
  refine pw_aload_n rfl rfl ?_
  refine px_getr (r := some (121)) rfl rfl rfl rfl rfl ?_
  refine pw_iload rfl rfl ?_
  refine px_ialdn (x := G (121) (402 * p + l)) rfl rfl (by omega) (by decide) (up2_ne1 (by decide)) ?_
  refine pw_iconst (v := nI (1)) rfl (by decide) ?_
  refine pw_if2p (A := ¬ G (121) (402 * p + l) = nI (1)) rfl rfl (t := 176) rfl (fun c1 => ?_) (fun c1 => ?_)
  · -- 176
    refine pw_aload_n rfl rfl ?_
    refine px_getr (r := some (107)) rfl rfl rfl rfl rfl ?_
    refine pw_iload_n rfl rfl ?_
    refine pw_iconst (v := nI (2)) rfl (by decide) ?_
    refine px_iastn rfl rfl (by omega) (by decide) ?_
    refine pw_aload_n rfl rfl ?_
    refine pw_iconst (v := nI (1)) rfl (by decide) ?_
    refine px_put rfl rfl rfl rfl rfl ?_
    refine pw_aload_n rfl rfl ?_
    refine px_getr (r := some (111)) rfl rfl rfl rfl rfl ?_
    refine pw_iload_n rfl rfl ?_
    refine pw_aload_n rfl rfl ?_
    refine px_getr (r := some (115)) rfl rfl rfl rfl rfl ?_
    refine pw_iload_n rfl rfl ?_
    refine px_ialdn (x := (nI (l)) + (G (119) (402 * p + l))) rfl rfl (by omega) (by decide) ((up2_ne1 (by decide)).trans (up2_eq)) ?_
    refine pw_aload_n rfl rfl ?_
    refine px_getr (r := some (116)) rfl rfl rfl rfl rfl ?_
    refine pw_iload_n rfl rfl ?_
    refine px_ialdn (x := G (116) (p)) rfl rfl (by omega) (by decide) ((up2_ne1 (by decide)).trans (up2_ne1 (by decide))) ?_
    refine pw_if2p (A := ¬ (nI (l)) + (G (119) (402 * p + l)) = G (116) (p)) rfl rfl (t := 212) rfl (fun c2 => ?_) (fun c2 => ?_)
    · -- 212
      refine pw_aload_n rfl rfl ?_
      refine px_getv (x := F (103) (3)) rfl rfl rfl rfl (up2_ne2 (by decide)) ?_
      refine pw_aload_n rfl rfl ?_
      refine px_getr (r := some (110)) rfl rfl rfl rfl rfl ?_
      refine pw_iload_n rfl rfl ?_
      refine px_ialdn (x := G (110) (p)) rfl rfl (by omega) (by decide) ((up2_ne1 (by decide)).trans (up2_ne1 (by decide))) ?_
      refine pw_iadd (z := (F (103) (3)) + (G (110) (p))) rfl rfl ?_
      refine px_iastn rfl rfl (by omega) (by decide) ?_
      exact pw_vret rfl rfl (Nat.zero_le _) (Nat.zero_le _) (by simp only [aeG, c1, c2, if_true, if_false] at k; exact k)
    · -- 208
      refine pw_iconst (v := nI (0)) rfl (by decide) ?_
      refine pw_goto (t := 223) rfl rfl ?_
      refine px_iastn rfl rfl (by omega) (by decide) ?_
      exact pw_vret rfl rfl (Nat.zero_le _) (Nat.zero_le _) (by simp only [aeG, c1, c2, if_true, if_false] at k; exact k)
  · -- 159
    refine pw_aload_n rfl rfl ?_
    refine pw_iload_n rfl rfl ?_
    refine pw_aload_n rfl rfl ?_
    refine px_getv (x := F (103) (3)) rfl rfl rfl rfl (rfl) ?_
    refine pw_aload_n rfl rfl ?_
    refine px_getr (r := some (120)) rfl rfl rfl rfl rfl ?_
    refine pw_iload rfl rfl ?_
    refine px_ialdn (x := G (120) (402 * p + l)) rfl rfl (by omega) (by decide) (up2_ne1 (by decide)) ?_
    refine pw_isub (z := (F (103) (3)) - (G (120) (402 * p + l))) rfl rfl ?_
    refine px_callv (as := [.inr (some (103)), .inl (nI (p)), .inl ((F (103) (3)) - (G (120) (402 * p + l)))]) (rest := []) rfl rfl (by decide) rfl (Nat.le_of_ble_eq_true rfl) (Nat.le_of_ble_eq_true rfl) (Nat.le_of_ble_eq_true rfl) (Nat.le_of_ble_eq_true rfl) rfl rfl rfl rfl ?_
    refine t_meas hp ?_
    show pw pP mSBModel_atA (176, [some (.inr (some (103))), some (.inl (nI (p))), some (.inl (wh)), some (.inl (a)), some (.inl (b)), some (.inl (c)), some (.inl (nI (l))), some (.inl (nI (402 * p + l))), o], [], 0, 0, hb (sL L) F (meas_G (up2 G (115) (p) ((nI (l)) + (G (119) (402 * p + l)))) p ((F (103) (3)) - (G (120) (402 * p + l)))) R sO) _
    refine pw_aload_n rfl rfl ?_
    refine px_getr (r := some (107)) rfl rfl rfl rfl rfl ?_
    refine pw_iload_n rfl rfl ?_
    refine pw_iconst (v := nI (2)) rfl (by decide) ?_
    refine px_iastn rfl rfl (by omega) (by decide) ?_
    refine pw_aload_n rfl rfl ?_
    refine pw_iconst (v := nI (1)) rfl (by decide) ?_
    refine px_put rfl rfl rfl rfl rfl ?_
    refine pw_aload_n rfl rfl ?_
    refine px_getr (r := some (111)) rfl rfl rfl rfl rfl ?_
    refine pw_iload_n rfl rfl ?_
    refine pw_aload_n rfl rfl ?_
    refine px_getr (r := some (115)) rfl rfl rfl rfl rfl ?_
    refine pw_iload_n rfl rfl ?_
    refine px_ialdn (x := (meas_G (up2 G (115) (p) ((nI (l)) + (G (119) (402 * p + l)))) p ((F (103) (3)) - (G (120) (402 * p + l)))) (115) (p)) rfl rfl (by omega) (by decide) (up2_ne1 (by decide)) ?_
    refine pw_aload_n rfl rfl ?_
    refine px_getr (r := some (116)) rfl rfl rfl rfl rfl ?_
    refine pw_iload_n rfl rfl ?_
    refine px_ialdn (x := (meas_G (up2 G (115) (p) ((nI (l)) + (G (119) (402 * p + l)))) p ((F (103) (3)) - (G (120) (402 * p + l)))) (116) (p)) rfl rfl (by omega) (by decide) (up2_ne1 (by decide)) ?_
    refine pw_if2p (A := ¬ (meas_G (up2 G (115) (p) ((nI (l)) + (G (119) (402 * p + l)))) p ((F (103) (3)) - (G (120) (402 * p + l)))) (115) (p) = (meas_G (up2 G (115) (p) ((nI (l)) + (G (119) (402 * p + l)))) p ((F (103) (3)) - (G (120) (402 * p + l)))) (116) (p)) rfl rfl (t := 212) rfl (fun c3 => ?_) (fun c3 => ?_)
    · -- 212
      refine pw_aload_n rfl rfl ?_
      refine px_getv (x := F (103) (3)) rfl rfl rfl rfl (up2_ne2 (by decide)) ?_
      refine pw_aload_n rfl rfl ?_
      refine px_getr (r := some (110)) rfl rfl rfl rfl rfl ?_
      refine pw_iload_n rfl rfl ?_
      refine px_ialdn (x := (meas_G (up2 G (115) (p) ((nI (l)) + (G (119) (402 * p + l)))) p ((F (103) (3)) - (G (120) (402 * p + l)))) (110) (p)) rfl rfl (by omega) (by decide) (up2_ne1 (by decide)) ?_
      refine pw_iadd (z := (F (103) (3)) + ((meas_G (up2 G (115) (p) ((nI (l)) + (G (119) (402 * p + l)))) p ((F (103) (3)) - (G (120) (402 * p + l)))) (110) (p))) rfl rfl ?_
      refine px_iastn rfl rfl (by omega) (by decide) ?_
      exact pw_vret rfl rfl (Nat.zero_le _) (Nat.zero_le _) (by simp only [aeG, c1, c3, if_true, if_false] at k; exact k)
    · -- 208
      refine pw_iconst (v := nI (0)) rfl (by decide) ?_
      refine pw_goto (t := 223) rfl rfl ?_
      refine px_iastn rfl rfl (by omega) (by decide) ?_
      exact pw_vret rfl rfl (Nat.zero_le _) (Nat.zero_le _) (by simp only [aeG, c1, c3, if_true, if_false] at k; exact k)
theorem t_atA_none {L p hi : Nat} {wh a b c : Int32} {F G : FN} {R : RN} {o : Option PV} {Q : Option PV → PH → Prop} (k : Q none (hb (sL L) F G R sO)) : pw pP mSBModel_atA (116, [some (.inr (some (103))), some (.inl (nI (p))), some (.inl (wh)), some (.inl (a)), some (.inl (b)), some (.inl (c)), some (.inl (oI none)), some (.inl (nI (hi))), o], [], 0, 0, hb (sL L) F G R sO) Q := by
  refine pw_iload rfl rfl ?_
  refine pw_if1p (A := 0 ≤ oI none) rfl rfl (t := 122) rfl (fun q => absurd q (by decide)) (fun _ => ?_)
  exact pw_vret rfl rfl (Nat.zero_le _) (Nat.zero_le _) k
def a5F (F G : FN) (p : Nat) (a : Int32) (lw hi : Nat) : FN := match tla G p a (hi - lw) lw none with
  | none => F
  | some _ => aeF F
def a5G (F G : FN) (p : Nat) (a : Int32) (lw hi : Nat) : FN := match tla G p a (hi - lw) lw none with
  | none => G
  | some l => aeG F G p l
theorem tla_lt {G : FN} {p : Nat} {a : Int32} {m : Nat} : ∀ (n j : Nat) (l : Option Nat), j + n ≤ m → (∀ x, l = some x → x < m) → ∀ x, tla G p a n j l = some x → x < m
  | 0, _, _, _, hl, x, e => hl x e
  | n + 1, j, l, hn, hl, x, e => by
    refine tla_lt n (j + 1) _ (by omega) ?_ x e
    intro y hy
    split at hy
    · exact hl y hy
    · split at hy
      · exact hl y hy
      · cases hy
        omega
theorem t_atA_55 {L p lw hi : Nat} {wh a b c : Int32} {F G : FN} {R : RN} {Q : Option PV → PH → Prop} (hp : p < 4) (hlw : G 115 p = nI lw) (hhi : G 116 p = nI hi) (hlh : lw ≤ hi) (hh : hi ≤ 402) (k : Q none (hb (sL L) (a5F F G p a lw hi) (a5G F G p a lw hi) R sO)) : pw pP mSBModel_atA (55, [some (.inr (some (103))), some (.inl (nI (p))), some (.inl (wh)), some (.inl (a)), some (.inl (b)), some (.inl (c)), none, none, none], [], 0, 0, hb (sL L) F G R sO) Q := by
  refine pw_iconst (v := (-1)) rfl (by decide) ?_
  refine pw_istore (ls1 := [some (.inr (some (103))), some (.inl (nI (p))), some (.inl (wh)), some (.inl (a)), some (.inl (b)), some (.inl (c)), some (.inl ((-1))), none, none]) rfl (Nat.le_of_ble_eq_true rfl) rfl ?_
  refine pw_aload_n rfl rfl ?_
  refine px_getr (r := some (115)) rfl rfl rfl rfl rfl ?_
  refine pw_iload_n rfl rfl ?_
  refine px_ialdn (x := nI (lw)) rfl rfl (by omega) (by decide) (hlw) ?_
  refine pw_istore (ls1 := [some (.inr (some (103))), some (.inl (nI (p))), some (.inl (wh)), some (.inl (a)), some (.inl (b)), some (.inl (c)), some (.inl ((-1))), some (.inl (nI (lw))), none]) rfl (Nat.le_of_ble_eq_true rfl) rfl ?_
  refine t_atA_lp hp hhi hh (hi - lw) lw none _ (by omega) (fun o => ?_)
  cases e : tla G p a (hi - lw) lw none with
  | none =>
    simp only [a5F, a5G, e] at k
    exact t_atA_none k
  | some l =>
    simp only [a5F, a5G, e] at k
    exact t_atA_end hp (Nat.lt_of_lt_of_le (tla_lt (m := hi) (hi - lw) lw none (by omega) (fun x h => by cases h) l e) hh) k
def akF (F : FN) (b c : Int32) : FN := up2 (up2 F 103 22 (if b ≤ F 103 22 then F 103 22 else b)) 103 23 (if c ≤ F 103 23 then F 103 23 else c)
theorem t_atA {L p lw hi : Nat} {wh a b c : Int32} {F G : FN} {R : RN} (hw : ¬ wh = nI 3) (hp : p < 4) (hlw : G 115 p = nI lw) (hhi : G 116 p = nI hi) (hlh : lw ≤ hi) (hh : hi ≤ 402) {Q : Option PV → PH → Prop} (k : Q none (hb (sL L) (a5F (akF F b c) G p a lw hi) (a5G (akF F b c) G p a lw hi) R sO)) : pz pP mSBModel_atA [.inr (some (103)), .inl (nI (p)), .inl (wh), .inl (a), .inl (b), .inl (c)] (hb (sL L) F G R sO) Q := by
  show pw pP mSBModel_atA (0, [some (.inr (some (103))), some (.inl (nI (p))), some (.inl (wh)), some (.inl (a)), some (.inl (b)), some (.inl (c)), none, none, none], [], 0, 0, hb (sL L) F G R sO) _
  refine pw_iload_n rfl rfl ?_
  refine pw_iconst (v := nI (3)) rfl (by decide) ?_
  refine pw_if2p (A := ¬ wh = nI (3)) rfl rfl (t := 11) rfl (fun _ => ?_) (fun q => absurd hw q)
  refine pw_aload_n rfl rfl ?_
  refine pw_iload rfl rfl ?_
  refine pw_aload_n rfl rfl ?_
  refine px_getv (x := F (103) (22)) rfl rfl rfl rfl (rfl) ?_
  refine pw_if2p (A := b ≤ F (103) (22)) rfl rfl (t := 26) rfl (fun c1 => ?_) (fun c1 => ?_)
  · -- 26
    refine pw_aload_n rfl rfl ?_
    refine px_getv (x := F (103) (22)) rfl rfl rfl rfl (rfl) ?_
    refine px_put rfl rfl rfl rfl rfl ?_
    refine pw_aload_n rfl rfl ?_
    refine pw_iload rfl rfl ?_
    refine pw_aload_n rfl rfl ?_
    refine px_getv (x := F (103) (23)) rfl rfl rfl rfl (up2_ne2 (by decide)) ?_
    refine pw_if2p (A := c ≤ F (103) (23)) rfl rfl (t := 48) rfl (fun c2 => ?_) (fun c2 => ?_)
    · -- 48
      refine pw_aload_n rfl rfl ?_
      refine px_getv (x := F (103) (23)) rfl rfl rfl rfl (up2_ne2 (by decide)) ?_
      refine px_put rfl rfl rfl rfl rfl ?_
      have e : akF F b c = (up2 (up2 F (103) (22) (F (103) (22))) (103) (23) (F (103) (23))) := by simp only [akF, c1, c2, if_true, if_false]
      rw [e] at k
      exact t_atA_55 hp hlw hhi hlh hh k
    · -- 43
      refine pw_iload rfl rfl ?_
      refine pw_goto (t := 52) rfl rfl ?_
      refine px_put rfl rfl rfl rfl rfl ?_
      have e : akF F b c = (up2 (up2 F (103) (22) (F (103) (22))) (103) (23) (c)) := by simp only [akF, c1, c2, if_true, if_false]
      rw [e] at k
      exact t_atA_55 hp hlw hhi hlh hh k
  · -- 21
    refine pw_iload rfl rfl ?_
    refine pw_goto (t := 30) rfl rfl ?_
    refine px_put rfl rfl rfl rfl rfl ?_
    refine pw_aload_n rfl rfl ?_
    refine pw_iload rfl rfl ?_
    refine pw_aload_n rfl rfl ?_
    refine px_getv (x := F (103) (23)) rfl rfl rfl rfl (up2_ne2 (by decide)) ?_
    refine pw_if2p (A := c ≤ F (103) (23)) rfl rfl (t := 48) rfl (fun c3 => ?_) (fun c3 => ?_)
    · -- 48
      refine pw_aload_n rfl rfl ?_
      refine px_getv (x := F (103) (23)) rfl rfl rfl rfl (up2_ne2 (by decide)) ?_
      refine px_put rfl rfl rfl rfl rfl ?_
      have e : akF F b c = (up2 (up2 F (103) (22) (b)) (103) (23) (F (103) (23))) := by simp only [akF, c1, c3, if_true, if_false]
      rw [e] at k
      exact t_atA_55 hp hlw hhi hlh hh k
    · -- 43
      refine pw_iload rfl rfl ?_
      refine pw_goto (t := 52) rfl rfl ?_
      refine px_put rfl rfl rfl rfl rfl ?_
      have e : akF F b c = (up2 (up2 F (103) (22) (b)) (103) (23) (c)) := by simp only [akF, c1, c3, if_true, if_false]
      rw [e] at k
      exact t_atA_55 hp hlw hhi hlh hh k
/-- SBModel_atA -/
def atA3_G (G : FN) (p : Nat) : FN := (shut_G G p)
theorem t_atA3 {L p : Nat} {a b c : Int32} {F G : FN} {R : RN} (hp : p < 4) {Q : Option PV → PH → Prop} (k : Q none (hb (sL L) F (atA3_G G p) R sO)) : pz pP mSBModel_atA [.inr (some (103)), .inl (nI (p)), .inl (nI (3)), .inl (a), .inl (b), .inl (c)] (hb (sL L) F G R sO) Q := by
  show pw pP mSBModel_atA (0, [some (.inr (some (103))), some (.inl (nI (p))), some (.inl (nI (3))), some (.inl (a)), some (.inl (b)), some (.inl (c)), none, none, none], [], 0, 0, hb (sL L) F G R sO) _
  refine pw_iload_n rfl rfl ?_
  refine pw_iconst (v := nI (3)) rfl (by decide) ?_
  refine pw_if2 (t := 11) rfl rfl (fun q => absurd q (by decide)) (fun _ => ?_)
  refine pw_aload_n rfl rfl ?_
  refine pw_iload_n rfl rfl ?_
  refine px_callv (as := [.inr (some (103)), .inl (nI (p))]) (rest := []) rfl rfl (by decide) rfl (Nat.le_of_ble_eq_true rfl) (Nat.le_of_ble_eq_true rfl) (Nat.le_of_ble_eq_true rfl) (Nat.le_of_ble_eq_true rfl) rfl rfl rfl rfl ?_
  refine t_shut hp ?_
  show pw pP mSBModel_atA (10, [some (.inr (some (103))), some (.inl (nI (p))), some (.inl (nI (3))), some (.inl (a)), some (.inl (b)), some (.inl (c)), none, none, none], [], 0, 0, hb (sL L) F (shut_G G p) R sO) _
  exact pw_vret rfl rfl (Nat.zero_le _) (Nat.zero_le _) k
