/-! THE REFERENCE, second part: loops and calls. Rows laid by a program (wip/whole/gen/twin2.py). -/
/-- the first of k places from u on that holds 0 -/
def lead (f : Nat → Int32) : Nat → Nat → Nat
  | 0, u => u
  | k + 1, u => if f u = 0 then u else lead f k (u + 1)
theorem lead_z {f : Nat → Int32} {k u : Nat} (h : f u = 0) : lead f (k + 1) u = u := by simp only [lead, if_pos h]
theorem lead_s {f : Nat → Int32} {k u : Nat} (h : ¬ f u = 0) : lead f (k + 1) u = lead f k (u + 1) := by simp only [lead, if_neg h]
theorem t_received_lp {L : Nat} {F G : FN} {R : RN} {Q : Option PV → PH → Prop} : ∀ n u : Nat, u + n = 401 → Q (some (.inl (nI (lead (G 106) n u)))) (hb (sL L) F G R sO) → pw pP mSBModel_received (2, [some (.inr (some (103))), some (.inl (nI (u)))], [], 0, 0, hb (sL L) F G R sO) Q := by
  intro n
  induction n with
  | zero =>
    intro u hn k
    refine pw_iload_n rfl rfl ?_
    refine pw_sipush (v := nI (401)) rfl (by decide) ?_
    refine pw_if2p (cn_ge (by omega) (by omega)) rfl (t := 24) rfl (fun c1 => ?_) (fun c1 => ?_)
    · -- 24
      refine pw_iload_n rfl rfl ?_
      exact pw_iret rfl rfl (Nat.zero_le _) (Nat.zero_le _) rfl k
    · -- 9
      exact absurd c1 (by omega)
  | succ n ih =>
    intro u hn k
    refine pw_iload_n rfl rfl ?_
    refine pw_sipush (v := nI (401)) rfl (by decide) ?_
    refine pw_if2p (cn_ge (by omega) (by omega)) rfl (t := 24) rfl (fun c1 => ?_) (fun c1 => ?_)
    · -- 24
      refine pw_iload_n rfl rfl ?_
      exact absurd c1 (by omega)
    · -- 9
      refine pw_aload_n rfl rfl ?_
      refine px_getr (r := some (106)) rfl rfl rfl rfl rfl ?_
      refine pw_iload_n rfl rfl ?_
      refine px_zaldn (x := G (106) (u)) rfl rfl (by omega) (by decide) (rfl) ?_
      refine pw_if1p (A := G (106) (u) = 0) rfl rfl (t := 24) rfl (fun c2 => ?_) (fun c2 => ?_)
      · -- 24
        refine pw_iload_n rfl rfl ?_
        exact pw_iret rfl rfl (Nat.zero_le _) (Nat.zero_le _) rfl (by rw [lead_z c2] at k; exact k)
      · -- 18
        refine pw_iinc (v := nI (u + 1)) (ls1 := [some (.inr (some (103))), some (.inl (nI (u + 1)))]) rfl rfl (iinc_n _) rfl ?_
        refine pw_goto (t := 2) rfl rfl ?_
        exact ih (u + 1) (by omega) (by rw [lead_s c2] at k; exact k)
theorem t_received {L : Nat} {F G : FN} {R : RN} {Q : Option PV → PH → Prop} (k : Q (some (.inl (nI (lead (G 106) 401 0)))) (hb (sL L) F G R sO)) : pz pP mSBModel_received [.inr (some (103))] (hb (sL L) F G R sO) Q := by
  show pw pP mSBModel_received (0, [some (.inr (some (103))), none], [], 0, 0, hb (sL L) F G R sO) _
  refine pw_iconst (v := nI (0)) rfl (by decide) ?_
  refine pw_istore_n (ls1 := [some (.inr (some (103))), some (.inl (nI (0)))]) rfl (Nat.le_of_ble_eq_true rfl) rfl ?_
  exact t_received_lp 401 0 rfl k
/-- the stream's length -/
def tlen (F : FN) : Int32 := if F 103 6 = 0 then F 103 5 else F 103 5 + nI 1
theorem t_length {L : Nat} {F G : FN} {R : RN} {Q : Option PV → PH → Prop} (k : Q (some (.inl (tlen F))) (hb (sL L) F G R sO)) : pz pP mSBModel_length [.inr (some (103))] (hb (sL L) F G R sO) Q := by
  show pw pP mSBModel_length (0, [some (.inr (some (103)))], [], 0, 0, hb (sL L) F G R sO) _
  refine pw_aload_n rfl rfl ?_
  refine px_getv (x := F (103) (6)) rfl rfl rfl rfl (rfl) ?_
  refine pw_if1p (A := F (103) (6) = 0) rfl rfl (t := 16) rfl (fun c1 => ?_) (fun c1 => ?_)
  · -- 16
    refine pw_aload_n rfl rfl ?_
    refine px_getv (x := F (103) (5)) rfl rfl rfl rfl (rfl) ?_
    exact pw_iret rfl rfl (Nat.zero_le _) (Nat.zero_le _) rfl (by simp only [tlen, c1, if_true, if_false] at k; exact k)
  · -- 7
    refine pw_aload_n rfl rfl ?_
    refine px_getv (x := F (103) (5)) rfl rfl rfl rfl (rfl) ?_
    refine pw_iconst (v := nI (1)) rfl (by decide) ?_
    refine pw_iadd (z := (F (103) (5)) + (nI (1))) rfl rfl ?_
    refine pw_goto (t := 20) rfl rfl ?_
    exact pw_iret rfl rfl (Nat.zero_le _) (Nat.zero_le _) rfl (by simp only [tlen, c1, if_true, if_false] at k; exact k)
def tship (F G : FN) (q fl : Nat) (x1 x2 x3 x4 x5 : Int32) : FN := if G 108 (q / 2) = 0 then G else if 6 ≤ fl then G else tput G q fl x1 x2 x3 x4 x5 (F 103 3 + G 108 (q / 2))
theorem t_ship {L q fl : Nat} {x1 x2 x3 x4 x5 : Int32} {F G : FN} {R : RN} (hq : q < 8) (hfl : G 124 q = nI fl) (hf : fl ≤ 6) {Q : Option PV → PH → Prop} (k : Q none (hb (sL L) F (tship F G q fl x1 x2 x3 x4 x5) R sO)) : pz pP mSBModel_ship [.inr (some (103)), .inl (nI (q)), .inl (x1), .inl (x2), .inl (x3), .inl (x4), .inl (x5)] (hb (sL L) F G R sO) Q := by
  show pw pP mSBModel_ship (0, [some (.inr (some (103))), some (.inl (nI (q))), some (.inl (x1)), some (.inl (x2)), some (.inl (x3)), some (.inl (x4)), some (.inl (x5)), none], [], 0, 0, hb (sL L) F G R sO) _
  refine pw_aload_n rfl rfl ?_
  refine px_getr (r := some (108)) rfl rfl rfl rfl rfl ?_
  refine pw_iload_n rfl rfl ?_
  refine pw_iconst (v := nI (2)) rfl (by decide) ?_
  refine pw_idiv (z := nI (q / 2)) rfl (nI_ne0 (by omega) (by omega)) (pk_div (by omega) (by omega) (by omega)) ?_
  refine px_ialdn (x := G (108) (q / 2)) rfl rfl (by omega) (by decide) (rfl) ?_
  refine pw_istore (ls1 := [some (.inr (some (103))), some (.inl (nI (q))), some (.inl (x1)), some (.inl (x2)), some (.inl (x3)), some (.inl (x4)), some (.inl (x5)), some (.inl (G (108) (q / 2)))]) rfl (Nat.le_of_ble_eq_true rfl) rfl ?_
  refine pw_iload rfl rfl ?_
  refine pw_if1p (A := G (108) (q / 2) = 0) rfl rfl (t := 46) rfl (fun c1 => ?_) (fun c1 => ?_)
  · -- 46
    exact pw_vret rfl rfl (Nat.zero_le _) (Nat.zero_le _) (by simp only [tship, c1, if_true, if_false] at k; exact k)
  · -- 15
    refine pw_aload_n rfl rfl ?_
    refine px_getr (r := some (124)) rfl rfl rfl rfl rfl ?_
    refine pw_iload_n rfl rfl ?_
    refine px_ialdn (x := nI (fl)) rfl rfl (by omega) (by decide) (hfl) ?_
    refine pw_bipush (v := nI (6)) rfl (by decide) ?_
    refine pw_if2p (cn_ge (by omega) (by omega)) rfl (t := 46) rfl (fun c2 => ?_) (fun c2 => ?_)
    · -- 46
      exact pw_vret rfl rfl (Nat.zero_le _) (Nat.zero_le _) (by simp only [tship, c1, c2, if_true, if_false] at k; exact k)
    · -- 26
      refine pw_aload_n rfl rfl ?_
      refine pw_iload_n rfl rfl ?_
      refine pw_iload_n rfl rfl ?_
      refine pw_iload_n rfl rfl ?_
      refine pw_iload rfl rfl ?_
      refine pw_iload rfl rfl ?_
      refine pw_iload rfl rfl ?_
      refine pw_aload_n rfl rfl ?_
      refine px_getv (x := F (103) (3)) rfl rfl rfl rfl (rfl) ?_
      refine pw_iload rfl rfl ?_
      refine pw_iadd (z := (F (103) (3)) + (G (108) (q / 2))) rfl rfl ?_
      refine px_callv (as := [.inr (some (103)), .inl (nI (q)), .inl (x1), .inl (x2), .inl (x3), .inl (x4), .inl (x5), .inl ((F (103) (3)) + (G (108) (q / 2)))]) (rest := []) rfl rfl (by decide) rfl (Nat.le_of_ble_eq_true rfl) (Nat.le_of_ble_eq_true rfl) (Nat.le_of_ble_eq_true rfl) (Nat.le_of_ble_eq_true rfl) rfl rfl rfl rfl ?_
      refine t_put (by omega) hfl (by omega) ?_
      show pw pP mSBModel_ship (46, [some (.inr (some (103))), some (.inl (nI (q))), some (.inl (x1)), some (.inl (x2)), some (.inl (x3)), some (.inl (x4)), some (.inl (x5)), some (.inl (G (108) (q / 2)))], [], 0, 0, hb (sL L) F (up2 (up2 (up2 (up2 (up2 (up2 (up2 G (125) (6 * q + fl) (x1)) (126) (6 * q + fl) (x2)) (127) (6 * q + fl) (x3)) (128) (6 * q + fl) (x4)) (129) (6 * q + fl) (x5)) (130) (6 * q + fl) ((F (103) (3)) + (G (108) (q / 2)))) (124) (q) (nI (fl + 1))) R sO) _
      exact pw_vret rfl rfl (Nat.zero_le _) (Nat.zero_le _) (by simp only [tship, c1, c2, if_true, if_false] at k; exact k)
