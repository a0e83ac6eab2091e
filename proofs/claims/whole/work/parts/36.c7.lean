/-! THE CLASS, seventh part: the calls, but pass. Rows laid by a program (wip/whole/gen/class7.py). -/
/-- SB_isPath -/
def bpath_r (p : Int32) : Int32 := (if p < 0 then nI (0) else (if nI (4) ≤ p then nI (0) else nI (1)))
theorem t_bpath {L : Nat} {p : Int32} {F G : FN} {R : RN} {Q : Option PV → PH → Prop} (k : Q (some (.inl (bpath_r p))) (hb (sL L) F G R sO)) : pz pP mSB_isPath [.inl (p)] (hb (sL L) F G R sO) Q := by
  show pw pP mSB_isPath (0, [some (.inl (p))], [], 0, 0, hb (sL L) F G R sO) _
  refine pw_iload_n rfl rfl ?_
  refine pw_if1p (A := p < 0) rfl rfl (t := 13) rfl (fun c1 => ?_) (fun c1 => ?_)
  · -- 13
    refine pw_iconst (v := nI (0)) rfl (by decide) ?_
    exact pw_iret rfl rfl (Nat.zero_le _) (Nat.zero_le _) rfl (by simp only [bpath_r, c1, if_true, if_false] at k; exact k)
  · -- 4
    refine pw_iload_n rfl rfl ?_
    refine pw_iconst (v := nI (4)) rfl (by decide) ?_
    refine pw_if2p (A := nI (4) ≤ p) rfl rfl (t := 13) rfl (fun c2 => ?_) (fun c2 => ?_)
    · -- 13
      refine pw_iconst (v := nI (0)) rfl (by decide) ?_
      exact pw_iret rfl rfl (Nat.zero_le _) (Nat.zero_le _) rfl (by simp only [bpath_r, c1, c2, if_true, if_false] at k; exact k)
    · -- 9
      refine pw_iconst (v := nI (1)) rfl (by decide) ?_
      refine pw_goto (t := 14) rfl rfl ?_
      exact pw_iret rfl rfl (Nat.zero_le _) (Nat.zero_le _) rfl (by simp only [bpath_r, c1, c2, if_true, if_false] at k; exact k)
theorem t_bpath_in {L p : Nat} {F G : FN} {R : RN} (hp : p < 4) {Q : Option PV → PH → Prop} (k : Q (some (.inl (nI 1))) (hb (sL L) F G R sO)) : pz pP mSB_isPath [.inl (nI p)] (hb (sL L) F G R sO) Q := by
  refine t_bpath ?_
  unfold bpath_r
  rw [if_neg (nI_pos (by omega)), if_neg (fun q => by rw [nI_leI (by omega) (by omega)] at q; omega)]
  exact k
theorem t_bpath_out {L : Nat} {p : Int32} {F G : FN} {R : RN} (hp : p < 0 ∨ nI 4 ≤ p) {Q : Option PV → PH → Prop} (k : Q (some (.inl (nI 0))) (hb (sL L) F G R sO)) : pz pP mSB_isPath [.inl p] (hb (sL L) F G R sO) Q := by
  refine t_bpath ?_
  unfold bpath_r
  by_cases h : p < 0
  · rw [if_pos h]
    exact k
  · rw [if_neg h, if_pos (hp.resolve_left h)]
    exact k
/-- SB_state -/
def bstate_r (F : FN) (p : Nat) : Int32 := F (5 + 21 * p) (5)
theorem t_bstate {L p : Nat} {F G : FN} {R : RN} (hp : p < 4) (hR4 : R 4 p = some (5 + 21 * p)) (hP : pathok L (5 + 21 * p) R) {Q : Option PV → PH → Prop} (k : Q (some (.inl (bstate_r F p))) (hb (sL L) F G R sO)) : pz pP mSB_state [.inr (some (1)), .inl (nI (p))] (hb (sL L) F G R sO) Q := by
  show pw pP mSB_state (0, [some (.inr (some (1))), some (.inl (nI (p)))], [], 0, 0, hb (sL L) F G R sO) _
  refine pw_iload_n rfl rfl ?_
  refine pw_calls (as := [.inl (nI (p))]) (rest := []) rfl rfl (by decide) rfl (Nat.le_of_ble_eq_true rfl) (Nat.le_of_ble_eq_true rfl) (Nat.le_of_ble_eq_true rfl) (Nat.le_of_ble_eq_true rfl) rfl rfl ?_
  refine t_bpath_in hp ?_
  show pw pP mSB_state (4, [some (.inr (some (1))), some (.inl (nI (p)))], [.inl (nI (1))], 0, 0, hb (sL L) F G R sO) _
  refine pw_if1 (t := 19) rfl rfl (fun q => absurd q (by decide)) (fun _ => ?_)
  refine pw_aload_n rfl rfl ?_
  refine px_getr (r := some (4)) rfl rfl rfl rfl rfl ?_
  refine pw_iload_n rfl rfl ?_
  refine px_aaldn (r := (some (5 + 21 * p))) rfl rfl rfl (by omega) (by decide) (hR4) ?_
  refine px_getv (x := F (5 + 21 * p) (5)) rfl rfl hP.1 rfl (rfl) ?_
  refine pw_goto (t := 20) rfl rfl ?_
  exact pw_iret rfl rfl (Nat.zero_le _) (Nat.zero_le _) rfl k
/-- SB_state -/
def bstate_no_r  : Int32 := (-1)
theorem t_bstate_no {L : Nat} {p : Int32} {F G : FN} {R : RN} (hp : p < 0 ∨ nI 4 ≤ p) {Q : Option PV → PH → Prop} (k : Q (some (.inl (bstate_no_r ))) (hb (sL L) F G R sO)) : pz pP mSB_state [.inr (some (1)), .inl (p)] (hb (sL L) F G R sO) Q := by
  show pw pP mSB_state (0, [some (.inr (some (1))), some (.inl (p))], [], 0, 0, hb (sL L) F G R sO) _
  refine pw_iload_n rfl rfl ?_
  refine pw_calls (as := [.inl (p)]) (rest := []) rfl rfl (by decide) rfl (Nat.le_of_ble_eq_true rfl) (Nat.le_of_ble_eq_true rfl) (Nat.le_of_ble_eq_true rfl) (Nat.le_of_ble_eq_true rfl) rfl rfl ?_
  refine t_bpath_out hp ?_
  show pw pP mSB_state (4, [some (.inr (some (1))), some (.inl (p))], [.inl (nI (0))], 0, 0, hb (sL L) F G R sO) _
  refine pw_if1 (t := 19) rfl rfl (fun _ => ?_) (fun q => absurd q (by decide))
  refine pw_iconst (v := (-1)) rfl (by decide) ?_
  exact pw_iret rfl rfl (Nat.zero_le _) (Nat.zero_le _) rfl k
/-- SB_timeout -/
def btimeout_r (F : FN) (p : Nat) : Int32 := F (5 + 21 * p) (8)
theorem t_btimeout {L p : Nat} {F G : FN} {R : RN} (hp : p < 4) (hR4 : R 4 p = some (5 + 21 * p)) (hP : pathok L (5 + 21 * p) R) {Q : Option PV → PH → Prop} (k : Q (some (.inl (btimeout_r F p))) (hb (sL L) F G R sO)) : pz pP mSB_timeout [.inr (some (1)), .inl (nI (p))] (hb (sL L) F G R sO) Q := by
  show pw pP mSB_timeout (0, [some (.inr (some (1))), some (.inl (nI (p)))], [], 0, 0, hb (sL L) F G R sO) _
  refine pw_iload_n rfl rfl ?_
  refine pw_calls (as := [.inl (nI (p))]) (rest := []) rfl rfl (by decide) rfl (Nat.le_of_ble_eq_true rfl) (Nat.le_of_ble_eq_true rfl) (Nat.le_of_ble_eq_true rfl) (Nat.le_of_ble_eq_true rfl) rfl rfl ?_
  refine t_bpath_in hp ?_
  show pw pP mSB_timeout (4, [some (.inr (some (1))), some (.inl (nI (p)))], [.inl (nI (1))], 0, 0, hb (sL L) F G R sO) _
  refine pw_if1 (t := 19) rfl rfl (fun q => absurd q (by decide)) (fun _ => ?_)
  refine pw_aload_n rfl rfl ?_
  refine px_getr (r := some (4)) rfl rfl rfl rfl rfl ?_
  refine pw_iload_n rfl rfl ?_
  refine px_aaldn (r := (some (5 + 21 * p))) rfl rfl rfl (by omega) (by decide) (hR4) ?_
  refine px_getv (x := F (5 + 21 * p) (8)) rfl rfl hP.1 rfl (rfl) ?_
  refine pw_goto (t := 20) rfl rfl ?_
  exact pw_iret rfl rfl (Nat.zero_le _) (Nat.zero_le _) rfl k
/-- SB_timeout -/
def btimeout_no_r  : Int32 := (-1)
theorem t_btimeout_no {L : Nat} {p : Int32} {F G : FN} {R : RN} (hp : p < 0 ∨ nI 4 ≤ p) {Q : Option PV → PH → Prop} (k : Q (some (.inl (btimeout_no_r ))) (hb (sL L) F G R sO)) : pz pP mSB_timeout [.inr (some (1)), .inl (p)] (hb (sL L) F G R sO) Q := by
  show pw pP mSB_timeout (0, [some (.inr (some (1))), some (.inl (p))], [], 0, 0, hb (sL L) F G R sO) _
  refine pw_iload_n rfl rfl ?_
  refine pw_calls (as := [.inl (p)]) (rest := []) rfl rfl (by decide) rfl (Nat.le_of_ble_eq_true rfl) (Nat.le_of_ble_eq_true rfl) (Nat.le_of_ble_eq_true rfl) (Nat.le_of_ble_eq_true rfl) rfl rfl ?_
  refine t_bpath_out hp ?_
  show pw pP mSB_timeout (4, [some (.inr (some (1))), some (.inl (p))], [.inl (nI (0))], 0, 0, hb (sL L) F G R sO) _
  refine pw_if1 (t := 19) rfl rfl (fun _ => ?_) (fun q => absurd q (by decide))
  refine pw_iconst (v := (-1)) rfl (by decide) ?_
  exact pw_iret rfl rfl (Nat.zero_le _) (Nat.zero_le _) rfl k
/-- SB_sent -/
def bsent_r (F : FN) (p : Nat) : Int32 := F (5 + 21 * p) (13)
theorem t_bsent {L p : Nat} {F G : FN} {R : RN} (hp : p < 4) (hR4 : R 4 p = some (5 + 21 * p)) (hP : pathok L (5 + 21 * p) R) {Q : Option PV → PH → Prop} (k : Q (some (.inl (bsent_r F p))) (hb (sL L) F G R sO)) : pz pP mSB_sent [.inr (some (1)), .inl (nI (p))] (hb (sL L) F G R sO) Q := by
  show pw pP mSB_sent (0, [some (.inr (some (1))), some (.inl (nI (p)))], [], 0, 0, hb (sL L) F G R sO) _
  refine pw_iload_n rfl rfl ?_
  refine pw_calls (as := [.inl (nI (p))]) (rest := []) rfl rfl (by decide) rfl (Nat.le_of_ble_eq_true rfl) (Nat.le_of_ble_eq_true rfl) (Nat.le_of_ble_eq_true rfl) (Nat.le_of_ble_eq_true rfl) rfl rfl ?_
  refine t_bpath_in hp ?_
  show pw pP mSB_sent (4, [some (.inr (some (1))), some (.inl (nI (p)))], [.inl (nI (1))], 0, 0, hb (sL L) F G R sO) _
  refine pw_if1 (t := 19) rfl rfl (fun q => absurd q (by decide)) (fun _ => ?_)
  refine pw_aload_n rfl rfl ?_
  refine px_getr (r := some (4)) rfl rfl rfl rfl rfl ?_
  refine pw_iload_n rfl rfl ?_
  refine px_aaldn (r := (some (5 + 21 * p))) rfl rfl rfl (by omega) (by decide) (hR4) ?_
  refine px_getv (x := F (5 + 21 * p) (13)) rfl rfl hP.1 rfl (rfl) ?_
  refine pw_goto (t := 20) rfl rfl ?_
  exact pw_iret rfl rfl (Nat.zero_le _) (Nat.zero_le _) rfl k
/-- SB_sent -/
def bsent_no_r  : Int32 := (-1)
theorem t_bsent_no {L : Nat} {p : Int32} {F G : FN} {R : RN} (hp : p < 0 ∨ nI 4 ≤ p) {Q : Option PV → PH → Prop} (k : Q (some (.inl (bsent_no_r ))) (hb (sL L) F G R sO)) : pz pP mSB_sent [.inr (some (1)), .inl (p)] (hb (sL L) F G R sO) Q := by
  show pw pP mSB_sent (0, [some (.inr (some (1))), some (.inl (p))], [], 0, 0, hb (sL L) F G R sO) _
  refine pw_iload_n rfl rfl ?_
  refine pw_calls (as := [.inl (p)]) (rest := []) rfl rfl (by decide) rfl (Nat.le_of_ble_eq_true rfl) (Nat.le_of_ble_eq_true rfl) (Nat.le_of_ble_eq_true rfl) (Nat.le_of_ble_eq_true rfl) rfl rfl ?_
  refine t_bpath_out hp ?_
  show pw pP mSB_sent (4, [some (.inr (some (1))), some (.inl (p))], [.inl (nI (0))], 0, 0, hb (sL L) F G R sO) _
  refine pw_if1 (t := 19) rfl rfl (fun _ => ?_) (fun q => absurd q (by decide))
  refine pw_iconst (v := (-1)) rfl (by decide) ?_
  exact pw_iret rfl rfl (Nat.zero_le _) (Nat.zero_le _) rfl k
/-- SB_smooth -/
def bsmooth_r (F : FN) (p : Nat) : Int32 := (if F (5 + 21 * p) (10) = 0 then (-1) else F (5 + 21 * p) (11))
theorem t_bsmooth {L p : Nat} {F G : FN} {R : RN} (hp : p < 4) (hR4 : R 4 p = some (5 + 21 * p)) (hP : pathok L (5 + 21 * p) R) {Q : Option PV → PH → Prop} (k : Q (some (.inl (bsmooth_r F p))) (hb (sL L) F G R sO)) : pz pP mSB_smooth [.inr (some (1)), .inl (nI (p))] (hb (sL L) F G R sO) Q := by
  show pw pP mSB_smooth (0, [some (.inr (some (1))), some (.inl (nI (p)))], [], 0, 0, hb (sL L) F G R sO) _
  refine pw_iload_n rfl rfl ?_
  refine pw_calls (as := [.inl (nI (p))]) (rest := []) rfl rfl (by decide) rfl (Nat.le_of_ble_eq_true rfl) (Nat.le_of_ble_eq_true rfl) (Nat.le_of_ble_eq_true rfl) (Nat.le_of_ble_eq_true rfl) rfl rfl ?_
  refine t_bpath_in hp ?_
  show pw pP mSB_smooth (4, [some (.inr (some (1))), some (.inl (nI (p)))], [.inl (nI (1))], 0, 0, hb (sL L) F G R sO) _
  refine pw_if1 (t := 31) rfl rfl (fun q => absurd q (by decide)) (fun _ => ?_)
  refine pw_aload_n rfl rfl ?_
  refine px_getr (r := some (4)) rfl rfl rfl rfl rfl ?_
  refine pw_iload_n rfl rfl ?_
  refine px_aaldn (r := (some (5 + 21 * p))) rfl rfl rfl (by omega) (by decide) (hR4) ?_
  refine px_getv (x := F (5 + 21 * p) (10)) rfl rfl hP.1 rfl (rfl) ?_
  refine pw_if1p (A := F (5 + 21 * p) (10) = 0) rfl rfl (t := 31) rfl (fun c1 => ?_) (fun c1 => ?_)
  · -- 31
    refine pw_iconst (v := (-1)) rfl (by decide) ?_
    exact pw_iret rfl rfl (Nat.zero_le _) (Nat.zero_le _) rfl (by simp only [bsmooth_r, c1, if_true, if_false] at k; exact k)
  · -- 19
    refine pw_aload_n rfl rfl ?_
    refine px_getr (r := some (4)) rfl rfl rfl rfl rfl ?_
    refine pw_iload_n rfl rfl ?_
    refine px_aaldn (r := (some (5 + 21 * p))) rfl rfl rfl (by omega) (by decide) (hR4) ?_
    refine px_getv (x := F (5 + 21 * p) (11)) rfl rfl hP.1 rfl (rfl) ?_
    refine pw_goto (t := 32) rfl rfl ?_
    exact pw_iret rfl rfl (Nat.zero_le _) (Nat.zero_le _) rfl (by simp only [bsmooth_r, c1, if_true, if_false] at k; exact k)
/-- SB_smooth -/
def bsmooth_no_r  : Int32 := (-1)
theorem t_bsmooth_no {L : Nat} {p : Int32} {F G : FN} {R : RN} (hp : p < 0 ∨ nI 4 ≤ p) {Q : Option PV → PH → Prop} (k : Q (some (.inl (bsmooth_no_r ))) (hb (sL L) F G R sO)) : pz pP mSB_smooth [.inr (some (1)), .inl (p)] (hb (sL L) F G R sO) Q := by
  show pw pP mSB_smooth (0, [some (.inr (some (1))), some (.inl (p))], [], 0, 0, hb (sL L) F G R sO) _
  refine pw_iload_n rfl rfl ?_
  refine pw_calls (as := [.inl (p)]) (rest := []) rfl rfl (by decide) rfl (Nat.le_of_ble_eq_true rfl) (Nat.le_of_ble_eq_true rfl) (Nat.le_of_ble_eq_true rfl) (Nat.le_of_ble_eq_true rfl) rfl rfl ?_
  refine t_bpath_out hp ?_
  show pw pP mSB_smooth (4, [some (.inr (some (1))), some (.inl (p))], [.inl (nI (0))], 0, 0, hb (sL L) F G R sO) _
  refine pw_if1 (t := 31) rfl rfl (fun _ => ?_) (fun q => absurd q (by decide))
  refine pw_iconst (v := (-1)) rfl (by decide) ?_
  exact pw_iret rfl rfl (Nat.zero_le _) (Nat.zero_le _) rfl k
/-- SB_unacked -/
def bunacked_no_r  : Int32 := (-1)
theorem t_bunacked_no {L : Nat} {p : Int32} {F G : FN} {R : RN} (hp : p < 0 ∨ nI 4 ≤ p) {Q : Option PV → PH → Prop} (k : Q (some (.inl (bunacked_no_r ))) (hb (sL L) F G R sO)) : pz pP mSB_unacked [.inr (some (1)), .inl (p)] (hb (sL L) F G R sO) Q := by
  show pw pP mSB_unacked (0, [some (.inr (some (1))), some (.inl (p))], [], 0, 0, hb (sL L) F G R sO) _
  refine pw_iload_n rfl rfl ?_
  refine pw_calls (as := [.inl (p)]) (rest := []) rfl rfl (by decide) rfl (Nat.le_of_ble_eq_true rfl) (Nat.le_of_ble_eq_true rfl) (Nat.le_of_ble_eq_true rfl) (Nat.le_of_ble_eq_true rfl) rfl rfl ?_
  refine t_bpath_out hp ?_
  show pw pP mSB_unacked (4, [some (.inr (some (1))), some (.inl (p))], [.inl (nI (0))], 0, 0, hb (sL L) F G R sO) _
  refine pw_if1 (t := 19) rfl rfl (fun _ => ?_) (fun q => absurd q (by decide))
  refine pw_iconst (v := (-1)) rfl (by decide) ?_
  exact pw_iret rfl rfl (Nat.zero_le _) (Nat.zero_le _) rfl k
theorem t_bunacked {L p sc : Nat} {F G : FN} {R : RN} (hp : p < 4) (hR4 : R 4 p = some (5 + 21 * p)) (hP : pathok L (5 + 21 * p) R) (hsc : F (5 + 21 * p) 3 = nI sc) (hs3 : sc ≤ 3) {nm : Nat → Nat} (hnm : ∀ j, j < sc → F (rx R (5 + 21 * p + 17) j) 1 = nI (nm j)) {Q : Option PV → PH → Prop} (k : Q (some (.inl (nI (csm nm sc 0 0)))) (hb (sL L) F G R sO)) : pz pP mSB_unacked [.inr (some 1), .inl (nI p)] (hb (sL L) F G R sO) Q := by
  show pw pP mSB_unacked (0, [some (.inr (some (1))), some (.inl (nI (p)))], [], 0, 0, hb (sL L) F G R sO) _
  refine pw_iload_n rfl rfl ?_
  refine pw_calls (as := [.inl (nI (p))]) (rest := []) rfl rfl (by decide) rfl (Nat.le_of_ble_eq_true rfl) (Nat.le_of_ble_eq_true rfl) (Nat.le_of_ble_eq_true rfl) (Nat.le_of_ble_eq_true rfl) rfl rfl ?_
  refine t_bpath_in hp ?_
  show pw pP mSB_unacked (4, [some (.inr (some (1))), some (.inl (nI (p)))], [.inl (nI (1))], 0, 0, hb (sL L) F G R sO) _
  refine pw_if1 (t := 19) rfl rfl (fun q => absurd q (by decide)) (fun _ => ?_)
  refine pw_aload_n rfl rfl ?_
  refine px_getr (r := some (4)) rfl rfl rfl rfl rfl ?_
  refine pw_iload_n rfl rfl ?_
  refine px_aaldn (r := (some (5 + 21 * p))) rfl rfl rfl (by omega) (by decide) (hR4) ?_
  refine px_callv (as := [.inr (some (5 + 21 * p))]) (rest := []) rfl rfl (by decide) rfl (Nat.le_of_ble_eq_true rfl) (Nat.le_of_ble_eq_true rfl) (Nat.le_of_ble_eq_true rfl) (Nat.le_of_ble_eq_true rfl) rfl hP.1 rfl rfl ?_
  refine t_cun hP hsc hs3 hnm ?_
  show pw pP mSB_unacked (16, [some (.inr (some (1))), some (.inl (nI (p)))], [.inl (nI (csm nm sc 0 0))], 0, 0, hb (sL L) F G R sO) _
  refine pw_goto (t := 20) rfl rfl ?_
  exact pw_iret rfl rfl (Nat.zero_le _) (Nat.zero_le _) rfl k
/-- SB_acknowledged -/
def back_r (F : FN) : Int32 := F (89) (5)
theorem t_back {L : Nat} {F G : FN} {R : RN} {Q : Option PV → PH → Prop} (k : Q (some (.inl (back_r F))) (hb (sL L) F G R sO)) : pz pP mSB_acknowledged [.inr (some (1))] (hb (sL L) F G R sO) Q := by
  show pw pP mSB_acknowledged (0, [some (.inr (some (1)))], [], 0, 0, hb (sL L) F G R sO) _
  refine pw_aload_n rfl rfl ?_
  refine px_getr (r := some (89)) rfl rfl rfl rfl rfl ?_
  refine px_getv (x := F (89) (5)) rfl rfl rfl rfl (rfl) ?_
  exact pw_iret rfl rfl (Nat.zero_le _) (Nat.zero_le _) rfl k
/-- SB_received -/
def brecv_r (F : FN) : Int32 := F (92) (5)
theorem t_brecv {L : Nat} {F G : FN} {R : RN} {Q : Option PV → PH → Prop} (k : Q (some (.inl (brecv_r F))) (hb (sL L) F G R sO)) : pz pP mSB_received [.inr (some (1))] (hb (sL L) F G R sO) Q := by
  show pw pP mSB_received (0, [some (.inr (some (1)))], [], 0, 0, hb (sL L) F G R sO) _
  refine pw_aload_n rfl rfl ?_
  refine px_getr (r := some (92)) rfl rfl rfl rfl rfl ?_
  refine px_getv (x := F (92) (5)) rfl rfl rfl rfl (rfl) ?_
  exact pw_iret rfl rfl (Nat.zero_le _) (Nat.zero_le _) rfl k
/-- SB_reinjected -/
def brein_r (F : FN) : Int32 := F (89) (7)
theorem t_brein {L : Nat} {F G : FN} {R : RN} {Q : Option PV → PH → Prop} (k : Q (some (.inl (brein_r F))) (hb (sL L) F G R sO)) : pz pP mSB_reinjected [.inr (some (1))] (hb (sL L) F G R sO) Q := by
  show pw pP mSB_reinjected (0, [some (.inr (some (1)))], [], 0, 0, hb (sL L) F G R sO) _
  refine pw_aload_n rfl rfl ?_
  refine px_getr (r := some (89)) rfl rfl rfl rfl rfl ?_
  refine px_getv (x := F (89) (7)) rfl rfl rfl rfl (rfl) ?_
  exact pw_iret rfl rfl (Nat.zero_le _) (Nat.zero_le _) rfl k
/-- SB_token -/
def btoken_r (F : FN) : Int32 := F (1) (0)
theorem t_btoken {L : Nat} {F G : FN} {R : RN} {Q : Option PV → PH → Prop} (k : Q (some (.inl (btoken_r F))) (hb (sL L) F G R sO)) : pz pP mSB_token [.inr (some (1))] (hb (sL L) F G R sO) Q := by
  show pw pP mSB_token (0, [some (.inr (some (1)))], [], 0, 0, hb (sL L) F G R sO) _
  refine pw_aload_n rfl rfl ?_
  refine px_getv (x := F (1) (0)) rfl rfl rfl rfl (rfl) ?_
  exact pw_iret rfl rfl (Nat.zero_le _) (Nat.zero_le _) rfl k
theorem t_bfinish {L ln : Nat} {F G : FN} {R : RN} (hln : F 2 1 = nI ln) (hl : ln ≤ 401) {Q : Option PV → PH → Prop} (k : Q (some (.inl (cend_r F G ln))) (hb (sL L) (cend_F F G ln) (cend_G F G ln) R sO)) : pz pP mSB_finish [.inr (some 1)] (hb (sL L) F G R sO) Q := by
  show pw pP mSB_finish (0, [some (.inr (some (1)))], [], 0, 0, hb (sL L) F G R sO) _
  have hfit : pm_fit .boolean (.inl (cend_r F G ln)) = true := by
    unfold cend_r
    repeat' split
    all_goals rfl
  refine pw_aload_n rfl rfl ?_
  refine px_getr (r := some (2)) rfl rfl rfl rfl rfl ?_
  refine px_callv (as := [.inr (some (2))]) (rest := []) rfl rfl (by decide) rfl (Nat.le_of_ble_eq_true rfl) (Nat.le_of_ble_eq_true rfl) (Nat.le_of_ble_eq_true rfl) (Nat.le_of_ble_eq_true rfl) rfl rfl rfl rfl ?_
  refine t_cend hln hl ?_
  show pw pP mSB_finish (7, [some (.inr (some (1)))], [.inl (cend_r F G ln)], 0, 0, hb (sL L) (cend_F F G ln) (cend_G F G ln) R sO) _
  exact pw_iret rfl rfl (Nat.zero_le _) (Nat.zero_le _) hfit k
theorem t_bwrite {L ln ad : Nat} {x v : Int32} {F G : FN} {R : RN} (hln : F 2 1 = nI ln) (hend : F 2 2 = nI 0) (hx : ¬ x < nI 1) (had : (if nI (400 - ln) < x then nI (400 - ln) else x) = nI ad) (hl : ln + ad ≤ 400) {Q : Option PV → PH → Prop} (k : Q (some (.inl (nI (ad)))) (hb (sL L) (up2 F 2 1 (nI (ln + ad))) (csw v ln ad 0 G) R sO)) : pz pP mSB_write [.inr (some 1), .inl x, .inl v] (hb (sL L) F G R sO) Q := by
  show pw pP mSB_write (0, [some (.inr (some (1))), some (.inl (x)), some (.inl (v))], [], 0, 0, hb (sL L) F G R sO) _
  refine pw_aload_n rfl rfl ?_
  refine px_getr (r := some (2)) rfl rfl rfl rfl rfl ?_
  refine pw_iload_n rfl rfl ?_
  refine pw_iload_n rfl rfl ?_
  refine px_callv (as := [.inr (some (2)), .inl (x), .inl (v)]) (rest := []) rfl rfl (by decide) rfl (Nat.le_of_ble_eq_true rfl) (Nat.le_of_ble_eq_true rfl) (Nat.le_of_ble_eq_true rfl) (Nat.le_of_ble_eq_true rfl) rfl rfl rfl rfl ?_
  refine t_csapp hln hend hx had hl ?_
  show pw pP mSB_write (9, [some (.inr (some (1))), some (.inl (x)), some (.inl (v))], [.inl (nI (ad))], 0, 0, hb (sL L) (up2 F 2 1 (nI (ln + ad))) (csw v ln ad 0 G) R sO) _
  exact pw_iret rfl rfl (Nat.zero_le _) (Nat.zero_le _) rfl k
theorem t_bwrite_no {L : Nat} {x v : Int32} {F G : FN} {R : RN} (he : ¬ F 2 2 = 0) {Q : Option PV → PH → Prop} (k : Q (some (.inl (nI (0)))) (hb (sL L) F G R sO)) : pz pP mSB_write [.inr (some 1), .inl x, .inl v] (hb (sL L) F G R sO) Q := by
  show pw pP mSB_write (0, [some (.inr (some (1))), some (.inl (x)), some (.inl (v))], [], 0, 0, hb (sL L) F G R sO) _
  refine pw_aload_n rfl rfl ?_
  refine px_getr (r := some (2)) rfl rfl rfl rfl rfl ?_
  refine pw_iload_n rfl rfl ?_
  refine pw_iload_n rfl rfl ?_
  refine px_callv (as := [.inr (some (2)), .inl (x), .inl (v)]) (rest := []) rfl rfl (by decide) rfl (Nat.le_of_ble_eq_true rfl) (Nat.le_of_ble_eq_true rfl) (Nat.le_of_ble_eq_true rfl) (Nat.le_of_ble_eq_true rfl) rfl rfl rfl rfl ?_
  refine t_csapp_no he ?_
  show pw pP mSB_write (9, [some (.inr (some (1))), some (.inl (x)), some (.inl (v))], [.inl (nI (0))], 0, 0, hb (sL L) F G R sO) _
  exact pw_iret rfl rfl (Nat.zero_le _) (Nat.zero_le _) rfl k
theorem t_bwrite_z {L : Nat} {x v : Int32} {F G : FN} {R : RN} (hend : F 2 2 = nI 0) (hx : x < nI 1) {Q : Option PV → PH → Prop} (k : Q (some (.inl (nI (0)))) (hb (sL L) F G R sO)) : pz pP mSB_write [.inr (some 1), .inl x, .inl v] (hb (sL L) F G R sO) Q := by
  show pw pP mSB_write (0, [some (.inr (some (1))), some (.inl (x)), some (.inl (v))], [], 0, 0, hb (sL L) F G R sO) _
  refine pw_aload_n rfl rfl ?_
  refine px_getr (r := some (2)) rfl rfl rfl rfl rfl ?_
  refine pw_iload_n rfl rfl ?_
  refine pw_iload_n rfl rfl ?_
  refine px_callv (as := [.inr (some (2)), .inl (x), .inl (v)]) (rest := []) rfl rfl (by decide) rfl (Nat.le_of_ble_eq_true rfl) (Nat.le_of_ble_eq_true rfl) (Nat.le_of_ble_eq_true rfl) (Nat.le_of_ble_eq_true rfl) rfl rfl rfl rfl ?_
  refine t_csapp_z hend hx ?_
  show pw pP mSB_write (9, [some (.inr (some (1))), some (.inl (x)), some (.inl (v))], [.inl (nI (0))], 0, 0, hb (sL L) F G R sO) _
  exact pw_iret rfl rfl (Nat.zero_le _) (Nat.zero_le _) rfl k
theorem t_bread {L nx rc ln : Nat} {F G : FN} {R : RN} (hnx : F 92 6 = nI nx) (hn4 : nx ≤ 401) (hrc : F 92 5 = nI rc) (hr4 : rc ≤ 401) (hln : F 2 1 = nI ln) (hl : ln ≤ 401) {Q : Option PV → PH → Prop} (k : Q (some (.inl (cnext_r F G nx rc ln))) (hb (sL L) (cnext_F F G nx rc ln) G R sO)) : pz pP mSB_read [.inr (some 1)] (hb (sL L) F G R sO) Q := by
  show pw pP mSB_read (0, [some (.inr (some (1)))], [], 0, 0, hb (sL L) F G R sO) _
  refine pw_aload_n rfl rfl ?_
  refine px_getr (r := some (92)) rfl rfl rfl rfl rfl ?_
  refine px_callv (as := [.inr (some (92))]) (rest := []) rfl rfl (by decide) rfl (Nat.le_of_ble_eq_true rfl) (Nat.le_of_ble_eq_true rfl) (Nat.le_of_ble_eq_true rfl) (Nat.le_of_ble_eq_true rfl) rfl rfl rfl rfl ?_
  refine t_cnext hnx hn4 hrc hr4 hln hl ?_
  show pw pP mSB_read (7, [some (.inr (some (1)))], [.inl (cnext_r F G nx rc ln)], 0, 0, hb (sL L) (cnext_F F G nx rc ln) G R sO) _
  exact pw_iret rfl rfl (Nat.zero_le _) (Nat.zero_le _) rfl k
/-- SB_isInUse -/
def buse_r (F : FN) (p : Nat) : Int32 := (if F (5 + 21 * p) (5) = 0 then nI (0) else (if F (5 + 21 * p) (5) = nI (4) then nI (0) else nI (1)))
theorem t_buse {L p : Nat} {F G : FN} {R : RN} (hp : p < 4) (hR4 : R 4 p = some (5 + 21 * p)) (hP : pathok L (5 + 21 * p) R) {Q : Option PV → PH → Prop} (k : Q (some (.inl (buse_r F p))) (hb (sL L) F G R sO)) : pz pP mSB_isInUse [.inr (some (1)), .inl (nI (p))] (hb (sL L) F G R sO) Q := by
  show pw pP mSB_isInUse (0, [some (.inr (some (1))), some (.inl (nI (p)))], [], 0, 0, hb (sL L) F G R sO) _
  refine pw_iload_n rfl rfl ?_
  refine pw_calls (as := [.inl (nI (p))]) (rest := []) rfl rfl (by decide) rfl (Nat.le_of_ble_eq_true rfl) (Nat.le_of_ble_eq_true rfl) (Nat.le_of_ble_eq_true rfl) (Nat.le_of_ble_eq_true rfl) rfl rfl ?_
  refine t_bpath_in hp ?_
  show pw pP mSB_isInUse (4, [some (.inr (some (1))), some (.inl (nI (p)))], [.inl (nI (1))], 0, 0, hb (sL L) F G R sO) _
  refine pw_if1 (t := 36) rfl rfl (fun q => absurd q (by decide)) (fun _ => ?_)
  refine pw_aload_n rfl rfl ?_
  refine px_getr (r := some (4)) rfl rfl rfl rfl rfl ?_
  refine pw_iload_n rfl rfl ?_
  refine px_aaldn (r := (some (5 + 21 * p))) rfl rfl rfl (by omega) (by decide) (hR4) ?_
  refine px_getv (x := F (5 + 21 * p) (5)) rfl rfl hP.1 rfl (rfl) ?_
  refine pw_if1p (A := F (5 + 21 * p) (5) = 0) rfl rfl (t := 36) rfl (fun c1 => ?_) (fun c1 => ?_)
  · -- 36
    refine pw_iconst (v := nI (0)) rfl (by decide) ?_
    exact pw_iret rfl rfl (Nat.zero_le _) (Nat.zero_le _) rfl (by simp only [buse_r, c1, if_true, if_false] at k; exact k)
  · -- 19
    refine pw_aload_n rfl rfl ?_
    refine px_getr (r := some (4)) rfl rfl rfl rfl rfl ?_
    refine pw_iload_n rfl rfl ?_
    refine px_aaldn (r := (some (5 + 21 * p))) rfl rfl rfl (by omega) (by decide) (hR4) ?_
    refine px_getv (x := F (5 + 21 * p) (5)) rfl rfl hP.1 rfl (rfl) ?_
    refine pw_iconst (v := nI (4)) rfl (by decide) ?_
    refine pw_if2p (A := F (5 + 21 * p) (5) = nI (4)) rfl rfl (t := 36) rfl (fun c2 => ?_) (fun c2 => ?_)
    · -- 36
      refine pw_iconst (v := nI (0)) rfl (by decide) ?_
      exact pw_iret rfl rfl (Nat.zero_le _) (Nat.zero_le _) rfl (by simp only [buse_r, c1, c2, if_true, if_false] at k; exact k)
    · -- 32
      refine pw_iconst (v := nI (1)) rfl (by decide) ?_
      refine pw_goto (t := 37) rfl rfl ?_
      exact pw_iret rfl rfl (Nat.zero_le _) (Nat.zero_le _) rfl (by simp only [buse_r, c1, c2, if_true, if_false] at k; exact k)
/-- SB_isInUse -/
def buse_no_r  : Int32 := nI (0)
theorem t_buse_no {L : Nat} {p : Int32} {F G : FN} {R : RN} (hp : p < 0 ∨ nI 4 ≤ p) {Q : Option PV → PH → Prop} (k : Q (some (.inl (buse_no_r ))) (hb (sL L) F G R sO)) : pz pP mSB_isInUse [.inr (some (1)), .inl (p)] (hb (sL L) F G R sO) Q := by
  show pw pP mSB_isInUse (0, [some (.inr (some (1))), some (.inl (p))], [], 0, 0, hb (sL L) F G R sO) _
  refine pw_iload_n rfl rfl ?_
  refine pw_calls (as := [.inl (p)]) (rest := []) rfl rfl (by decide) rfl (Nat.le_of_ble_eq_true rfl) (Nat.le_of_ble_eq_true rfl) (Nat.le_of_ble_eq_true rfl) (Nat.le_of_ble_eq_true rfl) rfl rfl ?_
  refine t_bpath_out hp ?_
  show pw pP mSB_isInUse (4, [some (.inr (some (1))), some (.inl (p))], [.inl (nI (0))], 0, 0, hb (sL L) F G R sO) _
  refine pw_if1 (t := 36) rfl rfl (fun _ => ?_) (fun q => absurd q (by decide))
  refine pw_iconst (v := nI (0)) rfl (by decide) ?_
  exact pw_iret rfl rfl (Nat.zero_le _) (Nat.zero_le _) rfl k
theorem buse_y {F : FN} {p : Nat} (h0 : ¬ F (5 + 21 * p) 5 = 0) (h4 : ¬ F (5 + 21 * p) 5 = nI 4) : buse_r F p = nI 1 := by
  unfold buse_r
  rw [if_neg h0, if_neg h4]
theorem buse_n {F : FN} {p : Nat} (h : F (5 + 21 * p) 5 = 0 ∨ F (5 + 21 * p) 5 = nI 4) : buse_r F p = nI 0 := by
  unfold buse_r
  split
  · rfl
  · rw [if_pos (h.resolve_left (by assumption))]
theorem t_bclose_y {L p : Nat} {F G : FN} {R : RN} (hp : p < 4) (hR4 : R 4 p = some (5 + 21 * p)) (hP : pathok L (5 + 21 * p) R) (h0 : ¬ F (5 + 21 * p) 5 = 0) (h4 : ¬ F (5 + 21 * p) 5 = nI 4) {Q : Option PV → PH → Prop} (k : Q (some (.inl (nI 1))) (hb (sL L) (cshut_F F (5 + 21 * p)) G R sO)) : pz pP mSB_close [.inr (some 1), .inl (nI p)] (hb (sL L) F G R sO) Q := by
  show pw pP mSB_close (0, [some (.inr (some (1))), some (.inl (nI (p)))], [], 0, 0, hb (sL L) F G R sO) _
  refine pw_aload_n rfl rfl ?_
  refine pw_iload_n rfl rfl ?_
  refine px_callv (as := [.inr (some (1)), .inl (nI (p))]) (rest := []) rfl rfl (by decide) rfl (Nat.le_of_ble_eq_true rfl) (Nat.le_of_ble_eq_true rfl) (Nat.le_of_ble_eq_true rfl) (Nat.le_of_ble_eq_true rfl) rfl rfl rfl rfl ?_
  refine t_buse hp hR4 hP ?_
  rw [buse_y h0 h4]
  show pw pP mSB_close (5, [some (.inr (some (1))), some (.inl (nI (p)))], [.inl (nI (1))], 0, 0, hb (sL L) F G R sO) _
  refine pw_if1 (t := 10) rfl rfl (fun _ => ?_) (fun q => absurd q (by decide))
  refine pw_aload_n rfl rfl ?_
  refine px_getr (r := some (4)) rfl rfl rfl rfl rfl ?_
  refine pw_iload_n rfl rfl ?_
  refine px_aaldn (r := (some (5 + 21 * p))) rfl rfl rfl (by omega) (by decide) (hR4) ?_
  refine px_callv (as := [.inr (some (5 + 21 * p))]) (rest := []) rfl rfl (by decide) rfl (Nat.le_of_ble_eq_true rfl) (Nat.le_of_ble_eq_true rfl) (Nat.le_of_ble_eq_true rfl) (Nat.le_of_ble_eq_true rfl) rfl hP.1 rfl rfl ?_
  refine t_cshut hP ?_
  show pw pP mSB_close (19, [some (.inr (some (1))), some (.inl (nI (p)))], [], 0, 0, hb (sL L) (cshut_F F (5 + 21 * p)) G R sO) _
  refine pw_iconst (v := nI (1)) rfl (by decide) ?_
  exact pw_iret rfl rfl (Nat.zero_le _) (Nat.zero_le _) rfl k
theorem t_bclose_n {L p : Nat} {F G : FN} {R : RN} (hp : p < 4) (hR4 : R 4 p = some (5 + 21 * p)) (hP : pathok L (5 + 21 * p) R) (hn : F (5 + 21 * p) 5 = 0 ∨ F (5 + 21 * p) 5 = nI 4) {Q : Option PV → PH → Prop} (k : Q (some (.inl (nI 0))) (hb (sL L) F G R sO)) : pz pP mSB_close [.inr (some 1), .inl (nI p)] (hb (sL L) F G R sO) Q := by
  show pw pP mSB_close (0, [some (.inr (some (1))), some (.inl (nI (p)))], [], 0, 0, hb (sL L) F G R sO) _
  refine pw_aload_n rfl rfl ?_
  refine pw_iload_n rfl rfl ?_
  refine px_callv (as := [.inr (some (1)), .inl (nI (p))]) (rest := []) rfl rfl (by decide) rfl (Nat.le_of_ble_eq_true rfl) (Nat.le_of_ble_eq_true rfl) (Nat.le_of_ble_eq_true rfl) (Nat.le_of_ble_eq_true rfl) rfl rfl rfl rfl ?_
  refine t_buse hp hR4 hP ?_
  rw [buse_n hn]
  show pw pP mSB_close (5, [some (.inr (some (1))), some (.inl (nI (p)))], [.inl (nI (0))], 0, 0, hb (sL L) F G R sO) _
  refine pw_if1 (t := 10) rfl rfl (fun q => absurd q (by decide)) (fun _ => ?_)
  refine pw_iconst (v := nI (0)) rfl (by decide) ?_
  exact pw_iret rfl rfl (Nat.zero_le _) (Nat.zero_le _) rfl k
/-- SB_close -/
def bclose_no_r  : Int32 := nI (0)
theorem t_bclose_no {L : Nat} {p : Int32} {F G : FN} {R : RN} (hp : p < 0 ∨ nI 4 ≤ p) {Q : Option PV → PH → Prop} (k : Q (some (.inl (bclose_no_r ))) (hb (sL L) F G R sO)) : pz pP mSB_close [.inr (some (1)), .inl (p)] (hb (sL L) F G R sO) Q := by
  show pw pP mSB_close (0, [some (.inr (some (1))), some (.inl (p))], [], 0, 0, hb (sL L) F G R sO) _
  refine pw_aload_n rfl rfl ?_
  refine pw_iload_n rfl rfl ?_
  refine px_callv (as := [.inr (some (1)), .inl (p)]) (rest := []) rfl rfl (by decide) rfl (Nat.le_of_ble_eq_true rfl) (Nat.le_of_ble_eq_true rfl) (Nat.le_of_ble_eq_true rfl) (Nat.le_of_ble_eq_true rfl) rfl rfl rfl rfl ?_
  refine t_buse_no hp ?_
  show pw pP mSB_close (5, [some (.inr (some (1))), some (.inl (p))], [.inl (nI (0))], 0, 0, hb (sL L) F G R sO) _
  refine pw_if1 (t := 10) rfl rfl (fun q => absurd q (by decide)) (fun _ => ?_)
  refine pw_iconst (v := nI (0)) rfl (by decide) ?_
  exact pw_iret rfl rfl (Nat.zero_le _) (Nat.zero_le _) rfl k
/-- SB_delay -/
def bdelay_no_r  : Int32 := nI (0)
theorem t_bdelay_no {L : Nat} {p x : Int32} {F G : FN} {R : RN} (hp : p < 0 ∨ nI 4 ≤ p) {Q : Option PV → PH → Prop} (k : Q (some (.inl (bdelay_no_r ))) (hb (sL L) F G R sO)) : pz pP mSB_delay [.inr (some (1)), .inl (p), .inl (x)] (hb (sL L) F G R sO) Q := by
  show pw pP mSB_delay (0, [some (.inr (some (1))), some (.inl (p)), some (.inl (x))], [], 0, 0, hb (sL L) F G R sO) _
  refine pw_aload_n rfl rfl ?_
  refine pw_iload_n rfl rfl ?_
  refine px_callv (as := [.inr (some (1)), .inl (p)]) (rest := []) rfl rfl (by decide) rfl (Nat.le_of_ble_eq_true rfl) (Nat.le_of_ble_eq_true rfl) (Nat.le_of_ble_eq_true rfl) (Nat.le_of_ble_eq_true rfl) rfl rfl rfl rfl ?_
  refine t_buse_no hp ?_
  show pw pP mSB_delay (5, [some (.inr (some (1))), some (.inl (p)), some (.inl (x))], [.inl (nI (0))], 0, 0, hb (sL L) F G R sO) _
  refine pw_if1 (t := 18) rfl rfl (fun _ => ?_) (fun q => absurd q (by decide))
  refine pw_iconst (v := nI (0)) rfl (by decide) ?_
  exact pw_iret rfl rfl (Nat.zero_le _) (Nat.zero_le _) rfl k
theorem t_bdelay_y {L p : Nat} {x : Int32} {F G : FN} {R : RN} (hp : p < 4) (hR4 : R 4 p = some (5 + 21 * p)) (hP : pathok L (5 + 21 * p) R) (h0 : ¬ F (5 + 21 * p) 5 = 0) (h4 : ¬ F (5 + 21 * p) 5 = nI 4) (hx : ¬ x < 0) (hx4 : x ≤ nI 40) {Q : Option PV → PH → Prop} (k : Q (some (.inl (nI 1))) (hb (sL L) (up2 F (5 + 21 * p) 6 x) G R sO)) : pz pP mSB_delay [.inr (some 1), .inl (nI p), .inl x] (hb (sL L) F G R sO) Q := by
  show pw pP mSB_delay (0, [some (.inr (some (1))), some (.inl (nI (p))), some (.inl (x))], [], 0, 0, hb (sL L) F G R sO) _
  refine pw_aload_n rfl rfl ?_
  refine pw_iload_n rfl rfl ?_
  refine px_callv (as := [.inr (some (1)), .inl (nI (p))]) (rest := []) rfl rfl (by decide) rfl (Nat.le_of_ble_eq_true rfl) (Nat.le_of_ble_eq_true rfl) (Nat.le_of_ble_eq_true rfl) (Nat.le_of_ble_eq_true rfl) rfl rfl rfl rfl ?_
  refine t_buse hp hR4 hP ?_
  rw [buse_y h0 h4]
  show pw pP mSB_delay (5, [some (.inr (some (1))), some (.inl (nI (p))), some (.inl (x))], [.inl (nI (1))], 0, 0, hb (sL L) F G R sO) _
  refine pw_if1 (t := 18) rfl rfl (fun q => absurd q (by decide)) (fun _ => ?_)
  refine pw_iload_n rfl rfl ?_
  refine pw_if1p (A := x < 0) rfl rfl (t := 18) rfl (fun q => absurd q hx) (fun _ => ?_)
  refine pw_iload_n rfl rfl ?_
  refine pw_bipush (v := nI (40)) rfl (by decide) ?_
  refine pw_if2p (A := x ≤ nI (40)) rfl rfl (t := 20) rfl (fun _ => ?_) (fun q => absurd hx4 q)
  refine pw_aload_n rfl rfl ?_
  refine px_getr (r := some (4)) rfl rfl rfl rfl rfl ?_
  refine pw_iload_n rfl rfl ?_
  refine px_aaldn (r := (some (5 + 21 * p))) rfl rfl rfl (by omega) (by decide) (hR4) ?_
  refine pw_iload_n rfl rfl ?_
  refine px_put rfl rfl hP.1 rfl rfl ?_
  refine pw_iconst (v := nI (1)) rfl (by decide) ?_
  exact pw_iret rfl rfl (Nat.zero_le _) (Nat.zero_le _) rfl k
theorem t_bdelay_r {L p : Nat} {x : Int32} {F G : FN} {R : RN} (hp : p < 4) (hR4 : R 4 p = some (5 + 21 * p)) (hP : pathok L (5 + 21 * p) R) (h0 : ¬ F (5 + 21 * p) 5 = 0) (h4 : ¬ F (5 + 21 * p) 5 = nI 4) (hn : x < 0 ∨ ¬ x ≤ nI 40) {Q : Option PV → PH → Prop} (k : Q (some (.inl (nI 0))) (hb (sL L) F G R sO)) : pz pP mSB_delay [.inr (some 1), .inl (nI p), .inl x] (hb (sL L) F G R sO) Q := by
  show pw pP mSB_delay (0, [some (.inr (some (1))), some (.inl (nI (p))), some (.inl (x))], [], 0, 0, hb (sL L) F G R sO) _
  refine pw_aload_n rfl rfl ?_
  refine pw_iload_n rfl rfl ?_
  refine px_callv (as := [.inr (some (1)), .inl (nI (p))]) (rest := []) rfl rfl (by decide) rfl (Nat.le_of_ble_eq_true rfl) (Nat.le_of_ble_eq_true rfl) (Nat.le_of_ble_eq_true rfl) (Nat.le_of_ble_eq_true rfl) rfl rfl rfl rfl ?_
  refine t_buse hp hR4 hP ?_
  rw [buse_y h0 h4]
  show pw pP mSB_delay (5, [some (.inr (some (1))), some (.inl (nI (p))), some (.inl (x))], [.inl (nI (1))], 0, 0, hb (sL L) F G R sO) _
  refine pw_if1 (t := 18) rfl rfl (fun q => absurd q (by decide)) (fun _ => ?_)
  refine pw_iload_n rfl rfl ?_
  refine pw_if1p (A := x < 0) rfl rfl (t := 18) rfl (fun c1 => ?_) (fun c1 => ?_)
  · -- 18
    refine pw_iconst (v := nI (0)) rfl (by decide) ?_
    exact pw_iret rfl rfl (Nat.zero_le _) (Nat.zero_le _) rfl k
  · -- 12
    refine pw_iload_n rfl rfl ?_
    refine pw_bipush (v := nI (40)) rfl (by decide) ?_
    refine pw_if2p (A := x ≤ nI (40)) rfl rfl (t := 20) rfl (fun c2 => ?_) (fun c2 => ?_)
    · -- 20
      exact hn.elim (fun h => absurd h c1) (fun h => absurd c2 h)
    · -- 18
      refine pw_iconst (v := nI (0)) rfl (by decide) ?_
      exact pw_iret rfl rfl (Nat.zero_le _) (Nat.zero_le _) rfl k
theorem t_bdelay_n {L p : Nat} {x : Int32} {F G : FN} {R : RN} (hp : p < 4) (hR4 : R 4 p = some (5 + 21 * p)) (hP : pathok L (5 + 21 * p) R) (hn : F (5 + 21 * p) 5 = 0 ∨ F (5 + 21 * p) 5 = nI 4) {Q : Option PV → PH → Prop} (k : Q (some (.inl (nI 0))) (hb (sL L) F G R sO)) : pz pP mSB_delay [.inr (some 1), .inl (nI p), .inl x] (hb (sL L) F G R sO) Q := by
  show pw pP mSB_delay (0, [some (.inr (some (1))), some (.inl (nI (p))), some (.inl (x))], [], 0, 0, hb (sL L) F G R sO) _
  refine pw_aload_n rfl rfl ?_
  refine pw_iload_n rfl rfl ?_
  refine px_callv (as := [.inr (some (1)), .inl (nI (p))]) (rest := []) rfl rfl (by decide) rfl (Nat.le_of_ble_eq_true rfl) (Nat.le_of_ble_eq_true rfl) (Nat.le_of_ble_eq_true rfl) (Nat.le_of_ble_eq_true rfl) rfl rfl rfl rfl ?_
  refine t_buse hp hR4 hP ?_
  rw [buse_n hn]
  show pw pP mSB_delay (5, [some (.inr (some (1))), some (.inl (nI (p))), some (.inl (x))], [.inl (nI (0))], 0, 0, hb (sL L) F G R sO) _
  refine pw_if1 (t := 18) rfl rfl (fun _ => ?_) (fun q => absurd q (by decide))
  refine pw_iconst (v := nI (0)) rfl (by decide) ?_
  exact pw_iret rfl rfl (Nat.zero_le _) (Nat.zero_le _) rfl k
/-- SB_flight -/
def bflight0_r (F : FN) (p : Nat) : Int32 := F (5 + 21 * p + 1) (1)
theorem t_bflight0 {L p : Nat} {F G : FN} {R : RN} (hp : p < 4) (hR4 : R 4 p = some (5 + 21 * p)) (hP : pathok L (5 + 21 * p) R) {Q : Option PV → PH → Prop} (k : Q (some (.inl (bflight0_r F p))) (hb (sL L) F G R sO)) : pz pP mSB_flight [.inr (some (1)), .inl (nI (p)), .inl (nI (0))] (hb (sL L) F G R sO) Q := by
  show pw pP mSB_flight (0, [some (.inr (some (1))), some (.inl (nI (p))), some (.inl (nI (0)))], [], 0, 0, hb (sL L) F G R sO) _
  refine pw_iload_n rfl rfl ?_
  refine pw_calls (as := [.inl (nI (p))]) (rest := []) rfl rfl (by decide) rfl (Nat.le_of_ble_eq_true rfl) (Nat.le_of_ble_eq_true rfl) (Nat.le_of_ble_eq_true rfl) (Nat.le_of_ble_eq_true rfl) rfl rfl ?_
  refine t_bpath_in hp ?_
  show pw pP mSB_flight (4, [some (.inr (some (1))), some (.inl (nI (p))), some (.inl (nI (0)))], [.inl (nI (1))], 0, 0, hb (sL L) F G R sO) _
  refine pw_if1 (t := 23) rfl rfl (fun q => absurd q (by decide)) (fun _ => ?_)
  refine pw_aload_n rfl rfl ?_
  refine px_getr (r := some (4)) rfl rfl rfl rfl rfl ?_
  refine pw_iload_n rfl rfl ?_
  refine px_aaldn (r := (some (5 + 21 * p))) rfl rfl rfl (by omega) (by decide) (hR4) ?_
  refine pw_iload_n rfl rfl ?_
  refine px_callv (as := [.inr (some (5 + 21 * p)), .inl (nI (0))]) (rest := []) rfl rfl (by decide) rfl (Nat.le_of_ble_eq_true rfl) (Nat.le_of_ble_eq_true rfl) (Nat.le_of_ble_eq_true rfl) (Nat.le_of_ble_eq_true rfl) rfl hP.1 rfl rfl ?_
  refine t_cpipe0 hP ?_
  show pw pP mSB_flight (17, [some (.inr (some (1))), some (.inl (nI (p))), some (.inl (nI (0)))], [.inr (some (5 + 21 * p + 1))], 0, 0, hb (sL L) F G R sO) _
  refine px_getv (x := F (5 + 21 * p + 1) (1)) rfl rfl hP.2.2.1.1 rfl (rfl) ?_
  refine pw_goto (t := 24) rfl rfl ?_
  exact pw_iret rfl rfl (Nat.zero_le _) (Nat.zero_le _) rfl k
/-- SB_flight -/
def bflight_no0_r  : Int32 := (-1)
theorem t_bflight_no0 {L : Nat} {p : Int32} {F G : FN} {R : RN} (hp : p < 0 ∨ nI 4 ≤ p) {Q : Option PV → PH → Prop} (k : Q (some (.inl (bflight_no0_r ))) (hb (sL L) F G R sO)) : pz pP mSB_flight [.inr (some (1)), .inl (p), .inl (nI (0))] (hb (sL L) F G R sO) Q := by
  show pw pP mSB_flight (0, [some (.inr (some (1))), some (.inl (p)), some (.inl (nI (0)))], [], 0, 0, hb (sL L) F G R sO) _
  refine pw_iload_n rfl rfl ?_
  refine pw_calls (as := [.inl (p)]) (rest := []) rfl rfl (by decide) rfl (Nat.le_of_ble_eq_true rfl) (Nat.le_of_ble_eq_true rfl) (Nat.le_of_ble_eq_true rfl) (Nat.le_of_ble_eq_true rfl) rfl rfl ?_
  refine t_bpath_out hp ?_
  show pw pP mSB_flight (4, [some (.inr (some (1))), some (.inl (p)), some (.inl (nI (0)))], [.inl (nI (0))], 0, 0, hb (sL L) F G R sO) _
  refine pw_if1 (t := 23) rfl rfl (fun _ => ?_) (fun q => absurd q (by decide))
  refine pw_iconst (v := (-1)) rfl (by decide) ?_
  exact pw_iret rfl rfl (Nat.zero_le _) (Nat.zero_le _) rfl k
theorem t_blose_in0 {L p sz kk x : Nat} {F G : FN} {R : RN} (hp : p < 4) (hR4 : R 4 p = some (5 + 21 * p)) (hP : pathok L (5 + 21 * p) R) (hsz : F (5 + 21 * p + 1) 1 = nI sz) (hs6 : sz ≤ 6) (hk : kk < sz) (hx : R (5 + 21 * p + 1 + 1) kk = some x) (hsx : (sL L)[x]? = some (2, 1, [0, 0, 0, 0, 0, 0], 0)) {Q : Option PV → PH → Prop} (k : Q (some (.inl (nI 1))) (hb (sL L) (tout_F F (5 + 21 * p + 1) sz) G (tout_R R (5 + 21 * p + 1) sz kk x) sO)) : pz pP mSB_lose [.inr (some 1), .inl (nI p), .inl (nI 0), .inl (nI kk)] (hb (sL L) F G R sO) Q := by
  show pw pP mSB_lose (0, [some (.inr (some (1))), some (.inl (nI (p))), some (.inl (nI (0))), some (.inl (nI (kk)))], [], 0, 0, hb (sL L) F G R sO) _
  refine pw_iload_n rfl rfl ?_
  refine pw_calls (as := [.inl (nI (p))]) (rest := []) rfl rfl (by decide) rfl (Nat.le_of_ble_eq_true rfl) (Nat.le_of_ble_eq_true rfl) (Nat.le_of_ble_eq_true rfl) (Nat.le_of_ble_eq_true rfl) rfl rfl ?_
  refine t_bpath_in hp ?_
  show pw pP mSB_lose (4, [some (.inr (some (1))), some (.inl (nI (p))), some (.inl (nI (0))), some (.inl (nI (kk)))], [.inl (nI (1))], 0, 0, hb (sL L) F G R sO) _
  refine pw_if1 (t := 28) rfl rfl (fun q => absurd q (by decide)) (fun _ => ?_)
  refine pw_aload_n rfl rfl ?_
  refine px_getr (r := some (4)) rfl rfl rfl rfl rfl ?_
  refine pw_iload_n rfl rfl ?_
  refine px_aaldn (r := (some (5 + 21 * p))) rfl rfl rfl (by omega) (by decide) (hR4) ?_
  refine pw_iload_n rfl rfl ?_
  refine px_callv (as := [.inr (some (5 + 21 * p)), .inl (nI (0))]) (rest := []) rfl rfl (by decide) rfl (Nat.le_of_ble_eq_true rfl) (Nat.le_of_ble_eq_true rfl) (Nat.le_of_ble_eq_true rfl) (Nat.le_of_ble_eq_true rfl) rfl hP.1 rfl rfl ?_
  refine t_cpipe0 hP ?_
  show pw pP mSB_lose (17, [some (.inr (some (1))), some (.inl (nI (p))), some (.inl (nI (0))), some (.inl (nI (kk)))], [.inr (some (5 + 21 * p + 1))], 0, 0, hb (sL L) F G R sO) _
  refine pw_iload_n rfl rfl ?_
  refine px_callv (as := [.inr (some (5 + 21 * p + 1)), .inl (nI (kk))]) (rest := []) rfl rfl (by decide) rfl (Nat.le_of_ble_eq_true rfl) (Nat.le_of_ble_eq_true rfl) (Nat.le_of_ble_eq_true rfl) (Nat.le_of_ble_eq_true rfl) rfl hP.2.2.1.1 rfl rfl ?_
  refine t_takeOut hP.2.2.1 hsz hs6 hk hx hsx ?_
  show pw pP mSB_lose (21, [some (.inr (some (1))), some (.inl (nI (p))), some (.inl (nI (0))), some (.inl (nI (kk)))], [.inr (some (x))], 0, 0, hb (sL L) (tout_F F (5 + 21 * p + 1) sz) G (tout_R R (5 + 21 * p + 1) sz kk x) sO) _
  refine pw_ifnull (t := 28) rfl rfl ?_
  refine pw_iconst (v := nI (1)) rfl (by decide) ?_
  refine pw_goto (t := 29) rfl rfl ?_
  exact pw_iret rfl rfl (Nat.zero_le _) (Nat.zero_le _) rfl k
theorem t_blose_out0 {L p sz : Nat} {z : Int32} {F G : FN} {R : RN} (hp : p < 4) (hR4 : R 4 p = some (5 + 21 * p)) (hP : pathok L (5 + 21 * p) R) (hsz : F (5 + 21 * p + 1) 1 = nI sz) (hs6 : sz ≤ 6) (hz : z < 0 ∨ nI sz ≤ z) {Q : Option PV → PH → Prop} (k : Q (some (.inl (nI 0))) (hb (sL L) F G R sO)) : pz pP mSB_lose [.inr (some 1), .inl (nI p), .inl (nI 0), .inl z] (hb (sL L) F G R sO) Q := by
  show pw pP mSB_lose (0, [some (.inr (some (1))), some (.inl (nI (p))), some (.inl (nI (0))), some (.inl (z))], [], 0, 0, hb (sL L) F G R sO) _
  refine pw_iload_n rfl rfl ?_
  refine pw_calls (as := [.inl (nI (p))]) (rest := []) rfl rfl (by decide) rfl (Nat.le_of_ble_eq_true rfl) (Nat.le_of_ble_eq_true rfl) (Nat.le_of_ble_eq_true rfl) (Nat.le_of_ble_eq_true rfl) rfl rfl ?_
  refine t_bpath_in hp ?_
  show pw pP mSB_lose (4, [some (.inr (some (1))), some (.inl (nI (p))), some (.inl (nI (0))), some (.inl (z))], [.inl (nI (1))], 0, 0, hb (sL L) F G R sO) _
  refine pw_if1 (t := 28) rfl rfl (fun q => absurd q (by decide)) (fun _ => ?_)
  refine pw_aload_n rfl rfl ?_
  refine px_getr (r := some (4)) rfl rfl rfl rfl rfl ?_
  refine pw_iload_n rfl rfl ?_
  refine px_aaldn (r := (some (5 + 21 * p))) rfl rfl rfl (by omega) (by decide) (hR4) ?_
  refine pw_iload_n rfl rfl ?_
  refine px_callv (as := [.inr (some (5 + 21 * p)), .inl (nI (0))]) (rest := []) rfl rfl (by decide) rfl (Nat.le_of_ble_eq_true rfl) (Nat.le_of_ble_eq_true rfl) (Nat.le_of_ble_eq_true rfl) (Nat.le_of_ble_eq_true rfl) rfl hP.1 rfl rfl ?_
  refine t_cpipe0 hP ?_
  show pw pP mSB_lose (17, [some (.inr (some (1))), some (.inl (nI (p))), some (.inl (nI (0))), some (.inl (z))], [.inr (some (5 + 21 * p + 1))], 0, 0, hb (sL L) F G R sO) _
  refine pw_iload_n rfl rfl ?_
  refine px_callv (as := [.inr (some (5 + 21 * p + 1)), .inl (z)]) (rest := []) rfl rfl (by decide) rfl (Nat.le_of_ble_eq_true rfl) (Nat.le_of_ble_eq_true rfl) (Nat.le_of_ble_eq_true rfl) (Nat.le_of_ble_eq_true rfl) rfl hP.2.2.1.1 rfl rfl ?_
  refine t_takeOut_out hP.2.2.1 hsz hs6 hz ?_
  show pw pP mSB_lose (21, [some (.inr (some (1))), some (.inl (nI (p))), some (.inl (nI (0))), some (.inl (z))], [.inr none], 0, 0, hb (sL L) F G R sO) _
  refine pw_ifnullN (t := 28) rfl rfl ?_
  refine pw_iconst (v := nI (0)) rfl (by decide) ?_
  exact pw_iret rfl rfl (Nat.zero_le _) (Nat.zero_le _) rfl k
/-- SB_lose -/
def blose_no0_r  : Int32 := nI (0)
theorem t_blose_no0 {L : Nat} {p z : Int32} {F G : FN} {R : RN} (hp : p < 0 ∨ nI 4 ≤ p) {Q : Option PV → PH → Prop} (k : Q (some (.inl (blose_no0_r ))) (hb (sL L) F G R sO)) : pz pP mSB_lose [.inr (some (1)), .inl (p), .inl (nI (0)), .inl (z)] (hb (sL L) F G R sO) Q := by
  show pw pP mSB_lose (0, [some (.inr (some (1))), some (.inl (p)), some (.inl (nI (0))), some (.inl (z))], [], 0, 0, hb (sL L) F G R sO) _
  refine pw_iload_n rfl rfl ?_
  refine pw_calls (as := [.inl (p)]) (rest := []) rfl rfl (by decide) rfl (Nat.le_of_ble_eq_true rfl) (Nat.le_of_ble_eq_true rfl) (Nat.le_of_ble_eq_true rfl) (Nat.le_of_ble_eq_true rfl) rfl rfl ?_
  refine t_bpath_out hp ?_
  show pw pP mSB_lose (4, [some (.inr (some (1))), some (.inl (p)), some (.inl (nI (0))), some (.inl (z))], [.inl (nI (0))], 0, 0, hb (sL L) F G R sO) _
  refine pw_if1 (t := 28) rfl rfl (fun _ => ?_) (fun q => absurd q (by decide))
  refine pw_iconst (v := nI (0)) rfl (by decide) ?_
  exact pw_iret rfl rfl (Nat.zero_le _) (Nat.zero_le _) rfl k
/-- SB_twice -/
def btwice_no0_r  : Int32 := nI (0)
theorem t_btwice_no0 {L : Nat} {p z d : Int32} {F G : FN} {R : RN} (hp : p < 0 ∨ nI 4 ≤ p) {Q : Option PV → PH → Prop} (k : Q (some (.inl (btwice_no0_r ))) (hb (sL L) F G R sO)) : pz pP mSB_twice [.inr (some (1)), .inl (p), .inl (nI (0)), .inl (z), .inl (d)] (hb (sL L) F G R sO) Q := by
  show pw pP mSB_twice (0, [some (.inr (some (1))), some (.inl (p)), some (.inl (nI (0))), some (.inl (z)), some (.inl (d)), none, none, none], [], 0, 0, hb (sL L) F G R sO) _
  refine pw_iload_n rfl rfl ?_
  refine pw_calls (as := [.inl (p)]) (rest := []) rfl rfl (by decide) rfl (Nat.le_of_ble_eq_true rfl) (Nat.le_of_ble_eq_true rfl) (Nat.le_of_ble_eq_true rfl) (Nat.le_of_ble_eq_true rfl) rfl rfl ?_
  refine t_bpath_out hp ?_
  show pw pP mSB_twice (4, [some (.inr (some (1))), some (.inl (p)), some (.inl (nI (0))), some (.inl (z)), some (.inl (d)), none, none, none], [.inl (nI (0))], 0, 0, hb (sL L) F G R sO) _
  refine pw_if1 (t := 20) rfl rfl (fun _ => ?_) (fun q => absurd q (by decide))
  refine pw_iconst (v := nI (0)) rfl (by decide) ?_
  exact pw_iret rfl rfl (Nat.zero_le _) (Nat.zero_le _) rfl k
theorem t_btwice_d0 {L p : Nat} {z d : Int32} {F G : FN} {R : RN} (hp : p < 4) (hR4 : R 4 p = some (5 + 21 * p)) (hP : pathok L (5 + 21 * p) R) (hd : d < nI 1 ∨ ¬ d ≤ nI 40) {Q : Option PV → PH → Prop} (k : Q (some (.inl (nI 0))) (hb (sL L) F G R sO)) : pz pP mSB_twice [.inr (some 1), .inl (nI p), .inl (nI 0), .inl z, .inl d] (hb (sL L) F G R sO) Q := by
  show pw pP mSB_twice (0, [some (.inr (some (1))), some (.inl (nI (p))), some (.inl (nI (0))), some (.inl (z)), some (.inl (d)), none, none, none], [], 0, 0, hb (sL L) F G R sO) _
  refine pw_iload_n rfl rfl ?_
  refine pw_calls (as := [.inl (nI (p))]) (rest := []) rfl rfl (by decide) rfl (Nat.le_of_ble_eq_true rfl) (Nat.le_of_ble_eq_true rfl) (Nat.le_of_ble_eq_true rfl) (Nat.le_of_ble_eq_true rfl) rfl rfl ?_
  refine t_bpath_in hp ?_
  show pw pP mSB_twice (4, [some (.inr (some (1))), some (.inl (nI (p))), some (.inl (nI (0))), some (.inl (z)), some (.inl (d)), none, none, none], [.inl (nI (1))], 0, 0, hb (sL L) F G R sO) _
  refine pw_if1 (t := 20) rfl rfl (fun q => absurd q (by decide)) (fun _ => ?_)
  refine pw_iload rfl rfl ?_
  refine pw_iconst (v := nI (1)) rfl (by decide) ?_
  refine pw_if2p (A := d < nI (1)) rfl rfl (t := 20) rfl (fun c1 => ?_) (fun c1 => ?_)
  · -- 20
    refine pw_iconst (v := nI (0)) rfl (by decide) ?_
    exact pw_iret rfl rfl (Nat.zero_le _) (Nat.zero_le _) rfl k
  · -- 13
    refine pw_iload rfl rfl ?_
    refine pw_bipush (v := nI (40)) rfl (by decide) ?_
    refine pw_if2p (A := d ≤ nI (40)) rfl rfl (t := 22) rfl (fun c2 => ?_) (fun c2 => ?_)
    · -- 22
      exact hd.elim (fun h => absurd h c1) (fun h => absurd c2 h)
    · -- 20
      refine pw_iconst (v := nI (0)) rfl (by decide) ?_
      exact pw_iret rfl rfl (Nat.zero_le _) (Nat.zero_le _) rfl k
theorem t_btwice_out0 {L p sz : Nat} {z d : Int32} {F G : FN} {R : RN} (hp : p < 4) (hR4 : R 4 p = some (5 + 21 * p)) (hP : pathok L (5 + 21 * p) R) (hsz : F (5 + 21 * p + 1) 1 = nI sz) (hs6 : sz ≤ 6) (hz : z < 0 ∨ nI sz ≤ z) (hd1 : ¬ d < nI 1) (hd2 : d ≤ nI 40) {Q : Option PV → PH → Prop} (k : Q (some (.inl (nI 0))) (hb (sL L) F G R sO)) : pz pP mSB_twice [.inr (some 1), .inl (nI p), .inl (nI 0), .inl z, .inl d] (hb (sL L) F G R sO) Q := by
  show pw pP mSB_twice (0, [some (.inr (some (1))), some (.inl (nI (p))), some (.inl (nI (0))), some (.inl (z)), some (.inl (d)), none, none, none], [], 0, 0, hb (sL L) F G R sO) _
  refine pw_iload_n rfl rfl ?_
  refine pw_calls (as := [.inl (nI (p))]) (rest := []) rfl rfl (by decide) rfl (Nat.le_of_ble_eq_true rfl) (Nat.le_of_ble_eq_true rfl) (Nat.le_of_ble_eq_true rfl) (Nat.le_of_ble_eq_true rfl) rfl rfl ?_
  refine t_bpath_in hp ?_
  show pw pP mSB_twice (4, [some (.inr (some (1))), some (.inl (nI (p))), some (.inl (nI (0))), some (.inl (z)), some (.inl (d)), none, none, none], [.inl (nI (1))], 0, 0, hb (sL L) F G R sO) _
  refine pw_if1 (t := 20) rfl rfl (fun q => absurd q (by decide)) (fun _ => ?_)
  refine pw_iload rfl rfl ?_
  refine pw_iconst (v := nI (1)) rfl (by decide) ?_
  refine pw_if2p (A := d < nI (1)) rfl rfl (t := 20) rfl (fun q => absurd q hd1) (fun _ => ?_)
  refine pw_iload rfl rfl ?_
  refine pw_bipush (v := nI (40)) rfl (by decide) ?_
  refine pw_if2p (A := d ≤ nI (40)) rfl rfl (t := 22) rfl (fun _ => ?_) (fun q => absurd hd2 q)
  refine pw_aload_n rfl rfl ?_
  refine px_getr (r := some (4)) rfl rfl rfl rfl rfl ?_
  refine pw_iload_n rfl rfl ?_
  refine px_aaldn (r := (some (5 + 21 * p))) rfl rfl rfl (by omega) (by decide) (hR4) ?_
  refine pw_iload_n rfl rfl ?_
  refine px_callv (as := [.inr (some (5 + 21 * p)), .inl (nI (0))]) (rest := []) rfl rfl (by decide) rfl (Nat.le_of_ble_eq_true rfl) (Nat.le_of_ble_eq_true rfl) (Nat.le_of_ble_eq_true rfl) (Nat.le_of_ble_eq_true rfl) rfl hP.1 rfl rfl ?_
  refine t_cpipe0 hP ?_
  show pw pP mSB_twice (32, [some (.inr (some (1))), some (.inl (nI (p))), some (.inl (nI (0))), some (.inl (z)), some (.inl (d)), none, none, none], [.inr (some (5 + 21 * p + 1))], 0, 0, hb (sL L) F G R sO) _
  refine pw_astore (ls1 := [some (.inr (some (1))), some (.inl (nI (p))), some (.inl (nI (0))), some (.inl (z)), some (.inl (d)), some (.inr (some (5 + 21 * p + 1))), none, none]) rfl (Nat.le_of_ble_eq_true rfl) rfl ?_
  refine pw_aload rfl rfl ?_
  refine pw_iload_n rfl rfl ?_
  refine px_callv (as := [.inr (some (5 + 21 * p + 1)), .inl (z)]) (rest := []) rfl rfl (by decide) rfl (Nat.le_of_ble_eq_true rfl) (Nat.le_of_ble_eq_true rfl) (Nat.le_of_ble_eq_true rfl) (Nat.le_of_ble_eq_true rfl) rfl hP.2.2.1.1 rfl rfl ?_
  refine t_copyAt_out hP.2.2.1 hsz hs6 hz ?_
  show pw pP mSB_twice (40, [some (.inr (some (1))), some (.inl (nI (p))), some (.inl (nI (0))), some (.inl (z)), some (.inl (d)), some (.inr (some (5 + 21 * p + 1))), none, none], [.inr none], 0, 0, hb (sL L) F G R sO) _
  refine pw_astore (ls1 := [some (.inr (some (1))), some (.inl (nI (p))), some (.inl (nI (0))), some (.inl (z)), some (.inl (d)), some (.inr (some (5 + 21 * p + 1))), some (.inr none), none]) rfl (Nat.le_of_ble_eq_true rfl) rfl ?_
  refine pw_aload rfl rfl ?_
  refine pw_ifnonnullN (t := 49) rfl rfl ?_
  refine pw_iconst (v := nI (0)) rfl (by decide) ?_
  exact pw_iret rfl rfl (Nat.zero_le _) (Nat.zero_le _) rfl k
theorem t_btwice_60 {L p kk x : Nat} {d : Int32} {F G : FN} {R : RN} (hp : p < 4) (hR4 : R 4 p = some (5 + 21 * p)) (hP : pathok L (5 + 21 * p) R) (hsz : F (5 + 21 * p + 1) 1 = nI 6) (hk : kk < 6) (hx : R (5 + 21 * p + 1 + 1) kk = some x) (hsx : (sL L)[x]? = some (2, 1, [0, 0, 0, 0, 0, 0], 0)) (hd1 : ¬ d < nI 1) (hd2 : d ≤ nI 40) {Q : Option PV → PH → Prop} (k : Q (some (.inl (nI 0))) (hb (sL L) F G R sO)) : pz pP mSB_twice [.inr (some 1), .inl (nI p), .inl (nI 0), .inl (nI kk), .inl d] (hb (sL L) F G R sO) Q := by
  show pw pP mSB_twice (0, [some (.inr (some (1))), some (.inl (nI (p))), some (.inl (nI (0))), some (.inl (nI (kk))), some (.inl (d)), none, none, none], [], 0, 0, hb (sL L) F G R sO) _
  refine pw_iload_n rfl rfl ?_
  refine pw_calls (as := [.inl (nI (p))]) (rest := []) rfl rfl (by decide) rfl (Nat.le_of_ble_eq_true rfl) (Nat.le_of_ble_eq_true rfl) (Nat.le_of_ble_eq_true rfl) (Nat.le_of_ble_eq_true rfl) rfl rfl ?_
  refine t_bpath_in hp ?_
  show pw pP mSB_twice (4, [some (.inr (some (1))), some (.inl (nI (p))), some (.inl (nI (0))), some (.inl (nI (kk))), some (.inl (d)), none, none, none], [.inl (nI (1))], 0, 0, hb (sL L) F G R sO) _
  refine pw_if1 (t := 20) rfl rfl (fun q => absurd q (by decide)) (fun _ => ?_)
  refine pw_iload rfl rfl ?_
  refine pw_iconst (v := nI (1)) rfl (by decide) ?_
  refine pw_if2p (A := d < nI (1)) rfl rfl (t := 20) rfl (fun q => absurd q hd1) (fun _ => ?_)
  refine pw_iload rfl rfl ?_
  refine pw_bipush (v := nI (40)) rfl (by decide) ?_
  refine pw_if2p (A := d ≤ nI (40)) rfl rfl (t := 22) rfl (fun _ => ?_) (fun q => absurd hd2 q)
  refine pw_aload_n rfl rfl ?_
  refine px_getr (r := some (4)) rfl rfl rfl rfl rfl ?_
  refine pw_iload_n rfl rfl ?_
  refine px_aaldn (r := (some (5 + 21 * p))) rfl rfl rfl (by omega) (by decide) (hR4) ?_
  refine pw_iload_n rfl rfl ?_
  refine px_callv (as := [.inr (some (5 + 21 * p)), .inl (nI (0))]) (rest := []) rfl rfl (by decide) rfl (Nat.le_of_ble_eq_true rfl) (Nat.le_of_ble_eq_true rfl) (Nat.le_of_ble_eq_true rfl) (Nat.le_of_ble_eq_true rfl) rfl hP.1 rfl rfl ?_
  refine t_cpipe0 hP ?_
  show pw pP mSB_twice (32, [some (.inr (some (1))), some (.inl (nI (p))), some (.inl (nI (0))), some (.inl (nI (kk))), some (.inl (d)), none, none, none], [.inr (some (5 + 21 * p + 1))], 0, 0, hb (sL L) F G R sO) _
  refine pw_astore (ls1 := [some (.inr (some (1))), some (.inl (nI (p))), some (.inl (nI (0))), some (.inl (nI (kk))), some (.inl (d)), some (.inr (some (5 + 21 * p + 1))), none, none]) rfl (Nat.le_of_ble_eq_true rfl) rfl ?_
  refine pw_aload rfl rfl ?_
  refine pw_iload_n rfl rfl ?_
  refine px_callv (as := [.inr (some (5 + 21 * p + 1)), .inl (nI (kk))]) (rest := []) rfl rfl (by decide) rfl (Nat.le_of_ble_eq_true rfl) (Nat.le_of_ble_eq_true rfl) (Nat.le_of_ble_eq_true rfl) (Nat.le_of_ble_eq_true rfl) rfl hP.2.2.1.1 rfl rfl ?_
  refine t_copyAt hP.2.2.1 hsz (by omega) hk hx hsx ?_
  show pw pP mSB_twice (40, [some (.inr (some (1))), some (.inl (nI (p))), some (.inl (nI (0))), some (.inl (nI (kk))), some (.inl (d)), some (.inr (some (5 + 21 * p + 1))), none, none], [.inr (some (x))], 0, 0, hb (sL L) F G R sO) _
  refine pw_astore (ls1 := [some (.inr (some (1))), some (.inl (nI (p))), some (.inl (nI (0))), some (.inl (nI (kk))), some (.inl (d)), some (.inr (some (5 + 21 * p + 1))), some (.inr (some (x))), none]) rfl (Nat.le_of_ble_eq_true rfl) rfl ?_
  refine pw_aload rfl rfl ?_
  refine pw_ifnonnull (t := 49) rfl rfl ?_
  refine pw_aload rfl rfl ?_
  refine pw_aload_n rfl rfl ?_
  refine px_getv (x := F (1) (5)) rfl rfl rfl rfl (rfl) ?_
  refine pw_iload rfl rfl ?_
  refine pw_iadd (z := (F (1) (5)) + d) rfl rfl ?_
  refine px_callv (as := [.inr (some (5 + 21 * p + 1)), .inl ((F (1) (5)) + d)]) (rest := []) rfl rfl (by decide) rfl (Nat.le_of_ble_eq_true rfl) (Nat.le_of_ble_eq_true rfl) (Nat.le_of_ble_eq_true rfl) (Nat.le_of_ble_eq_true rfl) rfl hP.2.2.1.1 rfl rfl ?_
  refine t_append_no hP.2.2.1 hsz ?_
  show pw pP mSB_twice (61, [some (.inr (some (1))), some (.inl (nI (p))), some (.inl (nI (0))), some (.inl (nI (kk))), some (.inl (d)), some (.inr (some (5 + 21 * p + 1))), some (.inr (some (x))), none], [.inr none], 0, 0, hb (sL L) F G R sO) _
  refine pw_astore (ls1 := [some (.inr (some (1))), some (.inl (nI (p))), some (.inl (nI (0))), some (.inl (nI (kk))), some (.inl (d)), some (.inr (some (5 + 21 * p + 1))), some (.inr (some (x))), some (.inr none)]) rfl (Nat.le_of_ble_eq_true rfl) rfl ?_
  refine pw_aload rfl rfl ?_
  refine pw_ifnonnullN (t := 70) rfl rfl ?_
  refine pw_iconst (v := nI (0)) rfl (by decide) ?_
  exact pw_iret rfl rfl (Nat.zero_le _) (Nat.zero_le _) rfl k
theorem t_btwice_in0 {L p sz kk x y : Nat} {d : Int32} {F G : FN} {R : RN} (hp : p < 4) (hR4 : R 4 p = some (5 + 21 * p)) (hP : pathok L (5 + 21 * p) R) (hsz : F (5 + 21 * p + 1) 1 = nI sz) (hs6 : sz < 6) (hk : kk < sz) (hx : R (5 + 21 * p + 1 + 1) kk = some x) (hsx : (sL L)[x]? = some (2, 1, [0, 0, 0, 0, 0, 0], 0)) (hy : R (5 + 21 * p + 1 + 1) sz = some y) (hsy : (sL L)[y]? = some (2, 1, [0, 0, 0, 0, 0, 0], 0)) (hxy : ¬ x = y) (hxe : ¬ x = 5 + 21 * p + 1) (hd1 : ¬ d < nI 1) (hd2 : d ≤ nI 40) {Q : Option PV → PH → Prop} (k : Q (some (.inl (nI 1))) (hb (sL L) (cfill_F (append_F F (5 + 21 * p + 1) y sz (F 1 5 + d)) y (F x 0) (F x 1) (F x 2) (F x 3) (F x 4)) G R sO)) : pz pP mSB_twice [.inr (some 1), .inl (nI p), .inl (nI 0), .inl (nI kk), .inl d] (hb (sL L) F G R sO) Q := by
  show pw pP mSB_twice (0, [some (.inr (some (1))), some (.inl (nI (p))), some (.inl (nI (0))), some (.inl (nI (kk))), some (.inl (d)), none, none, none], [], 0, 0, hb (sL L) F G R sO) _
  refine pw_iload_n rfl rfl ?_
  refine pw_calls (as := [.inl (nI (p))]) (rest := []) rfl rfl (by decide) rfl (Nat.le_of_ble_eq_true rfl) (Nat.le_of_ble_eq_true rfl) (Nat.le_of_ble_eq_true rfl) (Nat.le_of_ble_eq_true rfl) rfl rfl ?_
  refine t_bpath_in hp ?_
  show pw pP mSB_twice (4, [some (.inr (some (1))), some (.inl (nI (p))), some (.inl (nI (0))), some (.inl (nI (kk))), some (.inl (d)), none, none, none], [.inl (nI (1))], 0, 0, hb (sL L) F G R sO) _
  refine pw_if1 (t := 20) rfl rfl (fun q => absurd q (by decide)) (fun _ => ?_)
  refine pw_iload rfl rfl ?_
  refine pw_iconst (v := nI (1)) rfl (by decide) ?_
  refine pw_if2p (A := d < nI (1)) rfl rfl (t := 20) rfl (fun q => absurd q hd1) (fun _ => ?_)
  refine pw_iload rfl rfl ?_
  refine pw_bipush (v := nI (40)) rfl (by decide) ?_
  refine pw_if2p (A := d ≤ nI (40)) rfl rfl (t := 22) rfl (fun _ => ?_) (fun q => absurd hd2 q)
  refine pw_aload_n rfl rfl ?_
  refine px_getr (r := some (4)) rfl rfl rfl rfl rfl ?_
  refine pw_iload_n rfl rfl ?_
  refine px_aaldn (r := (some (5 + 21 * p))) rfl rfl rfl (by omega) (by decide) (hR4) ?_
  refine pw_iload_n rfl rfl ?_
  refine px_callv (as := [.inr (some (5 + 21 * p)), .inl (nI (0))]) (rest := []) rfl rfl (by decide) rfl (Nat.le_of_ble_eq_true rfl) (Nat.le_of_ble_eq_true rfl) (Nat.le_of_ble_eq_true rfl) (Nat.le_of_ble_eq_true rfl) rfl hP.1 rfl rfl ?_
  refine t_cpipe0 hP ?_
  show pw pP mSB_twice (32, [some (.inr (some (1))), some (.inl (nI (p))), some (.inl (nI (0))), some (.inl (nI (kk))), some (.inl (d)), none, none, none], [.inr (some (5 + 21 * p + 1))], 0, 0, hb (sL L) F G R sO) _
  refine pw_astore (ls1 := [some (.inr (some (1))), some (.inl (nI (p))), some (.inl (nI (0))), some (.inl (nI (kk))), some (.inl (d)), some (.inr (some (5 + 21 * p + 1))), none, none]) rfl (Nat.le_of_ble_eq_true rfl) rfl ?_
  refine pw_aload rfl rfl ?_
  refine pw_iload_n rfl rfl ?_
  refine px_callv (as := [.inr (some (5 + 21 * p + 1)), .inl (nI (kk))]) (rest := []) rfl rfl (by decide) rfl (Nat.le_of_ble_eq_true rfl) (Nat.le_of_ble_eq_true rfl) (Nat.le_of_ble_eq_true rfl) (Nat.le_of_ble_eq_true rfl) rfl hP.2.2.1.1 rfl rfl ?_
  refine t_copyAt hP.2.2.1 hsz (by omega) hk hx hsx ?_
  show pw pP mSB_twice (40, [some (.inr (some (1))), some (.inl (nI (p))), some (.inl (nI (0))), some (.inl (nI (kk))), some (.inl (d)), some (.inr (some (5 + 21 * p + 1))), none, none], [.inr (some (x))], 0, 0, hb (sL L) F G R sO) _
  refine pw_astore (ls1 := [some (.inr (some (1))), some (.inl (nI (p))), some (.inl (nI (0))), some (.inl (nI (kk))), some (.inl (d)), some (.inr (some (5 + 21 * p + 1))), some (.inr (some (x))), none]) rfl (Nat.le_of_ble_eq_true rfl) rfl ?_
  refine pw_aload rfl rfl ?_
  refine pw_ifnonnull (t := 49) rfl rfl ?_
  refine pw_aload rfl rfl ?_
  refine pw_aload_n rfl rfl ?_
  refine px_getv (x := F (1) (5)) rfl rfl rfl rfl (rfl) ?_
  refine pw_iload rfl rfl ?_
  refine pw_iadd (z := (F (1) (5)) + d) rfl rfl ?_
  refine px_callv (as := [.inr (some (5 + 21 * p + 1)), .inl ((F (1) (5)) + d)]) (rest := []) rfl rfl (by decide) rfl (Nat.le_of_ble_eq_true rfl) (Nat.le_of_ble_eq_true rfl) (Nat.le_of_ble_eq_true rfl) (Nat.le_of_ble_eq_true rfl) rfl hP.2.2.1.1 rfl rfl ?_
  refine t_append hP.2.2.1 hsz hs6 hy hsy ?_
  show pw pP mSB_twice (61, [some (.inr (some (1))), some (.inl (nI (p))), some (.inl (nI (0))), some (.inl (nI (kk))), some (.inl (d)), some (.inr (some (5 + 21 * p + 1))), some (.inr (some (x))), none], [.inr (some (y))], 0, 0, hb (sL L) (up2 (up2 F (y) (5) ((F (1) (5)) + d)) (5 + 21 * p + 1) (1) (nI (sz + 1))) G R sO) _
  refine pw_astore (ls1 := [some (.inr (some (1))), some (.inl (nI (p))), some (.inl (nI (0))), some (.inl (nI (kk))), some (.inl (d)), some (.inr (some (5 + 21 * p + 1))), some (.inr (some (x))), some (.inr (some (y)))]) rfl (Nat.le_of_ble_eq_true rfl) rfl ?_
  refine pw_aload rfl rfl ?_
  refine pw_ifnonnull (t := 70) rfl rfl ?_
  refine pw_aload rfl rfl ?_
  refine pw_aload rfl rfl ?_
  refine px_getv (x := F (x) (0)) rfl rfl hsx rfl ((up2_ne (by omega)).trans (up2_ne (by omega))) ?_
  refine pw_aload rfl rfl ?_
  refine px_getv (x := F (x) (1)) rfl rfl hsx rfl ((up2_ne (by omega)).trans (up2_ne (by omega))) ?_
  refine pw_aload rfl rfl ?_
  refine px_getv (x := F (x) (2)) rfl rfl hsx rfl ((up2_ne (by omega)).trans (up2_ne (by omega))) ?_
  refine pw_aload rfl rfl ?_
  refine px_getv (x := F (x) (3)) rfl rfl hsx rfl ((up2_ne (by omega)).trans (up2_ne (by omega))) ?_
  refine pw_aload rfl rfl ?_
  refine px_getv (x := F (x) (4)) rfl rfl hsx rfl ((up2_ne (by omega)).trans (up2_ne (by omega))) ?_
  refine px_callv (as := [.inr (some (y)), .inl (F (x) (0)), .inl (F (x) (1)), .inl (F (x) (2)), .inl (F (x) (3)), .inl (F (x) (4))]) (rest := []) rfl rfl (by decide) rfl (Nat.le_of_ble_eq_true rfl) (Nat.le_of_ble_eq_true rfl) (Nat.le_of_ble_eq_true rfl) (Nat.le_of_ble_eq_true rfl) rfl hsy rfl rfl ?_
  refine t_cfill hsy ?_
  show pw pP mSB_twice (100, [some (.inr (some (1))), some (.inl (nI (p))), some (.inl (nI (0))), some (.inl (nI (kk))), some (.inl (d)), some (.inr (some (5 + 21 * p + 1))), some (.inr (some (x))), some (.inr (some (y)))], [], 0, 0, hb (sL L) (up2 (up2 (up2 (up2 (up2 (up2 (up2 F (y) (5) ((F (1) (5)) + d)) (5 + 21 * p + 1) (1) (nI (sz + 1))) (y) (0) (F (x) (0))) (y) (1) (F (x) (1))) (y) (2) (F (x) (2))) (y) (3) (F (x) (3))) (y) (4) (F (x) (4))) G R sO) _
  refine pw_iconst (v := nI (1)) rfl (by decide) ?_
  exact pw_iret rfl rfl (Nat.zero_le _) (Nat.zero_le _) rfl k
/-- SB_flight -/
def bflight1_r (F : FN) (p : Nat) : Int32 := F (5 + 21 * p + 9) (1)
theorem t_bflight1 {L p : Nat} {F G : FN} {R : RN} (hp : p < 4) (hR4 : R 4 p = some (5 + 21 * p)) (hP : pathok L (5 + 21 * p) R) {Q : Option PV → PH → Prop} (k : Q (some (.inl (bflight1_r F p))) (hb (sL L) F G R sO)) : pz pP mSB_flight [.inr (some (1)), .inl (nI (p)), .inl (nI (1))] (hb (sL L) F G R sO) Q := by
  show pw pP mSB_flight (0, [some (.inr (some (1))), some (.inl (nI (p))), some (.inl (nI (1)))], [], 0, 0, hb (sL L) F G R sO) _
  refine pw_iload_n rfl rfl ?_
  refine pw_calls (as := [.inl (nI (p))]) (rest := []) rfl rfl (by decide) rfl (Nat.le_of_ble_eq_true rfl) (Nat.le_of_ble_eq_true rfl) (Nat.le_of_ble_eq_true rfl) (Nat.le_of_ble_eq_true rfl) rfl rfl ?_
  refine t_bpath_in hp ?_
  show pw pP mSB_flight (4, [some (.inr (some (1))), some (.inl (nI (p))), some (.inl (nI (1)))], [.inl (nI (1))], 0, 0, hb (sL L) F G R sO) _
  refine pw_if1 (t := 23) rfl rfl (fun q => absurd q (by decide)) (fun _ => ?_)
  refine pw_aload_n rfl rfl ?_
  refine px_getr (r := some (4)) rfl rfl rfl rfl rfl ?_
  refine pw_iload_n rfl rfl ?_
  refine px_aaldn (r := (some (5 + 21 * p))) rfl rfl rfl (by omega) (by decide) (hR4) ?_
  refine pw_iload_n rfl rfl ?_
  refine px_callv (as := [.inr (some (5 + 21 * p)), .inl (nI (1))]) (rest := []) rfl rfl (by decide) rfl (Nat.le_of_ble_eq_true rfl) (Nat.le_of_ble_eq_true rfl) (Nat.le_of_ble_eq_true rfl) (Nat.le_of_ble_eq_true rfl) rfl hP.1 rfl rfl ?_
  refine t_cpipe1 hP ?_
  show pw pP mSB_flight (17, [some (.inr (some (1))), some (.inl (nI (p))), some (.inl (nI (1)))], [.inr (some (5 + 21 * p + 9))], 0, 0, hb (sL L) F G R sO) _
  refine px_getv (x := F (5 + 21 * p + 9) (1)) rfl rfl hP.2.2.2.1.1 rfl (rfl) ?_
  refine pw_goto (t := 24) rfl rfl ?_
  exact pw_iret rfl rfl (Nat.zero_le _) (Nat.zero_le _) rfl k
/-- SB_flight -/
def bflight_no1_r  : Int32 := (-1)
theorem t_bflight_no1 {L : Nat} {p : Int32} {F G : FN} {R : RN} (hp : p < 0 ∨ nI 4 ≤ p) {Q : Option PV → PH → Prop} (k : Q (some (.inl (bflight_no1_r ))) (hb (sL L) F G R sO)) : pz pP mSB_flight [.inr (some (1)), .inl (p), .inl (nI (1))] (hb (sL L) F G R sO) Q := by
  show pw pP mSB_flight (0, [some (.inr (some (1))), some (.inl (p)), some (.inl (nI (1)))], [], 0, 0, hb (sL L) F G R sO) _
  refine pw_iload_n rfl rfl ?_
  refine pw_calls (as := [.inl (p)]) (rest := []) rfl rfl (by decide) rfl (Nat.le_of_ble_eq_true rfl) (Nat.le_of_ble_eq_true rfl) (Nat.le_of_ble_eq_true rfl) (Nat.le_of_ble_eq_true rfl) rfl rfl ?_
  refine t_bpath_out hp ?_
  show pw pP mSB_flight (4, [some (.inr (some (1))), some (.inl (p)), some (.inl (nI (1)))], [.inl (nI (0))], 0, 0, hb (sL L) F G R sO) _
  refine pw_if1 (t := 23) rfl rfl (fun _ => ?_) (fun q => absurd q (by decide))
  refine pw_iconst (v := (-1)) rfl (by decide) ?_
  exact pw_iret rfl rfl (Nat.zero_le _) (Nat.zero_le _) rfl k
theorem t_blose_in1 {L p sz kk x : Nat} {F G : FN} {R : RN} (hp : p < 4) (hR4 : R 4 p = some (5 + 21 * p)) (hP : pathok L (5 + 21 * p) R) (hsz : F (5 + 21 * p + 9) 1 = nI sz) (hs6 : sz ≤ 6) (hk : kk < sz) (hx : R (5 + 21 * p + 9 + 1) kk = some x) (hsx : (sL L)[x]? = some (2, 1, [0, 0, 0, 0, 0, 0], 0)) {Q : Option PV → PH → Prop} (k : Q (some (.inl (nI 1))) (hb (sL L) (tout_F F (5 + 21 * p + 9) sz) G (tout_R R (5 + 21 * p + 9) sz kk x) sO)) : pz pP mSB_lose [.inr (some 1), .inl (nI p), .inl (nI 1), .inl (nI kk)] (hb (sL L) F G R sO) Q := by
  show pw pP mSB_lose (0, [some (.inr (some (1))), some (.inl (nI (p))), some (.inl (nI (1))), some (.inl (nI (kk)))], [], 0, 0, hb (sL L) F G R sO) _
  refine pw_iload_n rfl rfl ?_
  refine pw_calls (as := [.inl (nI (p))]) (rest := []) rfl rfl (by decide) rfl (Nat.le_of_ble_eq_true rfl) (Nat.le_of_ble_eq_true rfl) (Nat.le_of_ble_eq_true rfl) (Nat.le_of_ble_eq_true rfl) rfl rfl ?_
  refine t_bpath_in hp ?_
  show pw pP mSB_lose (4, [some (.inr (some (1))), some (.inl (nI (p))), some (.inl (nI (1))), some (.inl (nI (kk)))], [.inl (nI (1))], 0, 0, hb (sL L) F G R sO) _
  refine pw_if1 (t := 28) rfl rfl (fun q => absurd q (by decide)) (fun _ => ?_)
  refine pw_aload_n rfl rfl ?_
  refine px_getr (r := some (4)) rfl rfl rfl rfl rfl ?_
  refine pw_iload_n rfl rfl ?_
  refine px_aaldn (r := (some (5 + 21 * p))) rfl rfl rfl (by omega) (by decide) (hR4) ?_
  refine pw_iload_n rfl rfl ?_
  refine px_callv (as := [.inr (some (5 + 21 * p)), .inl (nI (1))]) (rest := []) rfl rfl (by decide) rfl (Nat.le_of_ble_eq_true rfl) (Nat.le_of_ble_eq_true rfl) (Nat.le_of_ble_eq_true rfl) (Nat.le_of_ble_eq_true rfl) rfl hP.1 rfl rfl ?_
  refine t_cpipe1 hP ?_
  show pw pP mSB_lose (17, [some (.inr (some (1))), some (.inl (nI (p))), some (.inl (nI (1))), some (.inl (nI (kk)))], [.inr (some (5 + 21 * p + 9))], 0, 0, hb (sL L) F G R sO) _
  refine pw_iload_n rfl rfl ?_
  refine px_callv (as := [.inr (some (5 + 21 * p + 9)), .inl (nI (kk))]) (rest := []) rfl rfl (by decide) rfl (Nat.le_of_ble_eq_true rfl) (Nat.le_of_ble_eq_true rfl) (Nat.le_of_ble_eq_true rfl) (Nat.le_of_ble_eq_true rfl) rfl hP.2.2.2.1.1 rfl rfl ?_
  refine t_takeOut hP.2.2.2.1 hsz hs6 hk hx hsx ?_
  show pw pP mSB_lose (21, [some (.inr (some (1))), some (.inl (nI (p))), some (.inl (nI (1))), some (.inl (nI (kk)))], [.inr (some (x))], 0, 0, hb (sL L) (tout_F F (5 + 21 * p + 9) sz) G (tout_R R (5 + 21 * p + 9) sz kk x) sO) _
  refine pw_ifnull (t := 28) rfl rfl ?_
  refine pw_iconst (v := nI (1)) rfl (by decide) ?_
  refine pw_goto (t := 29) rfl rfl ?_
  exact pw_iret rfl rfl (Nat.zero_le _) (Nat.zero_le _) rfl k
theorem t_blose_out1 {L p sz : Nat} {z : Int32} {F G : FN} {R : RN} (hp : p < 4) (hR4 : R 4 p = some (5 + 21 * p)) (hP : pathok L (5 + 21 * p) R) (hsz : F (5 + 21 * p + 9) 1 = nI sz) (hs6 : sz ≤ 6) (hz : z < 0 ∨ nI sz ≤ z) {Q : Option PV → PH → Prop} (k : Q (some (.inl (nI 0))) (hb (sL L) F G R sO)) : pz pP mSB_lose [.inr (some 1), .inl (nI p), .inl (nI 1), .inl z] (hb (sL L) F G R sO) Q := by
  show pw pP mSB_lose (0, [some (.inr (some (1))), some (.inl (nI (p))), some (.inl (nI (1))), some (.inl (z))], [], 0, 0, hb (sL L) F G R sO) _
  refine pw_iload_n rfl rfl ?_
  refine pw_calls (as := [.inl (nI (p))]) (rest := []) rfl rfl (by decide) rfl (Nat.le_of_ble_eq_true rfl) (Nat.le_of_ble_eq_true rfl) (Nat.le_of_ble_eq_true rfl) (Nat.le_of_ble_eq_true rfl) rfl rfl ?_
  refine t_bpath_in hp ?_
  show pw pP mSB_lose (4, [some (.inr (some (1))), some (.inl (nI (p))), some (.inl (nI (1))), some (.inl (z))], [.inl (nI (1))], 0, 0, hb (sL L) F G R sO) _
  refine pw_if1 (t := 28) rfl rfl (fun q => absurd q (by decide)) (fun _ => ?_)
  refine pw_aload_n rfl rfl ?_
  refine px_getr (r := some (4)) rfl rfl rfl rfl rfl ?_
  refine pw_iload_n rfl rfl ?_
  refine px_aaldn (r := (some (5 + 21 * p))) rfl rfl rfl (by omega) (by decide) (hR4) ?_
  refine pw_iload_n rfl rfl ?_
  refine px_callv (as := [.inr (some (5 + 21 * p)), .inl (nI (1))]) (rest := []) rfl rfl (by decide) rfl (Nat.le_of_ble_eq_true rfl) (Nat.le_of_ble_eq_true rfl) (Nat.le_of_ble_eq_true rfl) (Nat.le_of_ble_eq_true rfl) rfl hP.1 rfl rfl ?_
  refine t_cpipe1 hP ?_
  show pw pP mSB_lose (17, [some (.inr (some (1))), some (.inl (nI (p))), some (.inl (nI (1))), some (.inl (z))], [.inr (some (5 + 21 * p + 9))], 0, 0, hb (sL L) F G R sO) _
  refine pw_iload_n rfl rfl ?_
  refine px_callv (as := [.inr (some (5 + 21 * p + 9)), .inl (z)]) (rest := []) rfl rfl (by decide) rfl (Nat.le_of_ble_eq_true rfl) (Nat.le_of_ble_eq_true rfl) (Nat.le_of_ble_eq_true rfl) (Nat.le_of_ble_eq_true rfl) rfl hP.2.2.2.1.1 rfl rfl ?_
  refine t_takeOut_out hP.2.2.2.1 hsz hs6 hz ?_
  show pw pP mSB_lose (21, [some (.inr (some (1))), some (.inl (nI (p))), some (.inl (nI (1))), some (.inl (z))], [.inr none], 0, 0, hb (sL L) F G R sO) _
  refine pw_ifnullN (t := 28) rfl rfl ?_
  refine pw_iconst (v := nI (0)) rfl (by decide) ?_
  exact pw_iret rfl rfl (Nat.zero_le _) (Nat.zero_le _) rfl k
/-- SB_lose -/
def blose_no1_r  : Int32 := nI (0)
theorem t_blose_no1 {L : Nat} {p z : Int32} {F G : FN} {R : RN} (hp : p < 0 ∨ nI 4 ≤ p) {Q : Option PV → PH → Prop} (k : Q (some (.inl (blose_no1_r ))) (hb (sL L) F G R sO)) : pz pP mSB_lose [.inr (some (1)), .inl (p), .inl (nI (1)), .inl (z)] (hb (sL L) F G R sO) Q := by
  show pw pP mSB_lose (0, [some (.inr (some (1))), some (.inl (p)), some (.inl (nI (1))), some (.inl (z))], [], 0, 0, hb (sL L) F G R sO) _
  refine pw_iload_n rfl rfl ?_
  refine pw_calls (as := [.inl (p)]) (rest := []) rfl rfl (by decide) rfl (Nat.le_of_ble_eq_true rfl) (Nat.le_of_ble_eq_true rfl) (Nat.le_of_ble_eq_true rfl) (Nat.le_of_ble_eq_true rfl) rfl rfl ?_
  refine t_bpath_out hp ?_
  show pw pP mSB_lose (4, [some (.inr (some (1))), some (.inl (p)), some (.inl (nI (1))), some (.inl (z))], [.inl (nI (0))], 0, 0, hb (sL L) F G R sO) _
  refine pw_if1 (t := 28) rfl rfl (fun _ => ?_) (fun q => absurd q (by decide))
  refine pw_iconst (v := nI (0)) rfl (by decide) ?_
  exact pw_iret rfl rfl (Nat.zero_le _) (Nat.zero_le _) rfl k
/-- SB_twice -/
def btwice_no1_r  : Int32 := nI (0)
theorem t_btwice_no1 {L : Nat} {p z d : Int32} {F G : FN} {R : RN} (hp : p < 0 ∨ nI 4 ≤ p) {Q : Option PV → PH → Prop} (k : Q (some (.inl (btwice_no1_r ))) (hb (sL L) F G R sO)) : pz pP mSB_twice [.inr (some (1)), .inl (p), .inl (nI (1)), .inl (z), .inl (d)] (hb (sL L) F G R sO) Q := by
  show pw pP mSB_twice (0, [some (.inr (some (1))), some (.inl (p)), some (.inl (nI (1))), some (.inl (z)), some (.inl (d)), none, none, none], [], 0, 0, hb (sL L) F G R sO) _
  refine pw_iload_n rfl rfl ?_
  refine pw_calls (as := [.inl (p)]) (rest := []) rfl rfl (by decide) rfl (Nat.le_of_ble_eq_true rfl) (Nat.le_of_ble_eq_true rfl) (Nat.le_of_ble_eq_true rfl) (Nat.le_of_ble_eq_true rfl) rfl rfl ?_
  refine t_bpath_out hp ?_
  show pw pP mSB_twice (4, [some (.inr (some (1))), some (.inl (p)), some (.inl (nI (1))), some (.inl (z)), some (.inl (d)), none, none, none], [.inl (nI (0))], 0, 0, hb (sL L) F G R sO) _
  refine pw_if1 (t := 20) rfl rfl (fun _ => ?_) (fun q => absurd q (by decide))
  refine pw_iconst (v := nI (0)) rfl (by decide) ?_
  exact pw_iret rfl rfl (Nat.zero_le _) (Nat.zero_le _) rfl k
theorem t_btwice_d1 {L p : Nat} {z d : Int32} {F G : FN} {R : RN} (hp : p < 4) (hR4 : R 4 p = some (5 + 21 * p)) (hP : pathok L (5 + 21 * p) R) (hd : d < nI 1 ∨ ¬ d ≤ nI 40) {Q : Option PV → PH → Prop} (k : Q (some (.inl (nI 0))) (hb (sL L) F G R sO)) : pz pP mSB_twice [.inr (some 1), .inl (nI p), .inl (nI 1), .inl z, .inl d] (hb (sL L) F G R sO) Q := by
  show pw pP mSB_twice (0, [some (.inr (some (1))), some (.inl (nI (p))), some (.inl (nI (1))), some (.inl (z)), some (.inl (d)), none, none, none], [], 0, 0, hb (sL L) F G R sO) _
  refine pw_iload_n rfl rfl ?_
  refine pw_calls (as := [.inl (nI (p))]) (rest := []) rfl rfl (by decide) rfl (Nat.le_of_ble_eq_true rfl) (Nat.le_of_ble_eq_true rfl) (Nat.le_of_ble_eq_true rfl) (Nat.le_of_ble_eq_true rfl) rfl rfl ?_
  refine t_bpath_in hp ?_
  show pw pP mSB_twice (4, [some (.inr (some (1))), some (.inl (nI (p))), some (.inl (nI (1))), some (.inl (z)), some (.inl (d)), none, none, none], [.inl (nI (1))], 0, 0, hb (sL L) F G R sO) _
  refine pw_if1 (t := 20) rfl rfl (fun q => absurd q (by decide)) (fun _ => ?_)
  refine pw_iload rfl rfl ?_
  refine pw_iconst (v := nI (1)) rfl (by decide) ?_
  refine pw_if2p (A := d < nI (1)) rfl rfl (t := 20) rfl (fun c1 => ?_) (fun c1 => ?_)
  · -- 20
    refine pw_iconst (v := nI (0)) rfl (by decide) ?_
    exact pw_iret rfl rfl (Nat.zero_le _) (Nat.zero_le _) rfl k
  · -- 13
    refine pw_iload rfl rfl ?_
    refine pw_bipush (v := nI (40)) rfl (by decide) ?_
    refine pw_if2p (A := d ≤ nI (40)) rfl rfl (t := 22) rfl (fun c2 => ?_) (fun c2 => ?_)
    · -- 22
      exact hd.elim (fun h => absurd h c1) (fun h => absurd c2 h)
    · -- 20
      refine pw_iconst (v := nI (0)) rfl (by decide) ?_
      exact pw_iret rfl rfl (Nat.zero_le _) (Nat.zero_le _) rfl k
theorem t_btwice_out1 {L p sz : Nat} {z d : Int32} {F G : FN} {R : RN} (hp : p < 4) (hR4 : R 4 p = some (5 + 21 * p)) (hP : pathok L (5 + 21 * p) R) (hsz : F (5 + 21 * p + 9) 1 = nI sz) (hs6 : sz ≤ 6) (hz : z < 0 ∨ nI sz ≤ z) (hd1 : ¬ d < nI 1) (hd2 : d ≤ nI 40) {Q : Option PV → PH → Prop} (k : Q (some (.inl (nI 0))) (hb (sL L) F G R sO)) : pz pP mSB_twice [.inr (some 1), .inl (nI p), .inl (nI 1), .inl z, .inl d] (hb (sL L) F G R sO) Q := by
  show pw pP mSB_twice (0, [some (.inr (some (1))), some (.inl (nI (p))), some (.inl (nI (1))), some (.inl (z)), some (.inl (d)), none, none, none], [], 0, 0, hb (sL L) F G R sO) _
  refine pw_iload_n rfl rfl ?_
  refine pw_calls (as := [.inl (nI (p))]) (rest := []) rfl rfl (by decide) rfl (Nat.le_of_ble_eq_true rfl) (Nat.le_of_ble_eq_true rfl) (Nat.le_of_ble_eq_true rfl) (Nat.le_of_ble_eq_true rfl) rfl rfl ?_
  refine t_bpath_in hp ?_
  show pw pP mSB_twice (4, [some (.inr (some (1))), some (.inl (nI (p))), some (.inl (nI (1))), some (.inl (z)), some (.inl (d)), none, none, none], [.inl (nI (1))], 0, 0, hb (sL L) F G R sO) _
  refine pw_if1 (t := 20) rfl rfl (fun q => absurd q (by decide)) (fun _ => ?_)
  refine pw_iload rfl rfl ?_
  refine pw_iconst (v := nI (1)) rfl (by decide) ?_
  refine pw_if2p (A := d < nI (1)) rfl rfl (t := 20) rfl (fun q => absurd q hd1) (fun _ => ?_)
  refine pw_iload rfl rfl ?_
  refine pw_bipush (v := nI (40)) rfl (by decide) ?_
  refine pw_if2p (A := d ≤ nI (40)) rfl rfl (t := 22) rfl (fun _ => ?_) (fun q => absurd hd2 q)
  refine pw_aload_n rfl rfl ?_
  refine px_getr (r := some (4)) rfl rfl rfl rfl rfl ?_
  refine pw_iload_n rfl rfl ?_
  refine px_aaldn (r := (some (5 + 21 * p))) rfl rfl rfl (by omega) (by decide) (hR4) ?_
  refine pw_iload_n rfl rfl ?_
  refine px_callv (as := [.inr (some (5 + 21 * p)), .inl (nI (1))]) (rest := []) rfl rfl (by decide) rfl (Nat.le_of_ble_eq_true rfl) (Nat.le_of_ble_eq_true rfl) (Nat.le_of_ble_eq_true rfl) (Nat.le_of_ble_eq_true rfl) rfl hP.1 rfl rfl ?_
  refine t_cpipe1 hP ?_
  show pw pP mSB_twice (32, [some (.inr (some (1))), some (.inl (nI (p))), some (.inl (nI (1))), some (.inl (z)), some (.inl (d)), none, none, none], [.inr (some (5 + 21 * p + 9))], 0, 0, hb (sL L) F G R sO) _
  refine pw_astore (ls1 := [some (.inr (some (1))), some (.inl (nI (p))), some (.inl (nI (1))), some (.inl (z)), some (.inl (d)), some (.inr (some (5 + 21 * p + 9))), none, none]) rfl (Nat.le_of_ble_eq_true rfl) rfl ?_
  refine pw_aload rfl rfl ?_
  refine pw_iload_n rfl rfl ?_
  refine px_callv (as := [.inr (some (5 + 21 * p + 9)), .inl (z)]) (rest := []) rfl rfl (by decide) rfl (Nat.le_of_ble_eq_true rfl) (Nat.le_of_ble_eq_true rfl) (Nat.le_of_ble_eq_true rfl) (Nat.le_of_ble_eq_true rfl) rfl hP.2.2.2.1.1 rfl rfl ?_
  refine t_copyAt_out hP.2.2.2.1 hsz hs6 hz ?_
  show pw pP mSB_twice (40, [some (.inr (some (1))), some (.inl (nI (p))), some (.inl (nI (1))), some (.inl (z)), some (.inl (d)), some (.inr (some (5 + 21 * p + 9))), none, none], [.inr none], 0, 0, hb (sL L) F G R sO) _
  refine pw_astore (ls1 := [some (.inr (some (1))), some (.inl (nI (p))), some (.inl (nI (1))), some (.inl (z)), some (.inl (d)), some (.inr (some (5 + 21 * p + 9))), some (.inr none), none]) rfl (Nat.le_of_ble_eq_true rfl) rfl ?_
  refine pw_aload rfl rfl ?_
  refine pw_ifnonnullN (t := 49) rfl rfl ?_
  refine pw_iconst (v := nI (0)) rfl (by decide) ?_
  exact pw_iret rfl rfl (Nat.zero_le _) (Nat.zero_le _) rfl k
theorem t_btwice_61 {L p kk x : Nat} {d : Int32} {F G : FN} {R : RN} (hp : p < 4) (hR4 : R 4 p = some (5 + 21 * p)) (hP : pathok L (5 + 21 * p) R) (hsz : F (5 + 21 * p + 9) 1 = nI 6) (hk : kk < 6) (hx : R (5 + 21 * p + 9 + 1) kk = some x) (hsx : (sL L)[x]? = some (2, 1, [0, 0, 0, 0, 0, 0], 0)) (hd1 : ¬ d < nI 1) (hd2 : d ≤ nI 40) {Q : Option PV → PH → Prop} (k : Q (some (.inl (nI 0))) (hb (sL L) F G R sO)) : pz pP mSB_twice [.inr (some 1), .inl (nI p), .inl (nI 1), .inl (nI kk), .inl d] (hb (sL L) F G R sO) Q := by
  show pw pP mSB_twice (0, [some (.inr (some (1))), some (.inl (nI (p))), some (.inl (nI (1))), some (.inl (nI (kk))), some (.inl (d)), none, none, none], [], 0, 0, hb (sL L) F G R sO) _
  refine pw_iload_n rfl rfl ?_
  refine pw_calls (as := [.inl (nI (p))]) (rest := []) rfl rfl (by decide) rfl (Nat.le_of_ble_eq_true rfl) (Nat.le_of_ble_eq_true rfl) (Nat.le_of_ble_eq_true rfl) (Nat.le_of_ble_eq_true rfl) rfl rfl ?_
  refine t_bpath_in hp ?_
  show pw pP mSB_twice (4, [some (.inr (some (1))), some (.inl (nI (p))), some (.inl (nI (1))), some (.inl (nI (kk))), some (.inl (d)), none, none, none], [.inl (nI (1))], 0, 0, hb (sL L) F G R sO) _
  refine pw_if1 (t := 20) rfl rfl (fun q => absurd q (by decide)) (fun _ => ?_)
  refine pw_iload rfl rfl ?_
  refine pw_iconst (v := nI (1)) rfl (by decide) ?_
  refine pw_if2p (A := d < nI (1)) rfl rfl (t := 20) rfl (fun q => absurd q hd1) (fun _ => ?_)
  refine pw_iload rfl rfl ?_
  refine pw_bipush (v := nI (40)) rfl (by decide) ?_
  refine pw_if2p (A := d ≤ nI (40)) rfl rfl (t := 22) rfl (fun _ => ?_) (fun q => absurd hd2 q)
  refine pw_aload_n rfl rfl ?_
  refine px_getr (r := some (4)) rfl rfl rfl rfl rfl ?_
  refine pw_iload_n rfl rfl ?_
  refine px_aaldn (r := (some (5 + 21 * p))) rfl rfl rfl (by omega) (by decide) (hR4) ?_
  refine pw_iload_n rfl rfl ?_
  refine px_callv (as := [.inr (some (5 + 21 * p)), .inl (nI (1))]) (rest := []) rfl rfl (by decide) rfl (Nat.le_of_ble_eq_true rfl) (Nat.le_of_ble_eq_true rfl) (Nat.le_of_ble_eq_true rfl) (Nat.le_of_ble_eq_true rfl) rfl hP.1 rfl rfl ?_
  refine t_cpipe1 hP ?_
  show pw pP mSB_twice (32, [some (.inr (some (1))), some (.inl (nI (p))), some (.inl (nI (1))), some (.inl (nI (kk))), some (.inl (d)), none, none, none], [.inr (some (5 + 21 * p + 9))], 0, 0, hb (sL L) F G R sO) _
  refine pw_astore (ls1 := [some (.inr (some (1))), some (.inl (nI (p))), some (.inl (nI (1))), some (.inl (nI (kk))), some (.inl (d)), some (.inr (some (5 + 21 * p + 9))), none, none]) rfl (Nat.le_of_ble_eq_true rfl) rfl ?_
  refine pw_aload rfl rfl ?_
  refine pw_iload_n rfl rfl ?_
  refine px_callv (as := [.inr (some (5 + 21 * p + 9)), .inl (nI (kk))]) (rest := []) rfl rfl (by decide) rfl (Nat.le_of_ble_eq_true rfl) (Nat.le_of_ble_eq_true rfl) (Nat.le_of_ble_eq_true rfl) (Nat.le_of_ble_eq_true rfl) rfl hP.2.2.2.1.1 rfl rfl ?_
  refine t_copyAt hP.2.2.2.1 hsz (by omega) hk hx hsx ?_
  show pw pP mSB_twice (40, [some (.inr (some (1))), some (.inl (nI (p))), some (.inl (nI (1))), some (.inl (nI (kk))), some (.inl (d)), some (.inr (some (5 + 21 * p + 9))), none, none], [.inr (some (x))], 0, 0, hb (sL L) F G R sO) _
  refine pw_astore (ls1 := [some (.inr (some (1))), some (.inl (nI (p))), some (.inl (nI (1))), some (.inl (nI (kk))), some (.inl (d)), some (.inr (some (5 + 21 * p + 9))), some (.inr (some (x))), none]) rfl (Nat.le_of_ble_eq_true rfl) rfl ?_
  refine pw_aload rfl rfl ?_
  refine pw_ifnonnull (t := 49) rfl rfl ?_
  refine pw_aload rfl rfl ?_
  refine pw_aload_n rfl rfl ?_
  refine px_getv (x := F (1) (5)) rfl rfl rfl rfl (rfl) ?_
  refine pw_iload rfl rfl ?_
  refine pw_iadd (z := (F (1) (5)) + d) rfl rfl ?_
  refine px_callv (as := [.inr (some (5 + 21 * p + 9)), .inl ((F (1) (5)) + d)]) (rest := []) rfl rfl (by decide) rfl (Nat.le_of_ble_eq_true rfl) (Nat.le_of_ble_eq_true rfl) (Nat.le_of_ble_eq_true rfl) (Nat.le_of_ble_eq_true rfl) rfl hP.2.2.2.1.1 rfl rfl ?_
  refine t_append_no hP.2.2.2.1 hsz ?_
  show pw pP mSB_twice (61, [some (.inr (some (1))), some (.inl (nI (p))), some (.inl (nI (1))), some (.inl (nI (kk))), some (.inl (d)), some (.inr (some (5 + 21 * p + 9))), some (.inr (some (x))), none], [.inr none], 0, 0, hb (sL L) F G R sO) _
  refine pw_astore (ls1 := [some (.inr (some (1))), some (.inl (nI (p))), some (.inl (nI (1))), some (.inl (nI (kk))), some (.inl (d)), some (.inr (some (5 + 21 * p + 9))), some (.inr (some (x))), some (.inr none)]) rfl (Nat.le_of_ble_eq_true rfl) rfl ?_
  refine pw_aload rfl rfl ?_
  refine pw_ifnonnullN (t := 70) rfl rfl ?_
  refine pw_iconst (v := nI (0)) rfl (by decide) ?_
  exact pw_iret rfl rfl (Nat.zero_le _) (Nat.zero_le _) rfl k
theorem t_btwice_in1 {L p sz kk x y : Nat} {d : Int32} {F G : FN} {R : RN} (hp : p < 4) (hR4 : R 4 p = some (5 + 21 * p)) (hP : pathok L (5 + 21 * p) R) (hsz : F (5 + 21 * p + 9) 1 = nI sz) (hs6 : sz < 6) (hk : kk < sz) (hx : R (5 + 21 * p + 9 + 1) kk = some x) (hsx : (sL L)[x]? = some (2, 1, [0, 0, 0, 0, 0, 0], 0)) (hy : R (5 + 21 * p + 9 + 1) sz = some y) (hsy : (sL L)[y]? = some (2, 1, [0, 0, 0, 0, 0, 0], 0)) (hxy : ¬ x = y) (hxe : ¬ x = 5 + 21 * p + 9) (hd1 : ¬ d < nI 1) (hd2 : d ≤ nI 40) {Q : Option PV → PH → Prop} (k : Q (some (.inl (nI 1))) (hb (sL L) (cfill_F (append_F F (5 + 21 * p + 9) y sz (F 1 5 + d)) y (F x 0) (F x 1) (F x 2) (F x 3) (F x 4)) G R sO)) : pz pP mSB_twice [.inr (some 1), .inl (nI p), .inl (nI 1), .inl (nI kk), .inl d] (hb (sL L) F G R sO) Q := by
  show pw pP mSB_twice (0, [some (.inr (some (1))), some (.inl (nI (p))), some (.inl (nI (1))), some (.inl (nI (kk))), some (.inl (d)), none, none, none], [], 0, 0, hb (sL L) F G R sO) _
  refine pw_iload_n rfl rfl ?_
  refine pw_calls (as := [.inl (nI (p))]) (rest := []) rfl rfl (by decide) rfl (Nat.le_of_ble_eq_true rfl) (Nat.le_of_ble_eq_true rfl) (Nat.le_of_ble_eq_true rfl) (Nat.le_of_ble_eq_true rfl) rfl rfl ?_
  refine t_bpath_in hp ?_
  show pw pP mSB_twice (4, [some (.inr (some (1))), some (.inl (nI (p))), some (.inl (nI (1))), some (.inl (nI (kk))), some (.inl (d)), none, none, none], [.inl (nI (1))], 0, 0, hb (sL L) F G R sO) _
  refine pw_if1 (t := 20) rfl rfl (fun q => absurd q (by decide)) (fun _ => ?_)
  refine pw_iload rfl rfl ?_
  refine pw_iconst (v := nI (1)) rfl (by decide) ?_
  refine pw_if2p (A := d < nI (1)) rfl rfl (t := 20) rfl (fun q => absurd q hd1) (fun _ => ?_)
  refine pw_iload rfl rfl ?_
  refine pw_bipush (v := nI (40)) rfl (by decide) ?_
  refine pw_if2p (A := d ≤ nI (40)) rfl rfl (t := 22) rfl (fun _ => ?_) (fun q => absurd hd2 q)
  refine pw_aload_n rfl rfl ?_
  refine px_getr (r := some (4)) rfl rfl rfl rfl rfl ?_
  refine pw_iload_n rfl rfl ?_
  refine px_aaldn (r := (some (5 + 21 * p))) rfl rfl rfl (by omega) (by decide) (hR4) ?_
  refine pw_iload_n rfl rfl ?_
  refine px_callv (as := [.inr (some (5 + 21 * p)), .inl (nI (1))]) (rest := []) rfl rfl (by decide) rfl (Nat.le_of_ble_eq_true rfl) (Nat.le_of_ble_eq_true rfl) (Nat.le_of_ble_eq_true rfl) (Nat.le_of_ble_eq_true rfl) rfl hP.1 rfl rfl ?_
  refine t_cpipe1 hP ?_
  show pw pP mSB_twice (32, [some (.inr (some (1))), some (.inl (nI (p))), some (.inl (nI (1))), some (.inl (nI (kk))), some (.inl (d)), none, none, none], [.inr (some (5 + 21 * p + 9))], 0, 0, hb (sL L) F G R sO) _
  refine pw_astore (ls1 := [some (.inr (some (1))), some (.inl (nI (p))), some (.inl (nI (1))), some (.inl (nI (kk))), some (.inl (d)), some (.inr (some (5 + 21 * p + 9))), none, none]) rfl (Nat.le_of_ble_eq_true rfl) rfl ?_
  refine pw_aload rfl rfl ?_
  refine pw_iload_n rfl rfl ?_
  refine px_callv (as := [.inr (some (5 + 21 * p + 9)), .inl (nI (kk))]) (rest := []) rfl rfl (by decide) rfl (Nat.le_of_ble_eq_true rfl) (Nat.le_of_ble_eq_true rfl) (Nat.le_of_ble_eq_true rfl) (Nat.le_of_ble_eq_true rfl) rfl hP.2.2.2.1.1 rfl rfl ?_
  refine t_copyAt hP.2.2.2.1 hsz (by omega) hk hx hsx ?_
  show pw pP mSB_twice (40, [some (.inr (some (1))), some (.inl (nI (p))), some (.inl (nI (1))), some (.inl (nI (kk))), some (.inl (d)), some (.inr (some (5 + 21 * p + 9))), none, none], [.inr (some (x))], 0, 0, hb (sL L) F G R sO) _
  refine pw_astore (ls1 := [some (.inr (some (1))), some (.inl (nI (p))), some (.inl (nI (1))), some (.inl (nI (kk))), some (.inl (d)), some (.inr (some (5 + 21 * p + 9))), some (.inr (some (x))), none]) rfl (Nat.le_of_ble_eq_true rfl) rfl ?_
  refine pw_aload rfl rfl ?_
  refine pw_ifnonnull (t := 49) rfl rfl ?_
  refine pw_aload rfl rfl ?_
  refine pw_aload_n rfl rfl ?_
  refine px_getv (x := F (1) (5)) rfl rfl rfl rfl (rfl) ?_
  refine pw_iload rfl rfl ?_
  refine pw_iadd (z := (F (1) (5)) + d) rfl rfl ?_
  refine px_callv (as := [.inr (some (5 + 21 * p + 9)), .inl ((F (1) (5)) + d)]) (rest := []) rfl rfl (by decide) rfl (Nat.le_of_ble_eq_true rfl) (Nat.le_of_ble_eq_true rfl) (Nat.le_of_ble_eq_true rfl) (Nat.le_of_ble_eq_true rfl) rfl hP.2.2.2.1.1 rfl rfl ?_
  refine t_append hP.2.2.2.1 hsz hs6 hy hsy ?_
  show pw pP mSB_twice (61, [some (.inr (some (1))), some (.inl (nI (p))), some (.inl (nI (1))), some (.inl (nI (kk))), some (.inl (d)), some (.inr (some (5 + 21 * p + 9))), some (.inr (some (x))), none], [.inr (some (y))], 0, 0, hb (sL L) (up2 (up2 F (y) (5) ((F (1) (5)) + d)) (5 + 21 * p + 9) (1) (nI (sz + 1))) G R sO) _
  refine pw_astore (ls1 := [some (.inr (some (1))), some (.inl (nI (p))), some (.inl (nI (1))), some (.inl (nI (kk))), some (.inl (d)), some (.inr (some (5 + 21 * p + 9))), some (.inr (some (x))), some (.inr (some (y)))]) rfl (Nat.le_of_ble_eq_true rfl) rfl ?_
  refine pw_aload rfl rfl ?_
  refine pw_ifnonnull (t := 70) rfl rfl ?_
  refine pw_aload rfl rfl ?_
  refine pw_aload rfl rfl ?_
  refine px_getv (x := F (x) (0)) rfl rfl hsx rfl ((up2_ne (by omega)).trans (up2_ne (by omega))) ?_
  refine pw_aload rfl rfl ?_
  refine px_getv (x := F (x) (1)) rfl rfl hsx rfl ((up2_ne (by omega)).trans (up2_ne (by omega))) ?_
  refine pw_aload rfl rfl ?_
  refine px_getv (x := F (x) (2)) rfl rfl hsx rfl ((up2_ne (by omega)).trans (up2_ne (by omega))) ?_
  refine pw_aload rfl rfl ?_
  refine px_getv (x := F (x) (3)) rfl rfl hsx rfl ((up2_ne (by omega)).trans (up2_ne (by omega))) ?_
  refine pw_aload rfl rfl ?_
  refine px_getv (x := F (x) (4)) rfl rfl hsx rfl ((up2_ne (by omega)).trans (up2_ne (by omega))) ?_
  refine px_callv (as := [.inr (some (y)), .inl (F (x) (0)), .inl (F (x) (1)), .inl (F (x) (2)), .inl (F (x) (3)), .inl (F (x) (4))]) (rest := []) rfl rfl (by decide) rfl (Nat.le_of_ble_eq_true rfl) (Nat.le_of_ble_eq_true rfl) (Nat.le_of_ble_eq_true rfl) (Nat.le_of_ble_eq_true rfl) rfl hsy rfl rfl ?_
  refine t_cfill hsy ?_
  show pw pP mSB_twice (100, [some (.inr (some (1))), some (.inl (nI (p))), some (.inl (nI (1))), some (.inl (nI (kk))), some (.inl (d)), some (.inr (some (5 + 21 * p + 9))), some (.inr (some (x))), some (.inr (some (y)))], [], 0, 0, hb (sL L) (up2 (up2 (up2 (up2 (up2 (up2 (up2 F (y) (5) ((F (1) (5)) + d)) (5 + 21 * p + 9) (1) (nI (sz + 1))) (y) (0) (F (x) (0))) (y) (1) (F (x) (1))) (y) (2) (F (x) (2))) (y) (3) (F (x) (3))) (y) (4) (F (x) (4))) G R sO) _
  refine pw_iconst (v := nI (1)) rfl (by decide) ?_
  exact pw_iret rfl rfl (Nat.zero_le _) (Nat.zero_le _) rfl k
def cai (F : FN) (w : Int32) : Nat → Nat → Nat
  | 0, _ => 0
  | n + 1, p => if F (5 + 21 * p) 5 = w then 1 else cai F w n (p + 1)
theorem t_cai_lp {L : Nat} {w : Int32} {F G : FN} {R : RN} (hR : ∀ q, q < 4 → R 4 q = some (5 + 21 * q)) (hPa : ∀ q, q < 4 → pathok L (5 + 21 * q) R) {Q : Option PV → PH → Prop} : ∀ (n p : Nat), p + n = 4 → Q (some (.inl (nI (cai F w n p)))) (hb (sL L) F G R sO) → pw pP mSB_isAnyIn (2, [some (.inr (some (1))), some (.inl (w)), some (.inl (nI (p)))], [], 0, 0, hb (sL L) F G R sO) Q := by
  intro n
  induction n with
  | zero =>
    intro p hn k
    have e : p = 4 := by omega
    subst e
    refine pw_iload_n rfl rfl ?_
    refine pw_iconst (v := nI (4)) rfl (by decide) ?_
    refine pw_if2 (t := 28) rfl rfl (fun _ => ?_) (fun q => absurd q (by decide))
    refine pw_iconst (v := nI (0)) rfl (by decide) ?_
    exact pw_iret rfl rfl (Nat.zero_le _) (Nat.zero_le _) rfl k
  | succ n ih =>
    intro p hn k
    refine pw_iload_n rfl rfl ?_
    refine pw_iconst (v := nI (4)) rfl (by decide) ?_
    refine pw_if2p (cn_ge (by omega) (by omega)) rfl (t := 28) rfl (fun q => absurd q (by omega)) (fun _ => ?_)
    refine pw_aload_n rfl rfl ?_
    refine px_getr (r := some (4)) rfl rfl rfl rfl rfl ?_
    refine pw_iload_n rfl rfl ?_
    refine px_aaldn (r := (some (5 + 21 * p))) rfl rfl rfl (by omega) (by decide) (hR p (by omega)) ?_
    refine px_getv (x := F (5 + 21 * p) (5)) rfl rfl (hPa p (by omega)).1 rfl (rfl) ?_
    refine pw_iload_n rfl rfl ?_
    refine pw_if2p (A := ¬ F (5 + 21 * p) (5) = w) rfl rfl (t := 22) rfl (fun c1 => ?_) (fun c1 => ?_)
    · -- 22
      refine pw_iinc (v := nI (p + 1)) (ls1 := [some (.inr (some (1))), some (.inl (w)), some (.inl (nI (p + 1)))]) rfl rfl (iinc_n _) rfl ?_
      refine pw_goto (t := 2) rfl rfl ?_
      simp only [cai, eq_false c1, if_true, if_false] at k
      exact ih (p + 1) (by omega) k
    · -- 20
      refine pw_iconst (v := nI (1)) rfl (by decide) ?_
      simp only [cai, eq_true (Decidable.of_not_not c1), if_true, if_false] at k
      exact pw_iret rfl rfl (Nat.zero_le _) (Nat.zero_le _) rfl k
theorem t_cai {L : Nat} {w : Int32} {F G : FN} {R : RN} (hR : ∀ q, q < 4 → R 4 q = some (5 + 21 * q)) (hPa : ∀ q, q < 4 → pathok L (5 + 21 * q) R) {Q : Option PV → PH → Prop} (k : Q (some (.inl (nI (cai F w 4 0)))) (hb (sL L) F G R sO)) : pz pP mSB_isAnyIn [.inr (some 1), .inl w] (hb (sL L) F G R sO) Q := by
  show pw pP mSB_isAnyIn (0, [some (.inr (some (1))), some (.inl (w)), none], [], 0, 0, hb (sL L) F G R sO) _
  refine pw_iconst (v := nI (0)) rfl (by decide) ?_
  refine pw_istore_n (ls1 := [some (.inr (some (1))), some (.inl (w)), some (.inl (nI (0)))]) rfl (Nat.le_of_ble_eq_true rfl) rfl ?_
  exact t_cai_lp hR hPa 4 0 (by omega) k
theorem cai_le {F : FN} {w : Int32} : ∀ (n p : Nat), cai F w n p ≤ 1
  | 0, _ => by simp only [cai]; omega
  | n + 1, p => by
    rw [cai]
    split
    · omega
    · exact cai_le n (p + 1)
/-- SB_open -/
def bopen_no_r  : Int32 := nI (0)
theorem t_bopen_no {L : Nat} {p d tk : Int32} {F G : FN} {R : RN} (hp : p < 0 ∨ nI 4 ≤ p) {Q : Option PV → PH → Prop} (k : Q (some (.inl (bopen_no_r ))) (hb (sL L) F G R sO)) : pz pP mSB_open [.inr (some (1)), .inl (p), .inl (d), .inl (tk)] (hb (sL L) F G R sO) Q := by
  show pw pP mSB_open (0, [some (.inr (some (1))), some (.inl (p)), some (.inl (d)), some (.inl (tk))], [], 0, 0, hb (sL L) F G R sO) _
  refine pw_iload_n rfl rfl ?_
  refine pw_calls (as := [.inl (p)]) (rest := []) rfl rfl (by decide) rfl (Nat.le_of_ble_eq_true rfl) (Nat.le_of_ble_eq_true rfl) (Nat.le_of_ble_eq_true rfl) (Nat.le_of_ble_eq_true rfl) rfl rfl ?_
  refine t_bpath_out hp ?_
  show pw pP mSB_open (4, [some (.inr (some (1))), some (.inl (p)), some (.inl (d)), some (.inl (tk))], [.inl (nI (0))], 0, 0, hb (sL L) F G R sO) _
  refine pw_if1 (t := 30) rfl rfl (fun _ => ?_) (fun q => absurd q (by decide))
  refine pw_iconst (v := nI (0)) rfl (by decide) ?_
  exact pw_iret rfl rfl (Nat.zero_le _) (Nat.zero_le _) rfl k
theorem t_bopen_n {L p : Nat} {d tk : Int32} {F G : FN} {R : RN} (hp : p < 4) (hR : ∀ q, q < 4 → R 4 q = some (5 + 21 * q)) (hPa : ∀ q, q < 4 → pathok L (5 + 21 * q) R) (hn : ¬ F (5 + 21 * p) 5 = 0 ∨ d < nI 1 ∨ ¬ d ≤ nI 40 ∨ (F 89 8 = 0 ∧ ¬ cai F (nI 1) 4 0 = 0)) {Q : Option PV → PH → Prop} (k : Q (some (.inl (nI 0))) (hb (sL L) F G R sO)) : pz pP mSB_open [.inr (some 1), .inl (nI p), .inl d, .inl tk] (hb (sL L) F G R sO) Q := by
  show pw pP mSB_open (0, [some (.inr (some (1))), some (.inl (nI (p))), some (.inl (d)), some (.inl (tk))], [], 0, 0, hb (sL L) F G R sO) _
  have hcl := cai_le (F := F) (w := nI 1) 4 0
  refine pw_iload_n rfl rfl ?_
  refine pw_calls (as := [.inl (nI (p))]) (rest := []) rfl rfl (by decide) rfl (Nat.le_of_ble_eq_true rfl) (Nat.le_of_ble_eq_true rfl) (Nat.le_of_ble_eq_true rfl) (Nat.le_of_ble_eq_true rfl) rfl rfl ?_
  refine t_bpath_in hp ?_
  show pw pP mSB_open (4, [some (.inr (some (1))), some (.inl (nI (p))), some (.inl (d)), some (.inl (tk))], [.inl (nI (1))], 0, 0, hb (sL L) F G R sO) _
  refine pw_if1 (t := 30) rfl rfl (fun q => absurd q (by decide)) (fun _ => ?_)
  refine pw_aload_n rfl rfl ?_
  refine px_getr (r := some (4)) rfl rfl rfl rfl rfl ?_
  refine pw_iload_n rfl rfl ?_
  refine px_aaldn (r := (some (5 + 21 * p))) rfl rfl rfl (by omega) (by decide) (hR p hp) ?_
  refine px_getv (x := F (5 + 21 * p) (5)) rfl rfl (hPa p hp).1 rfl (rfl) ?_
  refine pw_if1p (A := ¬ F (5 + 21 * p) (5) = 0) rfl rfl (t := 30) rfl (fun c1 => ?_) (fun c1 => ?_)
  · -- 30
    refine pw_iconst (v := nI (0)) rfl (by decide) ?_
    exact pw_iret rfl rfl (Nat.zero_le _) (Nat.zero_le _) rfl k
  · -- 19
    refine pw_iload_n rfl rfl ?_
    refine pw_iconst (v := nI (1)) rfl (by decide) ?_
    refine pw_if2p (A := d < nI (1)) rfl rfl (t := 30) rfl (fun c2 => ?_) (fun c2 => ?_)
    · -- 30
      refine pw_iconst (v := nI (0)) rfl (by decide) ?_
      exact pw_iret rfl rfl (Nat.zero_le _) (Nat.zero_le _) rfl k
    · -- 24
      refine pw_iload_n rfl rfl ?_
      refine pw_bipush (v := nI (40)) rfl (by decide) ?_
      refine pw_if2p (A := d ≤ nI (40)) rfl rfl (t := 32) rfl (fun c3 => ?_) (fun c3 => ?_)
      · -- 32
        refine pw_aload_n rfl rfl ?_
        refine px_getr (r := some (89)) rfl rfl rfl rfl rfl ?_
        refine px_getv (x := F (89) (8)) rfl rfl rfl rfl (rfl) ?_
        refine pw_if1p (A := ¬ F (89) (8) = 0) rfl rfl (t := 52) rfl (fun c4 => ?_) (fun c4 => ?_)
        · -- 52
          refine absurd hn (fun h => ?_)
          rcases h with h | h | h | ⟨h, h5⟩
          · first | exact c1 h | exact h c1 | exact c2 h | exact h c2 | exact c3 h | exact h c3 | exact c4 h | exact h c4 | exact h5 c1 | exact h5 c2 | exact h5 c3 | exact h5 c4
          · first | exact c1 h | exact h c1 | exact c2 h | exact h c2 | exact c3 h | exact h c3 | exact c4 h | exact h c4 | exact h5 c1 | exact h5 c2 | exact h5 c3 | exact h5 c4
          · first | exact c1 h | exact h c1 | exact c2 h | exact h c2 | exact c3 h | exact h c3 | exact c4 h | exact h c4 | exact h5 c1 | exact h5 c2 | exact h5 c3 | exact h5 c4
          · first | exact c1 h | exact h c1 | exact c2 h | exact h c2 | exact c3 h | exact h c3 | exact c4 h | exact h c4 | exact h5 c1 | exact h5 c2 | exact h5 c3 | exact h5 c4
        · -- 42
          refine pw_aload_n rfl rfl ?_
          refine pw_iconst (v := nI (1)) rfl (by decide) ?_
          refine px_callv (as := [.inr (some (1)), .inl (nI (1))]) (rest := []) rfl rfl (by decide) rfl (Nat.le_of_ble_eq_true rfl) (Nat.le_of_ble_eq_true rfl) (Nat.le_of_ble_eq_true rfl) (Nat.le_of_ble_eq_true rfl) rfl rfl rfl rfl ?_
          refine t_cai hR hPa ?_
          show pw pP mSB_open (47, [some (.inr (some (1))), some (.inl (nI (p))), some (.inl (d)), some (.inl (tk))], [.inl (nI (cai F (nI 1) 4 0))], 0, 0, hb (sL L) F G R sO) _
          refine pw_if1p (cz_eq (by omega)) rfl (t := 52) rfl (fun c5 => ?_) (fun c5 => ?_)
          · -- 52
            refine absurd hn (fun h => ?_)
            rcases h with h | h | h | ⟨h, h5⟩
            · first | exact c1 h | exact h c1 | exact c2 h | exact h c2 | exact c3 h | exact h c3 | exact c4 h | exact h c4 | exact c5 h | exact h c5 | exact h5 c1 | exact h5 c2 | exact h5 c3 | exact h5 c4 | exact h5 c5
            · first | exact c1 h | exact h c1 | exact c2 h | exact h c2 | exact c3 h | exact h c3 | exact c4 h | exact h c4 | exact c5 h | exact h c5 | exact h5 c1 | exact h5 c2 | exact h5 c3 | exact h5 c4 | exact h5 c5
            · first | exact c1 h | exact h c1 | exact c2 h | exact h c2 | exact c3 h | exact h c3 | exact c4 h | exact h c4 | exact c5 h | exact h c5 | exact h5 c1 | exact h5 c2 | exact h5 c3 | exact h5 c4 | exact h5 c5
            · first | exact c1 h | exact h c1 | exact c2 h | exact h c2 | exact c3 h | exact h c3 | exact c4 h | exact h c4 | exact c5 h | exact h c5 | exact h5 c1 | exact h5 c2 | exact h5 c3 | exact h5 c4 | exact h5 c5
          · -- 50
            refine pw_iconst (v := nI (0)) rfl (by decide) ?_
            exact pw_iret rfl rfl (Nat.zero_le _) (Nat.zero_le _) rfl k
      · -- 30
        refine pw_iconst (v := nI (0)) rfl (by decide) ?_
        exact pw_iret rfl rfl (Nat.zero_le _) (Nat.zero_le _) rfl k
theorem t_bopen_y {L p s x sz sc hi : Nat} {d tk : Int32} {F G : FN} {R : RN} (hp : p < 4) (hR : ∀ q, q < 4 → R 4 q = some (5 + 21 * q)) (hPa : ∀ q, q < 4 → pathok L (5 + 21 * q) R) (hss : (sL L)[s]? = some (2, 6, [0, 0, 0, 0, 0, 0], 0)) (hsr : 5 + 21 * p + 18 ≤ s ∧ s ≤ 5 + 21 * p + 20) (hsz : F (5 + 21 * p + 1) 1 = nI sz) (hs6 : sz ≤ 6) (hx : sz < 6 → R (5 + 21 * p + 1 + 1) sz = some x ∧ (sL L)[x]? = some (2, 1, [0, 0, 0, 0, 0, 0], 0) ∧ 5 + 21 * p + 3 ≤ x ∧ x ≤ 5 + 21 * p + 8) (hsc : F (5 + 21 * p) 3 = nI sc) (hs3 : sc < 3) (hhi : F (5 + 21 * p) 4 = nI hi) (hRs : R (5 + 21 * p + 17) sc = some s) (h0 : F (5 + 21 * p) 5 = 0) (hd1 : ¬ d < nI 1) (hd2 : d ≤ nI 40) (hw : ¬ F 89 8 = 0 ∨ cai F (nI 1) 4 0 = 0) {Q : Option PV → PH → Prop} (k : Q (some (.inl (nI 1))) (hb (sL L) (ctr0_F (csf (csyn (up2 F (5 + 21 * p) 6 d) (5 + 21 * p) s sc hi tk) (5 + 21 * p) (F 1 5)) (5 + 21 * p) s x sz (F 1 5)) G R sO)) : pz pP mSB_open [.inr (some 1), .inl (nI p), .inl d, .inl tk] (hb (sL L) F G R sO) Q := by
  show pw pP mSB_open (0, [some (.inr (some (1))), some (.inl (nI (p))), some (.inl (d)), some (.inl (tk))], [], 0, 0, hb (sL L) F G R sO) _
  have hcl := cai_le (F := F) (w := nI 1) 4 0
  refine pw_iload_n rfl rfl ?_
  refine pw_calls (as := [.inl (nI (p))]) (rest := []) rfl rfl (by decide) rfl (Nat.le_of_ble_eq_true rfl) (Nat.le_of_ble_eq_true rfl) (Nat.le_of_ble_eq_true rfl) (Nat.le_of_ble_eq_true rfl) rfl rfl ?_
  refine t_bpath_in hp ?_
  show pw pP mSB_open (4, [some (.inr (some (1))), some (.inl (nI (p))), some (.inl (d)), some (.inl (tk))], [.inl (nI (1))], 0, 0, hb (sL L) F G R sO) _
  refine pw_if1 (t := 30) rfl rfl (fun q => absurd q (by decide)) (fun _ => ?_)
  refine pw_aload_n rfl rfl ?_
  refine px_getr (r := some (4)) rfl rfl rfl rfl rfl ?_
  refine pw_iload_n rfl rfl ?_
  refine px_aaldn (r := (some (5 + 21 * p))) rfl rfl rfl (by omega) (by decide) (hR p hp) ?_
  refine px_getv (x := F (5 + 21 * p) (5)) rfl rfl (hPa p hp).1 rfl (rfl) ?_
  refine pw_if1p (A := ¬ F (5 + 21 * p) (5) = 0) rfl rfl (t := 30) rfl (fun q => absurd q (fun h => h h0)) (fun _ => ?_)
  refine pw_iload_n rfl rfl ?_
  refine pw_iconst (v := nI (1)) rfl (by decide) ?_
  refine pw_if2p (A := d < nI (1)) rfl rfl (t := 30) rfl (fun q => absurd q hd1) (fun _ => ?_)
  refine pw_iload_n rfl rfl ?_
  refine pw_bipush (v := nI (40)) rfl (by decide) ?_
  refine pw_if2p (A := d ≤ nI (40)) rfl rfl (t := 32) rfl (fun _ => ?_) (fun q => absurd hd2 q)
  refine pw_aload_n rfl rfl ?_
  refine px_getr (r := some (89)) rfl rfl rfl rfl rfl ?_
  refine px_getv (x := F (89) (8)) rfl rfl rfl rfl (rfl) ?_
  refine pw_if1p (A := ¬ F (89) (8) = 0) rfl rfl (t := 52) rfl (fun c1 => ?_) (fun c1 => ?_)
  · -- 52
    refine pw_aload_n rfl rfl ?_
    refine px_getr (r := some (4)) rfl rfl rfl rfl rfl ?_
    refine pw_iload_n rfl rfl ?_
    refine px_aaldn (r := (some (5 + 21 * p))) rfl rfl rfl (by omega) (by decide) (hR p hp) ?_
    refine pw_iload_n rfl rfl ?_
    refine px_put rfl rfl (hPa p hp).1 rfl rfl ?_
    refine pw_aload_n rfl rfl ?_
    refine px_getr (r := some (89)) rfl rfl rfl rfl rfl ?_
    refine pw_aload_n rfl rfl ?_
    refine px_getr (r := some (4)) rfl rfl rfl rfl rfl ?_
    refine pw_iload_n rfl rfl ?_
    refine px_aaldn (r := (some (5 + 21 * p))) rfl rfl rfl (by omega) (by decide) (hR p hp) ?_
    refine pw_iload_n rfl rfl ?_
    refine pw_aload_n rfl rfl ?_
    refine px_getv (x := F (1) (5)) rfl rfl rfl rfl (up2_ne (by omega)) ?_
    refine px_callv (as := [.inr (some (89)), .inr (some (5 + 21 * p)), .inl (tk), .inl (F (1) (5))]) (rest := []) rfl rfl (by decide) rfl (Nat.le_of_ble_eq_true rfl) (Nat.le_of_ble_eq_true rfl) (Nat.le_of_ble_eq_true rfl) (Nat.le_of_ble_eq_true rfl) rfl rfl rfl rfl ?_
    refine t_csyn (hPa p hp) (by omega) hss hsr ((up2_ne (by omega)).trans hsz) hs6 hx ((up2_ne (by omega)).trans hsc) hs3 ((up2_ne (by omega)).trans hhi) hRs ?_
    show pw pP mSB_open (80, [some (.inr (some (1))), some (.inl (nI (p))), some (.inl (d)), some (.inl (tk))], [], 0, 0, hb (sL L) (ctr0_F (csf (csyn (up2 F (5 + 21 * p) 6 d) (5 + 21 * p) s sc hi tk) (5 + 21 * p) (F 1 5)) (5 + 21 * p) s x sz (F 1 5)) G R sO) _
    refine pw_iconst (v := nI (1)) rfl (by decide) ?_
    exact pw_iret rfl rfl (Nat.zero_le _) (Nat.zero_le _) rfl k
  · -- 42
    refine pw_aload_n rfl rfl ?_
    refine pw_iconst (v := nI (1)) rfl (by decide) ?_
    refine px_callv (as := [.inr (some (1)), .inl (nI (1))]) (rest := []) rfl rfl (by decide) rfl (Nat.le_of_ble_eq_true rfl) (Nat.le_of_ble_eq_true rfl) (Nat.le_of_ble_eq_true rfl) (Nat.le_of_ble_eq_true rfl) rfl rfl rfl rfl ?_
    refine t_cai hR hPa ?_
    show pw pP mSB_open (47, [some (.inr (some (1))), some (.inl (nI (p))), some (.inl (d)), some (.inl (tk))], [.inl (nI (cai F (nI 1) 4 0))], 0, 0, hb (sL L) F G R sO) _
    refine pw_if1p (cz_eq (by omega)) rfl (t := 52) rfl (fun c2 => ?_) (fun c2 => ?_)
    · -- 52
      refine pw_aload_n rfl rfl ?_
      refine px_getr (r := some (4)) rfl rfl rfl rfl rfl ?_
      refine pw_iload_n rfl rfl ?_
      refine px_aaldn (r := (some (5 + 21 * p))) rfl rfl rfl (by omega) (by decide) (hR p hp) ?_
      refine pw_iload_n rfl rfl ?_
      refine px_put rfl rfl (hPa p hp).1 rfl rfl ?_
      refine pw_aload_n rfl rfl ?_
      refine px_getr (r := some (89)) rfl rfl rfl rfl rfl ?_
      refine pw_aload_n rfl rfl ?_
      refine px_getr (r := some (4)) rfl rfl rfl rfl rfl ?_
      refine pw_iload_n rfl rfl ?_
      refine px_aaldn (r := (some (5 + 21 * p))) rfl rfl rfl (by omega) (by decide) (hR p hp) ?_
      refine pw_iload_n rfl rfl ?_
      refine pw_aload_n rfl rfl ?_
      refine px_getv (x := F (1) (5)) rfl rfl rfl rfl (up2_ne (by omega)) ?_
      refine px_callv (as := [.inr (some (89)), .inr (some (5 + 21 * p)), .inl (tk), .inl (F (1) (5))]) (rest := []) rfl rfl (by decide) rfl (Nat.le_of_ble_eq_true rfl) (Nat.le_of_ble_eq_true rfl) (Nat.le_of_ble_eq_true rfl) (Nat.le_of_ble_eq_true rfl) rfl rfl rfl rfl ?_
      refine t_csyn (hPa p hp) (by omega) hss hsr ((up2_ne (by omega)).trans hsz) hs6 hx ((up2_ne (by omega)).trans hsc) hs3 ((up2_ne (by omega)).trans hhi) hRs ?_
      show pw pP mSB_open (80, [some (.inr (some (1))), some (.inl (nI (p))), some (.inl (d)), some (.inl (tk))], [], 0, 0, hb (sL L) (ctr0_F (csf (csyn (up2 F (5 + 21 * p) 6 d) (5 + 21 * p) s sc hi tk) (5 + 21 * p) (F 1 5)) (5 + 21 * p) s x sz (F 1 5)) G R sO) _
      refine pw_iconst (v := nI (1)) rfl (by decide) ?_
      exact pw_iret rfl rfl (Nat.zero_le _) (Nat.zero_le _) rfl k
    · -- 50
      exact hw.elim (fun h => absurd h c1) (fun h => absurd h c2)
