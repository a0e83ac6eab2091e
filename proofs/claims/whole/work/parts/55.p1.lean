/-! THE PIECES of pass, tick, deliver, sendAll between two calls. Rows laid by a program (wip/whole/gen/pass1.py). -/
theorem t_tdu_none {L e sz : Nat} {d : Int32} {F G : FN} {R : RN} {Q : Option PV → PH → Prop} (hP : pipeok L e R) (hsz : F e 1 = nI sz) (hs6 : sz ≤ 6) (hc : cdu F R e d sz 0 = none) (k : Q (some (.inr none)) (hb (sL L) F G R sO)) : pz pP mPipe_takeDue [.inr (some e), .inl d] (hb (sL L) F G R sO) Q := by
  refine t_takeDue hP hsz hs6 ?_
  rw [hc]
  exact k
theorem t_tdu_some {L e sz j : Nat} {d : Int32} {F G : FN} {R : RN} {Q : Option PV → PH → Prop} (hP : pipeok L e R) (hsz : F e 1 = nI sz) (hs6 : sz ≤ 6) (hc : cdu F R e d sz 0 = some j) (k : Q (some (.inr (some (rx R (e + 1) j)))) (hb (sL L) (tout_F F e sz) G (tout_R R e sz j (rx R (e + 1) j)) sO)) : pz pP mPipe_takeDue [.inr (some e), .inl d] (hb (sL L) F G R sO) Q := by
  refine t_takeDue hP hsz hs6 ?_
  rw [hc]
  exact k
theorem cdf_end {L p n : Nat} {o4 : Option PV} {F G : FN} {R : RN} {Q : Option PV → PH → Prop} (k : Q (some (.inl (nI (n)))) (hb (sL L) F G R sO)) : pw pP mSB_deliverForward (4, [some (.inr (some (1))), some (.inl (nI (p))), some (.inl (nI (n))), some (.inl (nI (6))), o4], [], 0, 0, hb (sL L) F G R sO) Q := by
  refine pw_iload_n rfl rfl ?_
  refine pw_bipush (v := nI (6)) rfl (by decide) ?_
  refine pw_if2 (t := 65) rfl rfl (fun _ => ?_) (fun q => absurd q (by decide))
  refine pw_iload_n rfl rfl ?_
  exact pw_iret rfl rfl (Nat.zero_le _) (Nat.zero_le _) rfl k
theorem cdf_due {L p now n i : Nat} {o4 : Option PV} {F G : FN} {R : RN} {Q : Option PV → PH → Prop} (hp : p < 4) (hR4 : R 4 p = some (5 + 21 * p)) (hP : pathok L (5 + 21 * p) R) (hn : F 1 5 = nI now) (hi : i < 6) (kont : pz pP mPipe_takeDue [.inr (some (5 + 21 * p + 1)), .inl (nI (now))] (hb (sL L) F G R sO) (fun r h1 => pw pP mSB_deliverForward (26, [some (.inr (some (1))), some (.inl (nI (p))), some (.inl (nI (n))), some (.inl (nI (i))), o4], r.toList ++ [], 0, 0, h1) Q)) : pw pP mSB_deliverForward (4, [some (.inr (some (1))), some (.inl (nI (p))), some (.inl (nI (n))), some (.inl (nI (i))), o4], [], 0, 0, hb (sL L) F G R sO) Q := by
  refine pw_iload_n rfl rfl ?_
  refine pw_bipush (v := nI (6)) rfl (by decide) ?_
  refine pw_if2p (cn_ge (by omega) (by omega)) rfl (t := 65) rfl (fun q => absurd q (by omega)) (fun _ => ?_)
  refine pw_aload_n rfl rfl ?_
  refine px_getr (r := some (4)) rfl rfl rfl rfl rfl ?_
  refine pw_iload_n rfl rfl ?_
  refine px_aaldn (r := (some (5 + 21 * p))) rfl rfl rfl (by omega) (by decide) (hR4) ?_
  refine px_getr (r := some (5 + 21 * p + 1)) rfl rfl hP.1 rfl hP.2.1.1 ?_
  refine pw_aload_n rfl rfl ?_
  refine px_getv (x := nI (now)) rfl rfl rfl rfl (hn) ?_
  refine px_callv (as := [.inr (some (5 + 21 * p + 1)), .inl (nI (now))]) (rest := []) rfl rfl (by decide) rfl (Nat.le_of_ble_eq_true rfl) (Nat.le_of_ble_eq_true rfl) (Nat.le_of_ble_eq_true rfl) (Nat.le_of_ble_eq_true rfl) rfl hP.2.2.1.1 rfl rfl ?_
  exact kont
theorem cdf_null {L p n i : Nat} {o4 : Option PV} {F G : FN} {R : RN} {Q : Option PV → PH → Prop} (k : Q (some (.inl (nI (n)))) (hb (sL L) F G R sO)) : pw pP mSB_deliverForward (26, [some (.inr (some (1))), some (.inl (nI (p))), some (.inl (nI (n))), some (.inl (nI (i))), o4], [.inr none], 0, 0, hb (sL L) F G R sO) Q := by
  refine pw_astore (ls1 := [some (.inr (some (1))), some (.inl (nI (p))), some (.inl (nI (n))), some (.inl (nI (i))), some (.inr none)]) rfl (Nat.le_of_ble_eq_true rfl) rfl ?_
  refine pw_aload rfl rfl ?_
  refine pw_ifnonnullN (t := 36) rfl rfl ?_
  refine pw_goto (t := 65) rfl rfl ?_
  refine pw_iload_n rfl rfl ?_
  exact pw_iret rfl rfl (Nat.zero_le _) (Nat.zero_le _) rfl k
theorem cdf_take {L p now n i x : Nat} {o4 : Option PV} {F G : FN} {R : RN} {Q : Option PV → PH → Prop} (hp : p < 4) (hR4 : R 4 p = some (5 + 21 * p)) (hP : pathok L (5 + 21 * p) R) (hn : F 1 5 = nI now) (hsx : (sL L)[x]? = some (2, 1, [0, 0, 0, 0, 0, 0], 0)) (kont : pz pP mHostB_hear [.inr (some (92)), .inr (some (x)), .inl (nI (p)), .inr (some (5 + 21 * p)), .inl (nI (now))] (hb (sL L) F G R sO) (fun r h1 => pw pP mSB_deliverForward (59, [some (.inr (some (1))), some (.inl (nI (p))), some (.inl (nI (n + 1))), some (.inl (nI (i))), some (.inr (some (x)))], r.toList ++ [], 0, 0, h1) Q)) : pw pP mSB_deliverForward (26, [some (.inr (some (1))), some (.inl (nI (p))), some (.inl (nI (n))), some (.inl (nI (i))), o4], [.inr (some (x))], 0, 0, hb (sL L) F G R sO) Q := by
  refine pw_astore (ls1 := [some (.inr (some (1))), some (.inl (nI (p))), some (.inl (nI (n))), some (.inl (nI (i))), some (.inr (some (x)))]) rfl (Nat.le_of_ble_eq_true rfl) rfl ?_
  refine pw_aload rfl rfl ?_
  refine pw_ifnonnull (t := 36) rfl rfl ?_
  refine pw_iinc (v := nI (n + 1)) (ls1 := [some (.inr (some (1))), some (.inl (nI (p))), some (.inl (nI (n + 1))), some (.inl (nI (i))), some (.inr (some (x)))]) rfl rfl (iinc_n _) rfl ?_
  refine pw_aload_n rfl rfl ?_
  refine px_getr (r := some (92)) rfl rfl rfl rfl rfl ?_
  refine pw_aload rfl rfl ?_
  refine pw_iload_n rfl rfl ?_
  refine pw_aload_n rfl rfl ?_
  refine px_getr (r := some (4)) rfl rfl rfl rfl rfl ?_
  refine pw_iload_n rfl rfl ?_
  refine px_aaldn (r := (some (5 + 21 * p))) rfl rfl rfl (by omega) (by decide) (hR4) ?_
  refine pw_aload_n rfl rfl ?_
  refine px_getv (x := nI (now)) rfl rfl rfl rfl (hn) ?_
  refine px_callv (as := [.inr (some (92)), .inr (some (x)), .inl (nI (p)), .inr (some (5 + 21 * p)), .inl (nI (now))]) (rest := []) rfl rfl (by decide) rfl (Nat.le_of_ble_eq_true rfl) (Nat.le_of_ble_eq_true rfl) (Nat.le_of_ble_eq_true rfl) (Nat.le_of_ble_eq_true rfl) rfl rfl rfl rfl ?_
  exact kont
theorem cdf_next {L p n i : Nat} {o4 : Option PV} {F G : FN} {R : RN} {Q : Option PV → PH → Prop} (k : pw pP mSB_deliverForward (4, [some (.inr (some (1))), some (.inl (nI (p))), some (.inl (nI (n))), some (.inl (nI (i + 1))), o4], [], 0, 0, hb (sL L) F G R sO) Q) : pw pP mSB_deliverForward (59, [some (.inr (some (1))), some (.inl (nI (p))), some (.inl (nI (n))), some (.inl (nI (i))), o4], [], 0, 0, hb (sL L) F G R sO) Q := by
  refine pw_iinc (v := nI (i + 1)) (ls1 := [some (.inr (some (1))), some (.inl (nI (p))), some (.inl (nI (n))), some (.inl (nI (i + 1))), o4]) rfl rfl (iinc_n _) rfl ?_
  refine pw_goto (t := 4) rfl rfl ?_
  exact k
theorem cdf_0 {L p : Nat} {F G : FN} {R : RN} {Q : Option PV → PH → Prop} (k : pw pP mSB_deliverForward (4, [some (.inr (some (1))), some (.inl (nI (p))), some (.inl (nI (0))), some (.inl (nI (0))), none], [], 0, 0, hb (sL L) F G R sO) Q) : pz pP mSB_deliverForward [.inr (some (1)), .inl (nI (p))] (hb (sL L) F G R sO) Q := by
  show pw pP mSB_deliverForward (0, [some (.inr (some (1))), some (.inl (nI (p))), none, none, none], [], 0, 0, hb (sL L) F G R sO) _
  refine pw_iconst (v := nI (0)) rfl (by decide) ?_
  refine pw_istore_n (ls1 := [some (.inr (some (1))), some (.inl (nI (p))), some (.inl (nI (0))), none, none]) rfl (Nat.le_of_ble_eq_true rfl) rfl ?_
  refine pw_iconst (v := nI (0)) rfl (by decide) ?_
  refine pw_istore_n (ls1 := [some (.inr (some (1))), some (.inl (nI (p))), some (.inl (nI (0))), some (.inl (nI (0))), none]) rfl (Nat.le_of_ble_eq_true rfl) rfl ?_
  exact k
theorem cdb_end {L p n : Nat} {o4 : Option PV} {F G : FN} {R : RN} {Q : Option PV → PH → Prop} (k : Q (some (.inl (nI (n)))) (hb (sL L) F G R sO)) : pw pP mSB_deliverBack (4, [some (.inr (some (1))), some (.inl (nI (p))), some (.inl (nI (n))), some (.inl (nI (6))), o4], [], 0, 0, hb (sL L) F G R sO) Q := by
  refine pw_iload_n rfl rfl ?_
  refine pw_bipush (v := nI (6)) rfl (by decide) ?_
  refine pw_if2 (t := 64) rfl rfl (fun _ => ?_) (fun q => absurd q (by decide))
  refine pw_iload_n rfl rfl ?_
  exact pw_iret rfl rfl (Nat.zero_le _) (Nat.zero_le _) rfl k
theorem cdb_due {L p now n i : Nat} {o4 : Option PV} {F G : FN} {R : RN} {Q : Option PV → PH → Prop} (hp : p < 4) (hR4 : R 4 p = some (5 + 21 * p)) (hP : pathok L (5 + 21 * p) R) (hn : F 1 5 = nI now) (hi : i < 6) (kont : pz pP mPipe_takeDue [.inr (some (5 + 21 * p + 9)), .inl (nI (now))] (hb (sL L) F G R sO) (fun r h1 => pw pP mSB_deliverBack (26, [some (.inr (some (1))), some (.inl (nI (p))), some (.inl (nI (n))), some (.inl (nI (i))), o4], r.toList ++ [], 0, 0, h1) Q)) : pw pP mSB_deliverBack (4, [some (.inr (some (1))), some (.inl (nI (p))), some (.inl (nI (n))), some (.inl (nI (i))), o4], [], 0, 0, hb (sL L) F G R sO) Q := by
  refine pw_iload_n rfl rfl ?_
  refine pw_bipush (v := nI (6)) rfl (by decide) ?_
  refine pw_if2p (cn_ge (by omega) (by omega)) rfl (t := 64) rfl (fun q => absurd q (by omega)) (fun _ => ?_)
  refine pw_aload_n rfl rfl ?_
  refine px_getr (r := some (4)) rfl rfl rfl rfl rfl ?_
  refine pw_iload_n rfl rfl ?_
  refine px_aaldn (r := (some (5 + 21 * p))) rfl rfl rfl (by omega) (by decide) (hR4) ?_
  refine px_getr (r := some (5 + 21 * p + 9)) rfl rfl hP.1 rfl hP.2.1.2.1 ?_
  refine pw_aload_n rfl rfl ?_
  refine px_getv (x := nI (now)) rfl rfl rfl rfl (hn) ?_
  refine px_callv (as := [.inr (some (5 + 21 * p + 9)), .inl (nI (now))]) (rest := []) rfl rfl (by decide) rfl (Nat.le_of_ble_eq_true rfl) (Nat.le_of_ble_eq_true rfl) (Nat.le_of_ble_eq_true rfl) (Nat.le_of_ble_eq_true rfl) rfl hP.2.2.2.1.1 rfl rfl ?_
  exact kont
theorem cdb_null {L p n i : Nat} {o4 : Option PV} {F G : FN} {R : RN} {Q : Option PV → PH → Prop} (k : Q (some (.inl (nI (n)))) (hb (sL L) F G R sO)) : pw pP mSB_deliverBack (26, [some (.inr (some (1))), some (.inl (nI (p))), some (.inl (nI (n))), some (.inl (nI (i))), o4], [.inr none], 0, 0, hb (sL L) F G R sO) Q := by
  refine pw_astore (ls1 := [some (.inr (some (1))), some (.inl (nI (p))), some (.inl (nI (n))), some (.inl (nI (i))), some (.inr none)]) rfl (Nat.le_of_ble_eq_true rfl) rfl ?_
  refine pw_aload rfl rfl ?_
  refine pw_ifnonnullN (t := 36) rfl rfl ?_
  refine pw_goto (t := 64) rfl rfl ?_
  refine pw_iload_n rfl rfl ?_
  exact pw_iret rfl rfl (Nat.zero_le _) (Nat.zero_le _) rfl k
theorem cdb_take {L p now n i x : Nat} {o4 : Option PV} {F G : FN} {R : RN} {Q : Option PV → PH → Prop} (hp : p < 4) (hR4 : R 4 p = some (5 + 21 * p)) (hP : pathok L (5 + 21 * p) R) (hn : F 1 5 = nI now) (hsx : (sL L)[x]? = some (2, 1, [0, 0, 0, 0, 0, 0], 0)) (kont : pz pP mHostA_hear [.inr (some (89)), .inr (some (x)), .inr (some (5 + 21 * p)), .inl (nI (now))] (hb (sL L) F G R sO) (fun r h1 => pw pP mSB_deliverBack (58, [some (.inr (some (1))), some (.inl (nI (p))), some (.inl (nI (n + 1))), some (.inl (nI (i))), some (.inr (some (x)))], r.toList ++ [], 0, 0, h1) Q)) : pw pP mSB_deliverBack (26, [some (.inr (some (1))), some (.inl (nI (p))), some (.inl (nI (n))), some (.inl (nI (i))), o4], [.inr (some (x))], 0, 0, hb (sL L) F G R sO) Q := by
  refine pw_astore (ls1 := [some (.inr (some (1))), some (.inl (nI (p))), some (.inl (nI (n))), some (.inl (nI (i))), some (.inr (some (x)))]) rfl (Nat.le_of_ble_eq_true rfl) rfl ?_
  refine pw_aload rfl rfl ?_
  refine pw_ifnonnull (t := 36) rfl rfl ?_
  refine pw_iinc (v := nI (n + 1)) (ls1 := [some (.inr (some (1))), some (.inl (nI (p))), some (.inl (nI (n + 1))), some (.inl (nI (i))), some (.inr (some (x)))]) rfl rfl (iinc_n _) rfl ?_
  refine pw_aload_n rfl rfl ?_
  refine px_getr (r := some (89)) rfl rfl rfl rfl rfl ?_
  refine pw_aload rfl rfl ?_
  refine pw_aload_n rfl rfl ?_
  refine px_getr (r := some (4)) rfl rfl rfl rfl rfl ?_
  refine pw_iload_n rfl rfl ?_
  refine px_aaldn (r := (some (5 + 21 * p))) rfl rfl rfl (by omega) (by decide) (hR4) ?_
  refine pw_aload_n rfl rfl ?_
  refine px_getv (x := nI (now)) rfl rfl rfl rfl (hn) ?_
  refine px_callv (as := [.inr (some (89)), .inr (some (x)), .inr (some (5 + 21 * p)), .inl (nI (now))]) (rest := []) rfl rfl (by decide) rfl (Nat.le_of_ble_eq_true rfl) (Nat.le_of_ble_eq_true rfl) (Nat.le_of_ble_eq_true rfl) (Nat.le_of_ble_eq_true rfl) rfl rfl rfl rfl ?_
  exact kont
theorem cdb_next {L p n i : Nat} {o4 : Option PV} {F G : FN} {R : RN} {Q : Option PV → PH → Prop} (k : pw pP mSB_deliverBack (4, [some (.inr (some (1))), some (.inl (nI (p))), some (.inl (nI (n))), some (.inl (nI (i + 1))), o4], [], 0, 0, hb (sL L) F G R sO) Q) : pw pP mSB_deliverBack (58, [some (.inr (some (1))), some (.inl (nI (p))), some (.inl (nI (n))), some (.inl (nI (i))), o4], [], 0, 0, hb (sL L) F G R sO) Q := by
  refine pw_iinc (v := nI (i + 1)) (ls1 := [some (.inr (some (1))), some (.inl (nI (p))), some (.inl (nI (n))), some (.inl (nI (i + 1))), o4]) rfl rfl (iinc_n _) rfl ?_
  refine pw_goto (t := 4) rfl rfl ?_
  exact k
theorem cdb_0 {L p : Nat} {F G : FN} {R : RN} {Q : Option PV → PH → Prop} (k : pw pP mSB_deliverBack (4, [some (.inr (some (1))), some (.inl (nI (p))), some (.inl (nI (0))), some (.inl (nI (0))), none], [], 0, 0, hb (sL L) F G R sO) Q) : pz pP mSB_deliverBack [.inr (some (1)), .inl (nI (p))] (hb (sL L) F G R sO) Q := by
  show pw pP mSB_deliverBack (0, [some (.inr (some (1))), some (.inl (nI (p))), none, none, none], [], 0, 0, hb (sL L) F G R sO) _
  refine pw_iconst (v := nI (0)) rfl (by decide) ?_
  refine pw_istore_n (ls1 := [some (.inr (some (1))), some (.inl (nI (p))), some (.inl (nI (0))), none, none]) rfl (Nat.le_of_ble_eq_true rfl) rfl ?_
  refine pw_iconst (v := nI (0)) rfl (by decide) ?_
  refine pw_istore_n (ls1 := [some (.inr (some (1))), some (.inl (nI (p))), some (.inl (nI (0))), some (.inl (nI (0))), none]) rfl (Nat.le_of_ble_eq_true rfl) rfl ?_
  exact k
theorem td_end {L q n kk : Nat} {o5 o6 o7 o8 o9 o10 : Option PV} {F G : FN} {R : RN} {Q : Option PV → PH → Prop} (k : Q (some (.inl (nI (n)))) (hb (sL L) F G R sO)) : pw pP mSBModel_deliver (7, [some (.inr (some (103))), some (.inl (nI (q))), some (.inl (nI (n))), some (.inl (nI (kk))), some (.inl (nI (6))), o5, o6, o7, o8, o9, o10], [], 0, 0, hb (sL L) F G R sO) Q := by
  refine pw_iload rfl rfl ?_
  refine pw_bipush (v := nI (6)) rfl (by decide) ?_
  refine pw_if2 (t := 151) rfl rfl (fun _ => ?_) (fun q => absurd q (by decide))
  refine pw_iload_n rfl rfl ?_
  exact pw_iret rfl rfl (Nat.zero_le _) (Nat.zero_le _) rfl k
theorem td0_far {L p n kk t fl now : Nat} {o5 o6 o7 o8 o9 o10 : Option PV} {F G : FN} {R : RN} {Q : Option PV → PH → Prop} (hp : p < 4) (hfl : G 124 (2 * p) = nI fl) (hf : fl ≤ 6) (ht : t < 6) (hk2 : kk ≤ 12) (hn : F 103 3 = nI now) (hnw : now < 2 ^ 31) (hk : fl ≤ kk) (k : pw pP mSBModel_deliver (7, [some (.inr (some (103))), some (.inl (nI (2 * p))), some (.inl (nI (n))), some (.inl (nI (kk + 1))), some (.inl (nI (t + 1))), some (.inl (nI (6 * (2 * p) + kk))), o6, o7, o8, o9, o10], [], 0, 0, hb (sL L) F G R sO) Q) : pw pP mSBModel_deliver (7, [some (.inr (some (103))), some (.inl (nI (2 * p))), some (.inl (nI (n))), some (.inl (nI (kk))), some (.inl (nI (t))), o5, o6, o7, o8, o9, o10], [], 0, 0, hb (sL L) F G R sO) Q := by
  refine pw_iload rfl rfl ?_
  refine pw_bipush (v := nI (6)) rfl (by decide) ?_
  refine pw_if2p (cn_ge (by omega) (by omega)) rfl (t := 151) rfl (fun q => absurd q (by omega)) (fun _ => ?_)
  refine pw_bipush (v := nI (6)) rfl (by decide) ?_
  refine pw_iload_n rfl rfl ?_
  refine pw_imul (z := nI (6 * (2 * p))) rfl (pk_mul _ _) ?_
  refine pw_iload_n rfl rfl ?_
  refine pw_iadd (z := nI (6 * (2 * p) + kk)) rfl (nI_add _ _) ?_
  refine pw_istore (ls1 := [some (.inr (some (103))), some (.inl (nI (2 * p))), some (.inl (nI (n))), some (.inl (nI (kk))), some (.inl (nI (t))), some (.inl (nI (6 * (2 * p) + kk))), o6, o7, o8, o9, o10]) rfl (Nat.le_of_ble_eq_true rfl) rfl ?_
  refine pw_iload_n rfl rfl ?_
  refine pw_aload_n rfl rfl ?_
  refine px_getr (r := some (124)) rfl rfl rfl rfl rfl ?_
  refine pw_iload_n rfl rfl ?_
  refine px_ialdn (x := nI (fl)) rfl rfl (by omega) (by decide) (hfl) ?_
  refine pw_if2p (cn_ge (by omega) (by omega)) rfl (t := 142) rfl (fun _ => ?_) (fun q => absurd hk q)
  refine pw_iinc (v := nI (kk + 1)) (ls1 := [some (.inr (some (103))), some (.inl (nI (2 * p))), some (.inl (nI (n))), some (.inl (nI (kk + 1))), some (.inl (nI (t))), some (.inl (nI (6 * (2 * p) + kk))), o6, o7, o8, o9, o10]) rfl rfl (iinc_n _) rfl ?_
  refine pw_iinc (v := nI (t + 1)) (ls1 := [some (.inr (some (103))), some (.inl (nI (2 * p))), some (.inl (nI (n))), some (.inl (nI (kk + 1))), some (.inl (nI (t + 1))), some (.inl (nI (6 * (2 * p) + kk))), o6, o7, o8, o9, o10]) rfl rfl (iinc_n _) rfl ?_
  refine pw_goto (t := 7) rfl rfl ?_
  exact k
theorem td0_not {L p n kk t fl now : Nat} {o5 o6 o7 o8 o9 o10 : Option PV} {F G : FN} {R : RN} {Q : Option PV → PH → Prop} (hp : p < 4) (hfl : G 124 (2 * p) = nI fl) (hf : fl ≤ 6) (ht : t < 6) (hk2 : kk ≤ 12) (hn : F 103 3 = nI now) (hnw : now < 2 ^ 31) (hk : kk < fl) (hd : ¬ G 130 (6 * (2 * p) + kk) = nI now) (k : pw pP mSBModel_deliver (7, [some (.inr (some (103))), some (.inl (nI (2 * p))), some (.inl (nI (n))), some (.inl (nI (kk + 1))), some (.inl (nI (t + 1))), some (.inl (nI (6 * (2 * p) + kk))), o6, o7, o8, o9, o10], [], 0, 0, hb (sL L) F G R sO) Q) : pw pP mSBModel_deliver (7, [some (.inr (some (103))), some (.inl (nI (2 * p))), some (.inl (nI (n))), some (.inl (nI (kk))), some (.inl (nI (t))), o5, o6, o7, o8, o9, o10], [], 0, 0, hb (sL L) F G R sO) Q := by
  refine pw_iload rfl rfl ?_
  refine pw_bipush (v := nI (6)) rfl (by decide) ?_
  refine pw_if2p (cn_ge (by omega) (by omega)) rfl (t := 151) rfl (fun q => absurd q (by omega)) (fun _ => ?_)
  refine pw_bipush (v := nI (6)) rfl (by decide) ?_
  refine pw_iload_n rfl rfl ?_
  refine pw_imul (z := nI (6 * (2 * p))) rfl (pk_mul _ _) ?_
  refine pw_iload_n rfl rfl ?_
  refine pw_iadd (z := nI (6 * (2 * p) + kk)) rfl (nI_add _ _) ?_
  refine pw_istore (ls1 := [some (.inr (some (103))), some (.inl (nI (2 * p))), some (.inl (nI (n))), some (.inl (nI (kk))), some (.inl (nI (t))), some (.inl (nI (6 * (2 * p) + kk))), o6, o7, o8, o9, o10]) rfl (Nat.le_of_ble_eq_true rfl) rfl ?_
  refine pw_iload_n rfl rfl ?_
  refine pw_aload_n rfl rfl ?_
  refine px_getr (r := some (124)) rfl rfl rfl rfl rfl ?_
  refine pw_iload_n rfl rfl ?_
  refine px_ialdn (x := nI (fl)) rfl rfl (by omega) (by decide) (hfl) ?_
  refine pw_if2p (cn_ge (by omega) (by omega)) rfl (t := 142) rfl (fun q => absurd q (by omega)) (fun _ => ?_)
  refine pw_aload_n rfl rfl ?_
  refine px_getr (r := some (130)) rfl rfl rfl rfl rfl ?_
  refine pw_iload rfl rfl ?_
  refine px_ialdn (x := G (130) (6 * (2 * p) + kk)) rfl rfl (by omega) (by decide) (rfl) ?_
  refine pw_aload_n rfl rfl ?_
  refine px_getv (x := nI (now)) rfl rfl rfl rfl (hn) ?_
  refine pw_if2p (A := ¬ G (130) (6 * (2 * p) + kk) = nI (now)) rfl rfl (t := 142) rfl (fun _ => ?_) (fun q => absurd hd q)
  refine pw_iinc (v := nI (kk + 1)) (ls1 := [some (.inr (some (103))), some (.inl (nI (2 * p))), some (.inl (nI (n))), some (.inl (nI (kk + 1))), some (.inl (nI (t))), some (.inl (nI (6 * (2 * p) + kk))), o6, o7, o8, o9, o10]) rfl rfl (iinc_n _) rfl ?_
  refine pw_iinc (v := nI (t + 1)) (ls1 := [some (.inr (some (103))), some (.inl (nI (2 * p))), some (.inl (nI (n))), some (.inl (nI (kk + 1))), some (.inl (nI (t + 1))), some (.inl (nI (6 * (2 * p) + kk))), o6, o7, o8, o9, o10]) rfl rfl (iinc_n _) rfl ?_
  refine pw_goto (t := 7) rfl rfl ?_
  exact k
theorem td0_take {L p n kk t fl now : Nat} {o5 o6 o7 o8 o9 o10 : Option PV} {F G : FN} {R : RN} {Q : Option PV → PH → Prop} (hp : p < 4) (hfl : G 124 (2 * p) = nI fl) (hf : fl ≤ 6) (ht : t < 6) (hk2 : kk ≤ 12) (hn : F 103 3 = nI now) (hnw : now < 2 ^ 31) (hk : kk < fl) (hd : G 130 (6 * (2 * p) + kk) = nI now) (kont : pz pP mSBModel_atB [.inr (some (103)), .inl (nI (p)), .inl (G (125) (6 * (2 * p) + kk)), .inl (G (126) (6 * (2 * p) + kk)), .inl (G (127) (6 * (2 * p) + kk)), .inl (G (129) (6 * (2 * p) + kk))] (hb (sL L) F (tdrop G (2 * p) fl kk) R sO) (fun r h1 => pw pP mSBModel_deliver (121, [some (.inr (some (103))), some (.inl (nI (2 * p))), some (.inl (nI (n + 1))), some (.inl (nI (kk))), some (.inl (nI (t))), some (.inl (nI (6 * (2 * p) + kk))), some (.inl (G (125) (6 * (2 * p) + kk))), some (.inl (G (126) (6 * (2 * p) + kk))), some (.inl (G (127) (6 * (2 * p) + kk))), some (.inl (G (128) (6 * (2 * p) + kk))), some (.inl (G (129) (6 * (2 * p) + kk)))], r.toList ++ [], 0, 0, h1) Q)) : pw pP mSBModel_deliver (7, [some (.inr (some (103))), some (.inl (nI (2 * p))), some (.inl (nI (n))), some (.inl (nI (kk))), some (.inl (nI (t))), o5, o6, o7, o8, o9, o10], [], 0, 0, hb (sL L) F G R sO) Q := by
  refine pw_iload rfl rfl ?_
  refine pw_bipush (v := nI (6)) rfl (by decide) ?_
  refine pw_if2p (cn_ge (by omega) (by omega)) rfl (t := 151) rfl (fun q => absurd q (by omega)) (fun _ => ?_)
  refine pw_bipush (v := nI (6)) rfl (by decide) ?_
  refine pw_iload_n rfl rfl ?_
  refine pw_imul (z := nI (6 * (2 * p))) rfl (pk_mul _ _) ?_
  refine pw_iload_n rfl rfl ?_
  refine pw_iadd (z := nI (6 * (2 * p) + kk)) rfl (nI_add _ _) ?_
  refine pw_istore (ls1 := [some (.inr (some (103))), some (.inl (nI (2 * p))), some (.inl (nI (n))), some (.inl (nI (kk))), some (.inl (nI (t))), some (.inl (nI (6 * (2 * p) + kk))), o6, o7, o8, o9, o10]) rfl (Nat.le_of_ble_eq_true rfl) rfl ?_
  refine pw_iload_n rfl rfl ?_
  refine pw_aload_n rfl rfl ?_
  refine px_getr (r := some (124)) rfl rfl rfl rfl rfl ?_
  refine pw_iload_n rfl rfl ?_
  refine px_ialdn (x := nI (fl)) rfl rfl (by omega) (by decide) (hfl) ?_
  refine pw_if2p (cn_ge (by omega) (by omega)) rfl (t := 142) rfl (fun q => absurd q (by omega)) (fun _ => ?_)
  refine pw_aload_n rfl rfl ?_
  refine px_getr (r := some (130)) rfl rfl rfl rfl rfl ?_
  refine pw_iload rfl rfl ?_
  refine px_ialdn (x := nI (now)) rfl rfl (by omega) (by decide) (hd) ?_
  refine pw_aload_n rfl rfl ?_
  refine px_getv (x := nI (now)) rfl rfl rfl rfl (hn) ?_
  refine pw_if2p (cn_ne (by omega) (by omega)) rfl (t := 142) rfl (fun q => absurd q (fun q => q rfl)) (fun _ => ?_)
  refine pw_aload_n rfl rfl ?_
  refine px_getr (r := some (125)) rfl rfl rfl rfl rfl ?_
  refine pw_iload rfl rfl ?_
  refine px_ialdn (x := G (125) (6 * (2 * p) + kk)) rfl rfl (by omega) (by decide) (rfl) ?_
  refine pw_istore (ls1 := [some (.inr (some (103))), some (.inl (nI (2 * p))), some (.inl (nI (n))), some (.inl (nI (kk))), some (.inl (nI (t))), some (.inl (nI (6 * (2 * p) + kk))), some (.inl (G (125) (6 * (2 * p) + kk))), o7, o8, o9, o10]) rfl (Nat.le_of_ble_eq_true rfl) rfl ?_
  refine pw_aload_n rfl rfl ?_
  refine px_getr (r := some (126)) rfl rfl rfl rfl rfl ?_
  refine pw_iload rfl rfl ?_
  refine px_ialdn (x := G (126) (6 * (2 * p) + kk)) rfl rfl (by omega) (by decide) (rfl) ?_
  refine pw_istore (ls1 := [some (.inr (some (103))), some (.inl (nI (2 * p))), some (.inl (nI (n))), some (.inl (nI (kk))), some (.inl (nI (t))), some (.inl (nI (6 * (2 * p) + kk))), some (.inl (G (125) (6 * (2 * p) + kk))), some (.inl (G (126) (6 * (2 * p) + kk))), o8, o9, o10]) rfl (Nat.le_of_ble_eq_true rfl) rfl ?_
  refine pw_aload_n rfl rfl ?_
  refine px_getr (r := some (127)) rfl rfl rfl rfl rfl ?_
  refine pw_iload rfl rfl ?_
  refine px_ialdn (x := G (127) (6 * (2 * p) + kk)) rfl rfl (by omega) (by decide) (rfl) ?_
  refine pw_istore (ls1 := [some (.inr (some (103))), some (.inl (nI (2 * p))), some (.inl (nI (n))), some (.inl (nI (kk))), some (.inl (nI (t))), some (.inl (nI (6 * (2 * p) + kk))), some (.inl (G (125) (6 * (2 * p) + kk))), some (.inl (G (126) (6 * (2 * p) + kk))), some (.inl (G (127) (6 * (2 * p) + kk))), o9, o10]) rfl (Nat.le_of_ble_eq_true rfl) rfl ?_
  refine pw_aload_n rfl rfl ?_
  refine px_getr (r := some (128)) rfl rfl rfl rfl rfl ?_
  refine pw_iload rfl rfl ?_
  refine px_ialdn (x := G (128) (6 * (2 * p) + kk)) rfl rfl (by omega) (by decide) (rfl) ?_
  refine pw_istore (ls1 := [some (.inr (some (103))), some (.inl (nI (2 * p))), some (.inl (nI (n))), some (.inl (nI (kk))), some (.inl (nI (t))), some (.inl (nI (6 * (2 * p) + kk))), some (.inl (G (125) (6 * (2 * p) + kk))), some (.inl (G (126) (6 * (2 * p) + kk))), some (.inl (G (127) (6 * (2 * p) + kk))), some (.inl (G (128) (6 * (2 * p) + kk))), o10]) rfl (Nat.le_of_ble_eq_true rfl) rfl ?_
  refine pw_aload_n rfl rfl ?_
  refine px_getr (r := some (129)) rfl rfl rfl rfl rfl ?_
  refine pw_iload rfl rfl ?_
  refine px_ialdn (x := G (129) (6 * (2 * p) + kk)) rfl rfl (by omega) (by decide) (rfl) ?_
  refine pw_istore (ls1 := [some (.inr (some (103))), some (.inl (nI (2 * p))), some (.inl (nI (n))), some (.inl (nI (kk))), some (.inl (nI (t))), some (.inl (nI (6 * (2 * p) + kk))), some (.inl (G (125) (6 * (2 * p) + kk))), some (.inl (G (126) (6 * (2 * p) + kk))), some (.inl (G (127) (6 * (2 * p) + kk))), some (.inl (G (128) (6 * (2 * p) + kk))), some (.inl (G (129) (6 * (2 * p) + kk)))]) rfl (Nat.le_of_ble_eq_true rfl) rfl ?_
  refine pw_aload_n rfl rfl ?_
  refine pw_iload_n rfl rfl ?_
  refine pw_iload_n rfl rfl ?_
  refine px_callv (as := [.inr (some (103)), .inl (nI (2 * p)), .inl (nI (kk))]) (rest := []) rfl rfl (by decide) rfl (Nat.le_of_ble_eq_true rfl) (Nat.le_of_ble_eq_true rfl) (Nat.le_of_ble_eq_true rfl) (Nat.le_of_ble_eq_true rfl) rfl rfl rfl rfl ?_
  refine t_drop (by omega) hfl hf hk ?_
  show pw pP mSBModel_deliver (97, [some (.inr (some (103))), some (.inl (nI (2 * p))), some (.inl (nI (n))), some (.inl (nI (kk))), some (.inl (nI (t))), some (.inl (nI (6 * (2 * p) + kk))), some (.inl (G (125) (6 * (2 * p) + kk))), some (.inl (G (126) (6 * (2 * p) + kk))), some (.inl (G (127) (6 * (2 * p) + kk))), some (.inl (G (128) (6 * (2 * p) + kk))), some (.inl (G (129) (6 * (2 * p) + kk)))], [], 0, 0, hb (sL L) F (tdrop G (2 * p) fl kk) R sO) _
  refine pw_iinc (v := nI (n + 1)) (ls1 := [some (.inr (some (103))), some (.inl (nI (2 * p))), some (.inl (nI (n + 1))), some (.inl (nI (kk))), some (.inl (nI (t))), some (.inl (nI (6 * (2 * p) + kk))), some (.inl (G (125) (6 * (2 * p) + kk))), some (.inl (G (126) (6 * (2 * p) + kk))), some (.inl (G (127) (6 * (2 * p) + kk))), some (.inl (G (128) (6 * (2 * p) + kk))), some (.inl (G (129) (6 * (2 * p) + kk)))]) rfl rfl (iinc_n _) rfl ?_
  refine pw_iload_n rfl rfl ?_
  refine pw_iconst (v := nI (2)) rfl (by decide) ?_
  refine pw_irem (z := nI (0)) rfl (nI_ne0 (by omega) (by omega)) ((pk_rem (by omega) (by omega) (by omega)).trans (congrArg nI (by omega))) ?_
  refine pw_if1 (t := 124) rfl rfl (fun q => absurd q (by decide)) (fun _ => ?_)
  refine pw_aload_n rfl rfl ?_
  refine pw_iload_n rfl rfl ?_
  refine pw_iconst (v := nI (2)) rfl (by decide) ?_
  refine pw_idiv (z := nI (p)) rfl (nI_ne0 (by omega) (by omega)) ((pk_div (by omega) (by omega) (by omega)).trans (congrArg nI (by omega))) ?_
  refine pw_iload rfl rfl ?_
  refine pw_iload rfl rfl ?_
  refine pw_iload rfl rfl ?_
  refine pw_iload rfl rfl ?_
  refine px_callv (as := [.inr (some (103)), .inl (nI (p)), .inl (G (125) (6 * (2 * p) + kk)), .inl (G (126) (6 * (2 * p) + kk)), .inl (G (127) (6 * (2 * p) + kk)), .inl (G (129) (6 * (2 * p) + kk))]) (rest := []) rfl rfl (by decide) rfl (Nat.le_of_ble_eq_true rfl) (Nat.le_of_ble_eq_true rfl) (Nat.le_of_ble_eq_true rfl) (Nat.le_of_ble_eq_true rfl) rfl rfl rfl rfl ?_
  exact kont
theorem td0_next {L p n kk t : Nat} {o5 o6 o7 o8 o9 o10 : Option PV} {F G : FN} {R : RN} {Q : Option PV → PH → Prop} (k : pw pP mSBModel_deliver (7, [some (.inr (some (103))), some (.inl (nI (2 * p))), some (.inl (nI (n))), some (.inl (nI (kk))), some (.inl (nI (t + 1))), o5, o6, o7, o8, o9, o10], [], 0, 0, hb (sL L) F G R sO) Q) : pw pP mSBModel_deliver (121, [some (.inr (some (103))), some (.inl (nI (2 * p))), some (.inl (nI (n))), some (.inl (nI (kk))), some (.inl (nI (t))), o5, o6, o7, o8, o9, o10], [], 0, 0, hb (sL L) F G R sO) Q := by
  refine pw_goto (t := 139) rfl rfl ?_
  refine pw_goto (t := 145) rfl rfl ?_
  refine pw_iinc (v := nI (t + 1)) (ls1 := [some (.inr (some (103))), some (.inl (nI (2 * p))), some (.inl (nI (n))), some (.inl (nI (kk))), some (.inl (nI (t + 1))), o5, o6, o7, o8, o9, o10]) rfl rfl (iinc_n _) rfl ?_
  refine pw_goto (t := 7) rfl rfl ?_
  exact k
theorem td0_0 {L p : Nat} {F G : FN} {R : RN} {Q : Option PV → PH → Prop} (k : pw pP mSBModel_deliver (7, [some (.inr (some (103))), some (.inl (nI (2 * p))), some (.inl (nI (0))), some (.inl (nI (0))), some (.inl (nI (0))), none, none, none, none, none, none], [], 0, 0, hb (sL L) F G R sO) Q) : pz pP mSBModel_deliver [.inr (some (103)), .inl (nI (2 * p))] (hb (sL L) F G R sO) Q := by
  show pw pP mSBModel_deliver (0, [some (.inr (some (103))), some (.inl (nI (2 * p))), none, none, none, none, none, none, none, none, none], [], 0, 0, hb (sL L) F G R sO) _
  refine pw_iconst (v := nI (0)) rfl (by decide) ?_
  refine pw_istore_n (ls1 := [some (.inr (some (103))), some (.inl (nI (2 * p))), some (.inl (nI (0))), none, none, none, none, none, none, none, none]) rfl (Nat.le_of_ble_eq_true rfl) rfl ?_
  refine pw_iconst (v := nI (0)) rfl (by decide) ?_
  refine pw_istore_n (ls1 := [some (.inr (some (103))), some (.inl (nI (2 * p))), some (.inl (nI (0))), some (.inl (nI (0))), none, none, none, none, none, none, none]) rfl (Nat.le_of_ble_eq_true rfl) rfl ?_
  refine pw_iconst (v := nI (0)) rfl (by decide) ?_
  refine pw_istore (ls1 := [some (.inr (some (103))), some (.inl (nI (2 * p))), some (.inl (nI (0))), some (.inl (nI (0))), some (.inl (nI (0))), none, none, none, none, none, none]) rfl (Nat.le_of_ble_eq_true rfl) rfl ?_
  exact k
theorem td1_far {L p n kk t fl now : Nat} {o5 o6 o7 o8 o9 o10 : Option PV} {F G : FN} {R : RN} {Q : Option PV → PH → Prop} (hp : p < 4) (hfl : G 124 (2 * p + 1) = nI fl) (hf : fl ≤ 6) (ht : t < 6) (hk2 : kk ≤ 12) (hn : F 103 3 = nI now) (hnw : now < 2 ^ 31) (hk : fl ≤ kk) (k : pw pP mSBModel_deliver (7, [some (.inr (some (103))), some (.inl (nI (2 * p + 1))), some (.inl (nI (n))), some (.inl (nI (kk + 1))), some (.inl (nI (t + 1))), some (.inl (nI (6 * (2 * p + 1) + kk))), o6, o7, o8, o9, o10], [], 0, 0, hb (sL L) F G R sO) Q) : pw pP mSBModel_deliver (7, [some (.inr (some (103))), some (.inl (nI (2 * p + 1))), some (.inl (nI (n))), some (.inl (nI (kk))), some (.inl (nI (t))), o5, o6, o7, o8, o9, o10], [], 0, 0, hb (sL L) F G R sO) Q := by
  refine pw_iload rfl rfl ?_
  refine pw_bipush (v := nI (6)) rfl (by decide) ?_
  refine pw_if2p (cn_ge (by omega) (by omega)) rfl (t := 151) rfl (fun q => absurd q (by omega)) (fun _ => ?_)
  refine pw_bipush (v := nI (6)) rfl (by decide) ?_
  refine pw_iload_n rfl rfl ?_
  refine pw_imul (z := nI (6 * (2 * p + 1))) rfl (pk_mul _ _) ?_
  refine pw_iload_n rfl rfl ?_
  refine pw_iadd (z := nI (6 * (2 * p + 1) + kk)) rfl (nI_add _ _) ?_
  refine pw_istore (ls1 := [some (.inr (some (103))), some (.inl (nI (2 * p + 1))), some (.inl (nI (n))), some (.inl (nI (kk))), some (.inl (nI (t))), some (.inl (nI (6 * (2 * p + 1) + kk))), o6, o7, o8, o9, o10]) rfl (Nat.le_of_ble_eq_true rfl) rfl ?_
  refine pw_iload_n rfl rfl ?_
  refine pw_aload_n rfl rfl ?_
  refine px_getr (r := some (124)) rfl rfl rfl rfl rfl ?_
  refine pw_iload_n rfl rfl ?_
  refine px_ialdn (x := nI (fl)) rfl rfl (by omega) (by decide) (hfl) ?_
  refine pw_if2p (cn_ge (by omega) (by omega)) rfl (t := 142) rfl (fun _ => ?_) (fun q => absurd hk q)
  refine pw_iinc (v := nI (kk + 1)) (ls1 := [some (.inr (some (103))), some (.inl (nI (2 * p + 1))), some (.inl (nI (n))), some (.inl (nI (kk + 1))), some (.inl (nI (t))), some (.inl (nI (6 * (2 * p + 1) + kk))), o6, o7, o8, o9, o10]) rfl rfl (iinc_n _) rfl ?_
  refine pw_iinc (v := nI (t + 1)) (ls1 := [some (.inr (some (103))), some (.inl (nI (2 * p + 1))), some (.inl (nI (n))), some (.inl (nI (kk + 1))), some (.inl (nI (t + 1))), some (.inl (nI (6 * (2 * p + 1) + kk))), o6, o7, o8, o9, o10]) rfl rfl (iinc_n _) rfl ?_
  refine pw_goto (t := 7) rfl rfl ?_
  exact k
theorem td1_not {L p n kk t fl now : Nat} {o5 o6 o7 o8 o9 o10 : Option PV} {F G : FN} {R : RN} {Q : Option PV → PH → Prop} (hp : p < 4) (hfl : G 124 (2 * p + 1) = nI fl) (hf : fl ≤ 6) (ht : t < 6) (hk2 : kk ≤ 12) (hn : F 103 3 = nI now) (hnw : now < 2 ^ 31) (hk : kk < fl) (hd : ¬ G 130 (6 * (2 * p + 1) + kk) = nI now) (k : pw pP mSBModel_deliver (7, [some (.inr (some (103))), some (.inl (nI (2 * p + 1))), some (.inl (nI (n))), some (.inl (nI (kk + 1))), some (.inl (nI (t + 1))), some (.inl (nI (6 * (2 * p + 1) + kk))), o6, o7, o8, o9, o10], [], 0, 0, hb (sL L) F G R sO) Q) : pw pP mSBModel_deliver (7, [some (.inr (some (103))), some (.inl (nI (2 * p + 1))), some (.inl (nI (n))), some (.inl (nI (kk))), some (.inl (nI (t))), o5, o6, o7, o8, o9, o10], [], 0, 0, hb (sL L) F G R sO) Q := by
  refine pw_iload rfl rfl ?_
  refine pw_bipush (v := nI (6)) rfl (by decide) ?_
  refine pw_if2p (cn_ge (by omega) (by omega)) rfl (t := 151) rfl (fun q => absurd q (by omega)) (fun _ => ?_)
  refine pw_bipush (v := nI (6)) rfl (by decide) ?_
  refine pw_iload_n rfl rfl ?_
  refine pw_imul (z := nI (6 * (2 * p + 1))) rfl (pk_mul _ _) ?_
  refine pw_iload_n rfl rfl ?_
  refine pw_iadd (z := nI (6 * (2 * p + 1) + kk)) rfl (nI_add _ _) ?_
  refine pw_istore (ls1 := [some (.inr (some (103))), some (.inl (nI (2 * p + 1))), some (.inl (nI (n))), some (.inl (nI (kk))), some (.inl (nI (t))), some (.inl (nI (6 * (2 * p + 1) + kk))), o6, o7, o8, o9, o10]) rfl (Nat.le_of_ble_eq_true rfl) rfl ?_
  refine pw_iload_n rfl rfl ?_
  refine pw_aload_n rfl rfl ?_
  refine px_getr (r := some (124)) rfl rfl rfl rfl rfl ?_
  refine pw_iload_n rfl rfl ?_
  refine px_ialdn (x := nI (fl)) rfl rfl (by omega) (by decide) (hfl) ?_
  refine pw_if2p (cn_ge (by omega) (by omega)) rfl (t := 142) rfl (fun q => absurd q (by omega)) (fun _ => ?_)
  refine pw_aload_n rfl rfl ?_
  refine px_getr (r := some (130)) rfl rfl rfl rfl rfl ?_
  refine pw_iload rfl rfl ?_
  refine px_ialdn (x := G (130) (6 * (2 * p + 1) + kk)) rfl rfl (by omega) (by decide) (rfl) ?_
  refine pw_aload_n rfl rfl ?_
  refine px_getv (x := nI (now)) rfl rfl rfl rfl (hn) ?_
  refine pw_if2p (A := ¬ G (130) (6 * (2 * p + 1) + kk) = nI (now)) rfl rfl (t := 142) rfl (fun _ => ?_) (fun q => absurd hd q)
  refine pw_iinc (v := nI (kk + 1)) (ls1 := [some (.inr (some (103))), some (.inl (nI (2 * p + 1))), some (.inl (nI (n))), some (.inl (nI (kk + 1))), some (.inl (nI (t))), some (.inl (nI (6 * (2 * p + 1) + kk))), o6, o7, o8, o9, o10]) rfl rfl (iinc_n _) rfl ?_
  refine pw_iinc (v := nI (t + 1)) (ls1 := [some (.inr (some (103))), some (.inl (nI (2 * p + 1))), some (.inl (nI (n))), some (.inl (nI (kk + 1))), some (.inl (nI (t + 1))), some (.inl (nI (6 * (2 * p + 1) + kk))), o6, o7, o8, o9, o10]) rfl rfl (iinc_n _) rfl ?_
  refine pw_goto (t := 7) rfl rfl ?_
  exact k
theorem td1_take {L p n kk t fl now : Nat} {o5 o6 o7 o8 o9 o10 : Option PV} {F G : FN} {R : RN} {Q : Option PV → PH → Prop} (hp : p < 4) (hfl : G 124 (2 * p + 1) = nI fl) (hf : fl ≤ 6) (ht : t < 6) (hk2 : kk ≤ 12) (hn : F 103 3 = nI now) (hnw : now < 2 ^ 31) (hk : kk < fl) (hd : G 130 (6 * (2 * p + 1) + kk) = nI now) (kont : pz pP mSBModel_atA [.inr (some (103)), .inl (nI (p)), .inl (G (125) (6 * (2 * p + 1) + kk)), .inl (G (126) (6 * (2 * p + 1) + kk)), .inl (G (127) (6 * (2 * p + 1) + kk)), .inl (G (128) (6 * (2 * p + 1) + kk))] (hb (sL L) F (tdrop G (2 * p + 1) fl kk) R sO) (fun r h1 => pw pP mSBModel_deliver (139, [some (.inr (some (103))), some (.inl (nI (2 * p + 1))), some (.inl (nI (n + 1))), some (.inl (nI (kk))), some (.inl (nI (t))), some (.inl (nI (6 * (2 * p + 1) + kk))), some (.inl (G (125) (6 * (2 * p + 1) + kk))), some (.inl (G (126) (6 * (2 * p + 1) + kk))), some (.inl (G (127) (6 * (2 * p + 1) + kk))), some (.inl (G (128) (6 * (2 * p + 1) + kk))), some (.inl (G (129) (6 * (2 * p + 1) + kk)))], r.toList ++ [], 0, 0, h1) Q)) : pw pP mSBModel_deliver (7, [some (.inr (some (103))), some (.inl (nI (2 * p + 1))), some (.inl (nI (n))), some (.inl (nI (kk))), some (.inl (nI (t))), o5, o6, o7, o8, o9, o10], [], 0, 0, hb (sL L) F G R sO) Q := by
  refine pw_iload rfl rfl ?_
  refine pw_bipush (v := nI (6)) rfl (by decide) ?_
  refine pw_if2p (cn_ge (by omega) (by omega)) rfl (t := 151) rfl (fun q => absurd q (by omega)) (fun _ => ?_)
  refine pw_bipush (v := nI (6)) rfl (by decide) ?_
  refine pw_iload_n rfl rfl ?_
  refine pw_imul (z := nI (6 * (2 * p + 1))) rfl (pk_mul _ _) ?_
  refine pw_iload_n rfl rfl ?_
  refine pw_iadd (z := nI (6 * (2 * p + 1) + kk)) rfl (nI_add _ _) ?_
  refine pw_istore (ls1 := [some (.inr (some (103))), some (.inl (nI (2 * p + 1))), some (.inl (nI (n))), some (.inl (nI (kk))), some (.inl (nI (t))), some (.inl (nI (6 * (2 * p + 1) + kk))), o6, o7, o8, o9, o10]) rfl (Nat.le_of_ble_eq_true rfl) rfl ?_
  refine pw_iload_n rfl rfl ?_
  refine pw_aload_n rfl rfl ?_
  refine px_getr (r := some (124)) rfl rfl rfl rfl rfl ?_
  refine pw_iload_n rfl rfl ?_
  refine px_ialdn (x := nI (fl)) rfl rfl (by omega) (by decide) (hfl) ?_
  refine pw_if2p (cn_ge (by omega) (by omega)) rfl (t := 142) rfl (fun q => absurd q (by omega)) (fun _ => ?_)
  refine pw_aload_n rfl rfl ?_
  refine px_getr (r := some (130)) rfl rfl rfl rfl rfl ?_
  refine pw_iload rfl rfl ?_
  refine px_ialdn (x := nI (now)) rfl rfl (by omega) (by decide) (hd) ?_
  refine pw_aload_n rfl rfl ?_
  refine px_getv (x := nI (now)) rfl rfl rfl rfl (hn) ?_
  refine pw_if2p (cn_ne (by omega) (by omega)) rfl (t := 142) rfl (fun q => absurd q (fun q => q rfl)) (fun _ => ?_)
  refine pw_aload_n rfl rfl ?_
  refine px_getr (r := some (125)) rfl rfl rfl rfl rfl ?_
  refine pw_iload rfl rfl ?_
  refine px_ialdn (x := G (125) (6 * (2 * p + 1) + kk)) rfl rfl (by omega) (by decide) (rfl) ?_
  refine pw_istore (ls1 := [some (.inr (some (103))), some (.inl (nI (2 * p + 1))), some (.inl (nI (n))), some (.inl (nI (kk))), some (.inl (nI (t))), some (.inl (nI (6 * (2 * p + 1) + kk))), some (.inl (G (125) (6 * (2 * p + 1) + kk))), o7, o8, o9, o10]) rfl (Nat.le_of_ble_eq_true rfl) rfl ?_
  refine pw_aload_n rfl rfl ?_
  refine px_getr (r := some (126)) rfl rfl rfl rfl rfl ?_
  refine pw_iload rfl rfl ?_
  refine px_ialdn (x := G (126) (6 * (2 * p + 1) + kk)) rfl rfl (by omega) (by decide) (rfl) ?_
  refine pw_istore (ls1 := [some (.inr (some (103))), some (.inl (nI (2 * p + 1))), some (.inl (nI (n))), some (.inl (nI (kk))), some (.inl (nI (t))), some (.inl (nI (6 * (2 * p + 1) + kk))), some (.inl (G (125) (6 * (2 * p + 1) + kk))), some (.inl (G (126) (6 * (2 * p + 1) + kk))), o8, o9, o10]) rfl (Nat.le_of_ble_eq_true rfl) rfl ?_
  refine pw_aload_n rfl rfl ?_
  refine px_getr (r := some (127)) rfl rfl rfl rfl rfl ?_
  refine pw_iload rfl rfl ?_
  refine px_ialdn (x := G (127) (6 * (2 * p + 1) + kk)) rfl rfl (by omega) (by decide) (rfl) ?_
  refine pw_istore (ls1 := [some (.inr (some (103))), some (.inl (nI (2 * p + 1))), some (.inl (nI (n))), some (.inl (nI (kk))), some (.inl (nI (t))), some (.inl (nI (6 * (2 * p + 1) + kk))), some (.inl (G (125) (6 * (2 * p + 1) + kk))), some (.inl (G (126) (6 * (2 * p + 1) + kk))), some (.inl (G (127) (6 * (2 * p + 1) + kk))), o9, o10]) rfl (Nat.le_of_ble_eq_true rfl) rfl ?_
  refine pw_aload_n rfl rfl ?_
  refine px_getr (r := some (128)) rfl rfl rfl rfl rfl ?_
  refine pw_iload rfl rfl ?_
  refine px_ialdn (x := G (128) (6 * (2 * p + 1) + kk)) rfl rfl (by omega) (by decide) (rfl) ?_
  refine pw_istore (ls1 := [some (.inr (some (103))), some (.inl (nI (2 * p + 1))), some (.inl (nI (n))), some (.inl (nI (kk))), some (.inl (nI (t))), some (.inl (nI (6 * (2 * p + 1) + kk))), some (.inl (G (125) (6 * (2 * p + 1) + kk))), some (.inl (G (126) (6 * (2 * p + 1) + kk))), some (.inl (G (127) (6 * (2 * p + 1) + kk))), some (.inl (G (128) (6 * (2 * p + 1) + kk))), o10]) rfl (Nat.le_of_ble_eq_true rfl) rfl ?_
  refine pw_aload_n rfl rfl ?_
  refine px_getr (r := some (129)) rfl rfl rfl rfl rfl ?_
  refine pw_iload rfl rfl ?_
  refine px_ialdn (x := G (129) (6 * (2 * p + 1) + kk)) rfl rfl (by omega) (by decide) (rfl) ?_
  refine pw_istore (ls1 := [some (.inr (some (103))), some (.inl (nI (2 * p + 1))), some (.inl (nI (n))), some (.inl (nI (kk))), some (.inl (nI (t))), some (.inl (nI (6 * (2 * p + 1) + kk))), some (.inl (G (125) (6 * (2 * p + 1) + kk))), some (.inl (G (126) (6 * (2 * p + 1) + kk))), some (.inl (G (127) (6 * (2 * p + 1) + kk))), some (.inl (G (128) (6 * (2 * p + 1) + kk))), some (.inl (G (129) (6 * (2 * p + 1) + kk)))]) rfl (Nat.le_of_ble_eq_true rfl) rfl ?_
  refine pw_aload_n rfl rfl ?_
  refine pw_iload_n rfl rfl ?_
  refine pw_iload_n rfl rfl ?_
  refine px_callv (as := [.inr (some (103)), .inl (nI (2 * p + 1)), .inl (nI (kk))]) (rest := []) rfl rfl (by decide) rfl (Nat.le_of_ble_eq_true rfl) (Nat.le_of_ble_eq_true rfl) (Nat.le_of_ble_eq_true rfl) (Nat.le_of_ble_eq_true rfl) rfl rfl rfl rfl ?_
  refine t_drop (by omega) hfl hf hk ?_
  show pw pP mSBModel_deliver (97, [some (.inr (some (103))), some (.inl (nI (2 * p + 1))), some (.inl (nI (n))), some (.inl (nI (kk))), some (.inl (nI (t))), some (.inl (nI (6 * (2 * p + 1) + kk))), some (.inl (G (125) (6 * (2 * p + 1) + kk))), some (.inl (G (126) (6 * (2 * p + 1) + kk))), some (.inl (G (127) (6 * (2 * p + 1) + kk))), some (.inl (G (128) (6 * (2 * p + 1) + kk))), some (.inl (G (129) (6 * (2 * p + 1) + kk)))], [], 0, 0, hb (sL L) F (tdrop G (2 * p + 1) fl kk) R sO) _
  refine pw_iinc (v := nI (n + 1)) (ls1 := [some (.inr (some (103))), some (.inl (nI (2 * p + 1))), some (.inl (nI (n + 1))), some (.inl (nI (kk))), some (.inl (nI (t))), some (.inl (nI (6 * (2 * p + 1) + kk))), some (.inl (G (125) (6 * (2 * p + 1) + kk))), some (.inl (G (126) (6 * (2 * p + 1) + kk))), some (.inl (G (127) (6 * (2 * p + 1) + kk))), some (.inl (G (128) (6 * (2 * p + 1) + kk))), some (.inl (G (129) (6 * (2 * p + 1) + kk)))]) rfl rfl (iinc_n _) rfl ?_
  refine pw_iload_n rfl rfl ?_
  refine pw_iconst (v := nI (2)) rfl (by decide) ?_
  refine pw_irem (z := nI (1)) rfl (nI_ne0 (by omega) (by omega)) ((pk_rem (by omega) (by omega) (by omega)).trans (congrArg nI (by omega))) ?_
  refine pw_if1 (t := 124) rfl rfl (fun _ => ?_) (fun q => absurd q (by decide))
  refine pw_aload_n rfl rfl ?_
  refine pw_iload_n rfl rfl ?_
  refine pw_iconst (v := nI (2)) rfl (by decide) ?_
  refine pw_idiv (z := nI (p)) rfl (nI_ne0 (by omega) (by omega)) ((pk_div (by omega) (by omega) (by omega)).trans (congrArg nI (by omega))) ?_
  refine pw_iload rfl rfl ?_
  refine pw_iload rfl rfl ?_
  refine pw_iload rfl rfl ?_
  refine pw_iload rfl rfl ?_
  refine px_callv (as := [.inr (some (103)), .inl (nI (p)), .inl (G (125) (6 * (2 * p + 1) + kk)), .inl (G (126) (6 * (2 * p + 1) + kk)), .inl (G (127) (6 * (2 * p + 1) + kk)), .inl (G (128) (6 * (2 * p + 1) + kk))]) (rest := []) rfl rfl (by decide) rfl (Nat.le_of_ble_eq_true rfl) (Nat.le_of_ble_eq_true rfl) (Nat.le_of_ble_eq_true rfl) (Nat.le_of_ble_eq_true rfl) rfl rfl rfl rfl ?_
  exact kont
theorem td1_next {L p n kk t : Nat} {o5 o6 o7 o8 o9 o10 : Option PV} {F G : FN} {R : RN} {Q : Option PV → PH → Prop} (k : pw pP mSBModel_deliver (7, [some (.inr (some (103))), some (.inl (nI (2 * p + 1))), some (.inl (nI (n))), some (.inl (nI (kk))), some (.inl (nI (t + 1))), o5, o6, o7, o8, o9, o10], [], 0, 0, hb (sL L) F G R sO) Q) : pw pP mSBModel_deliver (139, [some (.inr (some (103))), some (.inl (nI (2 * p + 1))), some (.inl (nI (n))), some (.inl (nI (kk))), some (.inl (nI (t))), o5, o6, o7, o8, o9, o10], [], 0, 0, hb (sL L) F G R sO) Q := by
  refine pw_goto (t := 145) rfl rfl ?_
  refine pw_iinc (v := nI (t + 1)) (ls1 := [some (.inr (some (103))), some (.inl (nI (2 * p + 1))), some (.inl (nI (n))), some (.inl (nI (kk))), some (.inl (nI (t + 1))), o5, o6, o7, o8, o9, o10]) rfl rfl (iinc_n _) rfl ?_
  refine pw_goto (t := 7) rfl rfl ?_
  exact k
theorem td1_0 {L p : Nat} {F G : FN} {R : RN} {Q : Option PV → PH → Prop} (k : pw pP mSBModel_deliver (7, [some (.inr (some (103))), some (.inl (nI (2 * p + 1))), some (.inl (nI (0))), some (.inl (nI (0))), some (.inl (nI (0))), none, none, none, none, none, none], [], 0, 0, hb (sL L) F G R sO) Q) : pz pP mSBModel_deliver [.inr (some (103)), .inl (nI (2 * p + 1))] (hb (sL L) F G R sO) Q := by
  show pw pP mSBModel_deliver (0, [some (.inr (some (103))), some (.inl (nI (2 * p + 1))), none, none, none, none, none, none, none, none, none], [], 0, 0, hb (sL L) F G R sO) _
  refine pw_iconst (v := nI (0)) rfl (by decide) ?_
  refine pw_istore_n (ls1 := [some (.inr (some (103))), some (.inl (nI (2 * p + 1))), some (.inl (nI (0))), none, none, none, none, none, none, none, none]) rfl (Nat.le_of_ble_eq_true rfl) rfl ?_
  refine pw_iconst (v := nI (0)) rfl (by decide) ?_
  refine pw_istore_n (ls1 := [some (.inr (some (103))), some (.inl (nI (2 * p + 1))), some (.inl (nI (0))), some (.inl (nI (0))), none, none, none, none, none, none, none]) rfl (Nat.le_of_ble_eq_true rfl) rfl ?_
  refine pw_iconst (v := nI (0)) rfl (by decide) ?_
  refine pw_istore (ls1 := [some (.inr (some (103))), some (.inl (nI (2 * p + 1))), some (.inl (nI (0))), some (.inl (nI (0))), some (.inl (nI (0))), none, none, none, none, none, none]) rfl (Nat.le_of_ble_eq_true rfl) rfl ?_
  exact k
theorem ct_0 {L now : Nat} {F G : FN} {R : RN} {Q : Option PV → PH → Prop} (hn : F 1 5 = nI now) (k : pw pP mSB_tick (14, [some (.inr (some (1))), some (.inl (nI (0))), some (.inl (nI (0)))], [], 0, 0, hb (sL L) (up2 F (1) (5) (nI (now + 1))) G R sO) Q) : pz pP mSB_tick [.inr (some (1))] (hb (sL L) F G R sO) Q := by
  show pw pP mSB_tick (0, [some (.inr (some (1))), none, none], [], 0, 0, hb (sL L) F G R sO) _
  refine pw_aload_n rfl rfl ?_
  refine pw_dup rfl ?_
  refine px_getv (x := nI (now)) rfl rfl rfl rfl (hn) ?_
  refine pw_iconst (v := nI (1)) rfl (by decide) ?_
  refine pw_iadd (z := nI (now + 1)) rfl (nI_add _ _) ?_
  refine px_put rfl rfl rfl rfl rfl ?_
  refine pw_iconst (v := nI (0)) rfl (by decide) ?_
  refine pw_istore_n (ls1 := [some (.inr (some (1))), some (.inl (nI (0))), none]) rfl (Nat.le_of_ble_eq_true rfl) rfl ?_
  refine pw_iconst (v := nI (0)) rfl (by decide) ?_
  refine pw_istore_n (ls1 := [some (.inr (some (1))), some (.inl (nI (0))), some (.inl (nI (0)))]) rfl (Nat.le_of_ble_eq_true rfl) rfl ?_
  exact k
theorem ct_f {L p ar : Nat} {F G : FN} {R : RN} {Q : Option PV → PH → Prop} (hp : p < 4) (kont : pz pP mSB_deliverForward [.inr (some (1)), .inl (nI (p))] (hb (sL L) F G R sO) (fun r h1 => pw pP mSB_tick (25, [some (.inr (some (1))), some (.inl (nI (ar))), some (.inl (nI (p)))], r.toList ++ [.inl (nI (ar))], 0, 0, h1) Q)) : pw pP mSB_tick (14, [some (.inr (some (1))), some (.inl (nI (ar))), some (.inl (nI (p)))], [], 0, 0, hb (sL L) F G R sO) Q := by
  refine pw_iload_n rfl rfl ?_
  refine pw_iconst (v := nI (4)) rfl (by decide) ?_
  refine pw_if2p (cn_ge (by omega) (by omega)) rfl (t := 41) rfl (fun q => absurd q (by omega)) (fun _ => ?_)
  refine pw_iload_n rfl rfl ?_
  refine pw_aload_n rfl rfl ?_
  refine pw_iload_n rfl rfl ?_
  refine px_callv (as := [.inr (some (1)), .inl (nI (p))]) (rest := [.inl (nI (ar))]) rfl rfl (by decide) rfl (Nat.le_of_ble_eq_true rfl) (Nat.le_of_ble_eq_true rfl) (Nat.le_of_ble_eq_true rfl) (Nat.le_of_ble_eq_true rfl) rfl rfl rfl rfl ?_
  exact kont
theorem ct_b {L p ar a : Nat} {F G : FN} {R : RN} {Q : Option PV → PH → Prop} (kont : pz pP mSB_deliverBack [.inr (some (1)), .inl (nI (p))] (hb (sL L) F G R sO) (fun r h1 => pw pP mSB_tick (33, [some (.inr (some (1))), some (.inl (nI (ar + a))), some (.inl (nI (p)))], r.toList ++ [.inl (nI (ar + a))], 0, 0, h1) Q)) : pw pP mSB_tick (25, [some (.inr (some (1))), some (.inl (nI (ar))), some (.inl (nI (p)))], [.inl (nI (a)), .inl (nI (ar))], 0, 0, hb (sL L) F G R sO) Q := by
  refine pw_iadd (z := nI (ar + a)) rfl (nI_add _ _) ?_
  refine pw_istore_n (ls1 := [some (.inr (some (1))), some (.inl (nI (ar + a))), some (.inl (nI (p)))]) rfl (Nat.le_of_ble_eq_true rfl) rfl ?_
  refine pw_iload_n rfl rfl ?_
  refine pw_aload_n rfl rfl ?_
  refine pw_iload_n rfl rfl ?_
  refine px_callv (as := [.inr (some (1)), .inl (nI (p))]) (rest := [.inl (nI (ar + a))]) rfl rfl (by decide) rfl (Nat.le_of_ble_eq_true rfl) (Nat.le_of_ble_eq_true rfl) (Nat.le_of_ble_eq_true rfl) (Nat.le_of_ble_eq_true rfl) rfl rfl rfl rfl ?_
  exact kont
theorem ct_n {L p ar a : Nat} {F G : FN} {R : RN} {Q : Option PV → PH → Prop} (k : pw pP mSB_tick (14, [some (.inr (some (1))), some (.inl (nI (ar + a))), some (.inl (nI (p + 1)))], [], 0, 0, hb (sL L) F G R sO) Q) : pw pP mSB_tick (33, [some (.inr (some (1))), some (.inl (nI (ar))), some (.inl (nI (p)))], [.inl (nI (a)), .inl (nI (ar))], 0, 0, hb (sL L) F G R sO) Q := by
  refine pw_iadd (z := nI (ar + a)) rfl (nI_add _ _) ?_
  refine pw_istore_n (ls1 := [some (.inr (some (1))), some (.inl (nI (ar + a))), some (.inl (nI (p)))]) rfl (Nat.le_of_ble_eq_true rfl) rfl ?_
  refine pw_iinc (v := nI (p + 1)) (ls1 := [some (.inr (some (1))), some (.inl (nI (ar + a))), some (.inl (nI (p + 1)))]) rfl rfl (iinc_n _) rfl ?_
  refine pw_goto (t := 14) rfl rfl ?_
  exact k
theorem ct_4 {L ar : Nat} {F G : FN} {R : RN} {Q : Option PV → PH → Prop} (k : pw pP mSB_tick (43, [some (.inr (some (1))), some (.inl (nI (ar))), some (.inl (nI (0)))], [], 0, 0, hb (sL L) F G R sO) Q) : pw pP mSB_tick (14, [some (.inr (some (1))), some (.inl (nI (ar))), some (.inl (nI (4)))], [], 0, 0, hb (sL L) F G R sO) Q := by
  refine pw_iload_n rfl rfl ?_
  refine pw_iconst (v := nI (4)) rfl (by decide) ?_
  refine pw_if2 (t := 41) rfl rfl (fun _ => ?_) (fun q => absurd q (by decide))
  refine pw_iconst (v := nI (0)) rfl (by decide) ?_
  refine pw_istore_n (ls1 := [some (.inr (some (1))), some (.inl (nI (ar))), some (.inl (nI (0)))]) rfl (Nat.le_of_ble_eq_true rfl) rfl ?_
  exact k
theorem ct_rn {L p ar now : Nat} {F G : FN} {R : RN} {Q : Option PV → PH → Prop} (hp : p < 4) (hR4 : R 4 p = some (5 + 21 * p)) (hP : pathok L (5 + 21 * p) R) (hn : F 1 5 = nI now) (hnw : now < 2 ^ 31) (ht : ¬ F (5 + 21 * p) 9 = nI now) (k : pw pP mSB_tick (43, [some (.inr (some (1))), some (.inl (nI (ar))), some (.inl (nI (p + 1)))], [], 0, 0, hb (sL L) F G R sO) Q) : pw pP mSB_tick (43, [some (.inr (some (1))), some (.inl (nI (ar))), some (.inl (nI (p)))], [], 0, 0, hb (sL L) F G R sO) Q := by
  refine pw_iload_n rfl rfl ?_
  refine pw_iconst (v := nI (4)) rfl (by decide) ?_
  refine pw_if2p (cn_ge (by omega) (by omega)) rfl (t := 87) rfl (fun q => absurd q (by omega)) (fun _ => ?_)
  refine pw_aload_n rfl rfl ?_
  refine px_getr (r := some (4)) rfl rfl rfl rfl rfl ?_
  refine pw_iload_n rfl rfl ?_
  refine px_aaldn (r := (some (5 + 21 * p))) rfl rfl rfl (by omega) (by decide) (hR4) ?_
  refine px_getv (x := F (5 + 21 * p) (9)) rfl rfl hP.1 rfl (rfl) ?_
  refine pw_aload_n rfl rfl ?_
  refine px_getv (x := nI (now)) rfl rfl rfl rfl (hn) ?_
  refine pw_if2p (A := ¬ F (5 + 21 * p) (9) = nI (now)) rfl rfl (t := 81) rfl (fun _ => ?_) (fun q => absurd ht q)
  refine pw_iinc (v := nI (p + 1)) (ls1 := [some (.inr (some (1))), some (.inl (nI (ar))), some (.inl (nI (p + 1)))]) rfl rfl (iinc_n _) rfl ?_
  refine pw_goto (t := 43) rfl rfl ?_
  exact k
theorem ct_ry {L p ar now : Nat} {F G : FN} {R : RN} {Q : Option PV → PH → Prop} (hp : p < 4) (hR4 : R 4 p = some (5 + 21 * p)) (hP : pathok L (5 + 21 * p) R) (hn : F 1 5 = nI now) (hnw : now < 2 ^ 31) (ht : F (5 + 21 * p) 9 = nI now) (kont : pz pP mHostA_ring [.inr (some (89)), .inr (some (5 + 21 * p)), .inl (nI (now))] (hb (sL L) F G R sO) (fun r h1 => pw pP mSB_tick (81, [some (.inr (some (1))), some (.inl (nI (ar))), some (.inl (nI (p)))], r.toList ++ [], 0, 0, h1) Q)) : pw pP mSB_tick (43, [some (.inr (some (1))), some (.inl (nI (ar))), some (.inl (nI (p)))], [], 0, 0, hb (sL L) F G R sO) Q := by
  refine pw_iload_n rfl rfl ?_
  refine pw_iconst (v := nI (4)) rfl (by decide) ?_
  refine pw_if2p (cn_ge (by omega) (by omega)) rfl (t := 87) rfl (fun q => absurd q (by omega)) (fun _ => ?_)
  refine pw_aload_n rfl rfl ?_
  refine px_getr (r := some (4)) rfl rfl rfl rfl rfl ?_
  refine pw_iload_n rfl rfl ?_
  refine px_aaldn (r := (some (5 + 21 * p))) rfl rfl rfl (by omega) (by decide) (hR4) ?_
  refine px_getv (x := nI (now)) rfl rfl hP.1 rfl (ht) ?_
  refine pw_aload_n rfl rfl ?_
  refine px_getv (x := nI (now)) rfl rfl rfl rfl (hn) ?_
  refine pw_if2p (cn_ne (by omega) (by omega)) rfl (t := 81) rfl (fun q => absurd q (fun q => q rfl)) (fun _ => ?_)
  refine pw_aload_n rfl rfl ?_
  refine px_getr (r := some (89)) rfl rfl rfl rfl rfl ?_
  refine pw_aload_n rfl rfl ?_
  refine px_getr (r := some (4)) rfl rfl rfl rfl rfl ?_
  refine pw_iload_n rfl rfl ?_
  refine px_aaldn (r := (some (5 + 21 * p))) rfl rfl rfl (by omega) (by decide) (hR4) ?_
  refine pw_aload_n rfl rfl ?_
  refine px_getv (x := nI (now)) rfl rfl rfl rfl (hn) ?_
  refine px_callv (as := [.inr (some (89)), .inr (some (5 + 21 * p)), .inl (nI (now))]) (rest := []) rfl rfl (by decide) rfl (Nat.le_of_ble_eq_true rfl) (Nat.le_of_ble_eq_true rfl) (Nat.le_of_ble_eq_true rfl) (Nat.le_of_ble_eq_true rfl) rfl rfl rfl rfl ?_
  exact kont
theorem ct_r2 {L p ar : Nat} {F G : FN} {R : RN} {Q : Option PV → PH → Prop} (k : pw pP mSB_tick (43, [some (.inr (some (1))), some (.inl (nI (ar))), some (.inl (nI (p + 1)))], [], 0, 0, hb (sL L) F G R sO) Q) : pw pP mSB_tick (81, [some (.inr (some (1))), some (.inl (nI (ar))), some (.inl (nI (p)))], [], 0, 0, hb (sL L) F G R sO) Q := by
  refine pw_iinc (v := nI (p + 1)) (ls1 := [some (.inr (some (1))), some (.inl (nI (ar))), some (.inl (nI (p + 1)))]) rfl rfl (iinc_n _) rfl ?_
  refine pw_goto (t := 43) rfl rfl ?_
  exact k
theorem ct_s {L ar now : Nat} {F G : FN} {R : RN} {Q : Option PV → PH → Prop} (hn : F 1 5 = nI now) (kont : pz pP mHostA_sendAll [.inr (some (89)), .inl (nI (now))] (hb (sL L) F G R sO) (fun r h1 => pw pP mSB_tick (98, [some (.inr (some (1))), some (.inl (nI (ar))), some (.inl (nI (4)))], r.toList ++ [], 0, 0, h1) Q)) : pw pP mSB_tick (43, [some (.inr (some (1))), some (.inl (nI (ar))), some (.inl (nI (4)))], [], 0, 0, hb (sL L) F G R sO) Q := by
  refine pw_iload_n rfl rfl ?_
  refine pw_iconst (v := nI (4)) rfl (by decide) ?_
  refine pw_if2 (t := 87) rfl rfl (fun _ => ?_) (fun q => absurd q (by decide))
  refine pw_aload_n rfl rfl ?_
  refine px_getr (r := some (89)) rfl rfl rfl rfl rfl ?_
  refine pw_aload_n rfl rfl ?_
  refine px_getv (x := nI (now)) rfl rfl rfl rfl (hn) ?_
  refine px_callv (as := [.inr (some (89)), .inl (nI (now))]) (rest := []) rfl rfl (by decide) rfl (Nat.le_of_ble_eq_true rfl) (Nat.le_of_ble_eq_true rfl) (Nat.le_of_ble_eq_true rfl) (Nat.le_of_ble_eq_true rfl) rfl rfl rfl rfl ?_
  exact kont
theorem ct_e {L p ar : Nat} {F G : FN} {R : RN} {Q : Option PV → PH → Prop} (k : Q (some (.inl (nI (ar)))) (hb (sL L) F G R sO)) : pw pP mSB_tick (98, [some (.inr (some (1))), some (.inl (nI (ar))), some (.inl (nI (p)))], [], 0, 0, hb (sL L) F G R sO) Q := by
  refine pw_iload_n rfl rfl ?_
  exact pw_iret rfl rfl (Nat.zero_le _) (Nat.zero_le _) rfl k
theorem cp_0 {L n : Nat} {F G : FN} {R : RN} {Q : Option PV → PH → Prop} (hn : n ≤ 60) (k : pw pP mSB_pass (16, [some (.inr (some (1))), some (.inl (nI (n))), some (.inl (nI (0))), some (.inl (nI (0)))], [], 0, 0, hb (sL L) F G R sO) Q) : pz pP mSB_pass [.inr (some (1)), .inl (nI (n))] (hb (sL L) F G R sO) Q := by
  show pw pP mSB_pass (0, [some (.inr (some (1))), some (.inl (nI (n))), none, none], [], 0, 0, hb (sL L) F G R sO) _
  refine pw_iload_n rfl rfl ?_
  refine pw_if1p (cz_lt (by omega)) rfl (t := 10) rfl (fun q => absurd q (by omega)) (fun _ => ?_)
  refine pw_iload_n rfl rfl ?_
  refine pw_bipush (v := nI (60)) rfl (by decide) ?_
  refine pw_if2p (cn_le (by omega) (by omega)) rfl (t := 12) rfl (fun _ => ?_) (fun q => absurd hn q)
  refine pw_iconst (v := nI (0)) rfl (by decide) ?_
  refine pw_istore_n (ls1 := [some (.inr (some (1))), some (.inl (nI (n))), some (.inl (nI (0))), none]) rfl (Nat.le_of_ble_eq_true rfl) rfl ?_
  refine pw_iconst (v := nI (0)) rfl (by decide) ?_
  refine pw_istore_n (ls1 := [some (.inr (some (1))), some (.inl (nI (n))), some (.inl (nI (0))), some (.inl (nI (0)))]) rfl (Nat.le_of_ble_eq_true rfl) rfl ?_
  exact k
theorem cp_e {L n ar : Nat} {F G : FN} {R : RN} {Q : Option PV → PH → Prop} (hn : n ≤ 60) (k : Q (some (.inl (nI (ar)))) (hb (sL L) F G R sO)) : pw pP mSB_pass (16, [some (.inr (some (1))), some (.inl (nI (n))), some (.inl (nI (ar))), some (.inl (nI (n)))], [], 0, 0, hb (sL L) F G R sO) Q := by
  refine pw_iload_n rfl rfl ?_
  refine pw_iload_n rfl rfl ?_
  refine pw_if2p (cn_ge (by omega) (by omega)) rfl (t := 34) rfl (fun _ => ?_) (fun q => absurd (Nat.le_refl _) q)
  refine pw_iload_n rfl rfl ?_
  exact pw_iret rfl rfl (Nat.zero_le _) (Nat.zero_le _) rfl k
theorem cp_t {L n ar k : Nat} {F G : FN} {R : RN} {Q : Option PV → PH → Prop} (hn : n ≤ 60) (hk : k < n) (kont : pz pP mSB_tick [.inr (some (1))] (hb (sL L) F G R sO) (fun r h1 => pw pP mSB_pass (26, [some (.inr (some (1))), some (.inl (nI (n))), some (.inl (nI (ar))), some (.inl (nI (k)))], r.toList ++ [.inl (nI (ar))], 0, 0, h1) Q)) : pw pP mSB_pass (16, [some (.inr (some (1))), some (.inl (nI (n))), some (.inl (nI (ar))), some (.inl (nI (k)))], [], 0, 0, hb (sL L) F G R sO) Q := by
  refine pw_iload_n rfl rfl ?_
  refine pw_iload_n rfl rfl ?_
  refine pw_if2p (cn_ge (by omega) (by omega)) rfl (t := 34) rfl (fun q => absurd q (by omega)) (fun _ => ?_)
  refine pw_iload_n rfl rfl ?_
  refine pw_aload_n rfl rfl ?_
  refine px_callv (as := [.inr (some (1))]) (rest := [.inl (nI (ar))]) rfl rfl (by decide) rfl (Nat.le_of_ble_eq_true rfl) (Nat.le_of_ble_eq_true rfl) (Nat.le_of_ble_eq_true rfl) (Nat.le_of_ble_eq_true rfl) rfl rfl rfl rfl ?_
  exact kont
theorem cp_n {L n ar a j : Nat} {F G : FN} {R : RN} {Q : Option PV → PH → Prop} (k : pw pP mSB_pass (16, [some (.inr (some (1))), some (.inl (nI (n))), some (.inl (nI (ar + a))), some (.inl (nI (j + 1)))], [], 0, 0, hb (sL L) F G R sO) Q) : pw pP mSB_pass (26, [some (.inr (some (1))), some (.inl (nI (n))), some (.inl (nI (ar))), some (.inl (nI (j)))], [.inl (nI (a)), .inl (nI (ar))], 0, 0, hb (sL L) F G R sO) Q := by
  refine pw_iadd (z := nI (ar + a)) rfl (nI_add _ _) ?_
  refine pw_istore_n (ls1 := [some (.inr (some (1))), some (.inl (nI (n))), some (.inl (nI (ar + a))), some (.inl (nI (j)))]) rfl (Nat.le_of_ble_eq_true rfl) rfl ?_
  refine pw_iinc (v := nI (j + 1)) (ls1 := [some (.inr (some (1))), some (.inl (nI (n))), some (.inl (nI (ar + a))), some (.inl (nI (j + 1)))]) rfl rfl (iinc_n _) rfl ?_
  refine pw_goto (t := 16) rfl rfl ?_
  exact k
theorem tp_0 {L n : Nat} {F G : FN} {R : RN} {Q : Option PV → PH → Prop} (hn : n ≤ 60) (k : pw pP mSBModel_pass (16, [some (.inr (some (103))), some (.inl (nI (n))), some (.inl (nI (0))), some (.inl (nI (0))), none, none], [], 0, 0, hb (sL L) F G R sO) Q) : pz pP mSBModel_pass [.inr (some (103)), .inl (nI (n))] (hb (sL L) F G R sO) Q := by
  show pw pP mSBModel_pass (0, [some (.inr (some (103))), some (.inl (nI (n))), none, none, none, none], [], 0, 0, hb (sL L) F G R sO) _
  refine pw_iload_n rfl rfl ?_
  refine pw_if1p (cz_lt (by omega)) rfl (t := 10) rfl (fun q => absurd q (by omega)) (fun _ => ?_)
  refine pw_iload_n rfl rfl ?_
  refine pw_bipush (v := nI (60)) rfl (by decide) ?_
  refine pw_if2p (cn_le (by omega) (by omega)) rfl (t := 12) rfl (fun _ => ?_) (fun q => absurd hn q)
  refine pw_iconst (v := nI (0)) rfl (by decide) ?_
  refine pw_istore_n (ls1 := [some (.inr (some (103))), some (.inl (nI (n))), some (.inl (nI (0))), none, none, none]) rfl (Nat.le_of_ble_eq_true rfl) rfl ?_
  refine pw_iconst (v := nI (0)) rfl (by decide) ?_
  refine pw_istore_n (ls1 := [some (.inr (some (103))), some (.inl (nI (n))), some (.inl (nI (0))), some (.inl (nI (0))), none, none]) rfl (Nat.le_of_ble_eq_true rfl) rfl ?_
  exact k
theorem tp_e {L n ar : Nat} {o4 o5 : Option PV} {F G : FN} {R : RN} {Q : Option PV → PH → Prop} (hn : n ≤ 60) (k : Q (some (.inl (nI (ar)))) (hb (sL L) F G R sO)) : pw pP mSBModel_pass (16, [some (.inr (some (103))), some (.inl (nI (n))), some (.inl (nI (ar))), some (.inl (nI (n))), o4, o5], [], 0, 0, hb (sL L) F G R sO) Q := by
  refine pw_iload_n rfl rfl ?_
  refine pw_iload_n rfl rfl ?_
  refine pw_if2p (cn_ge (by omega) (by omega)) rfl (t := 127) rfl (fun _ => ?_) (fun q => absurd (Nat.le_refl _) q)
  refine pw_iload_n rfl rfl ?_
  exact pw_iret rfl rfl (Nat.zero_le _) (Nat.zero_le _) rfl k
theorem tp_t {L m ar j now : Nat} {o4 o5 : Option PV} {F G : FN} {R : RN} {Q : Option PV → PH → Prop} (hm : m ≤ 60) (hj : j < m) (hn : F 103 3 = nI now) (k : pw pP mSBModel_pass (34, [some (.inr (some (103))), some (.inl (nI (m))), some (.inl (nI (ar))), some (.inl (nI (j))), some (.inl (nI (0))), o5], [], 0, 0, hb (sL L) (up2 F (103) (3) (nI (now + 1))) G R sO) Q) : pw pP mSBModel_pass (16, [some (.inr (some (103))), some (.inl (nI (m))), some (.inl (nI (ar))), some (.inl (nI (j))), o4, o5], [], 0, 0, hb (sL L) F G R sO) Q := by
  refine pw_iload_n rfl rfl ?_
  refine pw_iload_n rfl rfl ?_
  refine pw_if2p (cn_ge (by omega) (by omega)) rfl (t := 127) rfl (fun q => absurd q (by omega)) (fun _ => ?_)
  refine pw_aload_n rfl rfl ?_
  refine pw_dup rfl ?_
  refine px_getv (x := nI (now)) rfl rfl rfl rfl (hn) ?_
  refine pw_iconst (v := nI (1)) rfl (by decide) ?_
  refine pw_iadd (z := nI (now + 1)) rfl (nI_add _ _) ?_
  refine px_put rfl rfl rfl rfl rfl ?_
  refine pw_iconst (v := nI (0)) rfl (by decide) ?_
  refine pw_istore (ls1 := [some (.inr (some (103))), some (.inl (nI (m))), some (.inl (nI (ar))), some (.inl (nI (j))), some (.inl (nI (0))), o5]) rfl (Nat.le_of_ble_eq_true rfl) rfl ?_
  exact k
theorem tp_d {L m ar j q : Nat} {o5 : Option PV} {F G : FN} {R : RN} {Q : Option PV → PH → Prop} (hq : q < 8) (kont : pz pP mSBModel_deliver [.inr (some (103)), .inl (nI (q))] (hb (sL L) F G R sO) (fun r h1 => pw pP mSBModel_pass (48, [some (.inr (some (103))), some (.inl (nI (m))), some (.inl (nI (ar))), some (.inl (nI (j))), some (.inl (nI (q))), o5], r.toList ++ [.inl (nI (ar))], 0, 0, h1) Q)) : pw pP mSBModel_pass (34, [some (.inr (some (103))), some (.inl (nI (m))), some (.inl (nI (ar))), some (.inl (nI (j))), some (.inl (nI (q))), o5], [], 0, 0, hb (sL L) F G R sO) Q := by
  refine pw_iload rfl rfl ?_
  refine pw_bipush (v := nI (8)) rfl (by decide) ?_
  refine pw_if2p (cn_ge (by omega) (by omega)) rfl (t := 56) rfl (fun q => absurd q (by omega)) (fun _ => ?_)
  refine pw_iload_n rfl rfl ?_
  refine pw_aload_n rfl rfl ?_
  refine pw_iload rfl rfl ?_
  refine px_callv (as := [.inr (some (103)), .inl (nI (q))]) (rest := [.inl (nI (ar))]) rfl rfl (by decide) rfl (Nat.le_of_ble_eq_true rfl) (Nat.le_of_ble_eq_true rfl) (Nat.le_of_ble_eq_true rfl) (Nat.le_of_ble_eq_true rfl) rfl rfl rfl rfl ?_
  exact kont
theorem tp_d2 {L m ar j q a : Nat} {o5 : Option PV} {F G : FN} {R : RN} {Q : Option PV → PH → Prop} (k : pw pP mSBModel_pass (34, [some (.inr (some (103))), some (.inl (nI (m))), some (.inl (nI (ar + a))), some (.inl (nI (j))), some (.inl (nI (q + 1))), o5], [], 0, 0, hb (sL L) F G R sO) Q) : pw pP mSBModel_pass (48, [some (.inr (some (103))), some (.inl (nI (m))), some (.inl (nI (ar))), some (.inl (nI (j))), some (.inl (nI (q))), o5], [.inl (nI (a)), .inl (nI (ar))], 0, 0, hb (sL L) F G R sO) Q := by
  refine pw_iadd (z := nI (ar + a)) rfl (nI_add _ _) ?_
  refine pw_istore_n (ls1 := [some (.inr (some (103))), some (.inl (nI (m))), some (.inl (nI (ar + a))), some (.inl (nI (j))), some (.inl (nI (q))), o5]) rfl (Nat.le_of_ble_eq_true rfl) rfl ?_
  refine pw_iinc (v := nI (q + 1)) (ls1 := [some (.inr (some (103))), some (.inl (nI (m))), some (.inl (nI (ar + a))), some (.inl (nI (j))), some (.inl (nI (q + 1))), o5]) rfl rfl (iinc_n _) rfl ?_
  refine pw_goto (t := 34) rfl rfl ?_
  exact k
theorem tp_d8 {L m ar j : Nat} {o5 : Option PV} {F G : FN} {R : RN} {Q : Option PV → PH → Prop} (k : pw pP mSBModel_pass (59, [some (.inr (some (103))), some (.inl (nI (m))), some (.inl (nI (ar))), some (.inl (nI (j))), some (.inl (nI (0))), o5], [], 0, 0, hb (sL L) F G R sO) Q) : pw pP mSBModel_pass (34, [some (.inr (some (103))), some (.inl (nI (m))), some (.inl (nI (ar))), some (.inl (nI (j))), some (.inl (nI (8))), o5], [], 0, 0, hb (sL L) F G R sO) Q := by
  refine pw_iload rfl rfl ?_
  refine pw_bipush (v := nI (8)) rfl (by decide) ?_
  refine pw_if2 (t := 56) rfl rfl (fun _ => ?_) (fun q => absurd q (by decide))
  refine pw_iconst (v := nI (0)) rfl (by decide) ?_
  refine pw_istore (ls1 := [some (.inr (some (103))), some (.inl (nI (m))), some (.inl (nI (ar))), some (.inl (nI (j))), some (.inl (nI (0))), o5]) rfl (Nat.le_of_ble_eq_true rfl) rfl ?_
  exact k
theorem tp_rn {L m ar j p now : Nat} {o5 : Option PV} {F G : FN} {R : RN} {Q : Option PV → PH → Prop} (hp : p < 4) (hn : F 103 3 = nI now) (hnw : now < 2 ^ 31) (ht : ¬ G 111 p = nI now) (k : pw pP mSBModel_pass (59, [some (.inr (some (103))), some (.inl (nI (m))), some (.inl (nI (ar))), some (.inl (nI (j))), some (.inl (nI (p + 1))), o5], [], 0, 0, hb (sL L) F G R sO) Q) : pw pP mSBModel_pass (59, [some (.inr (some (103))), some (.inl (nI (m))), some (.inl (nI (ar))), some (.inl (nI (j))), some (.inl (nI (p))), o5], [], 0, 0, hb (sL L) F G R sO) Q := by
  refine pw_iload rfl rfl ?_
  refine pw_iconst (v := nI (4)) rfl (by decide) ?_
  refine pw_if2p (cn_ge (by omega) (by omega)) rfl (t := 91) rfl (fun q => absurd q (by omega)) (fun _ => ?_)
  refine pw_aload_n rfl rfl ?_
  refine px_getr (r := some (111)) rfl rfl rfl rfl rfl ?_
  refine pw_iload rfl rfl ?_
  refine px_ialdn (x := G (111) (p)) rfl rfl (by omega) (by decide) (rfl) ?_
  refine pw_aload_n rfl rfl ?_
  refine px_getv (x := nI (now)) rfl rfl rfl rfl (hn) ?_
  refine pw_if2p (A := ¬ G (111) (p) = nI (now)) rfl rfl (t := 85) rfl (fun _ => ?_) (fun q => absurd ht q)
  refine pw_iinc (v := nI (p + 1)) (ls1 := [some (.inr (some (103))), some (.inl (nI (m))), some (.inl (nI (ar))), some (.inl (nI (j))), some (.inl (nI (p + 1))), o5]) rfl rfl (iinc_n _) rfl ?_
  refine pw_goto (t := 59) rfl rfl ?_
  exact k
theorem tp_ry {L m ar j p now : Nat} {o5 : Option PV} {F G : FN} {R : RN} {Q : Option PV → PH → Prop} (hp : p < 4) (hn : F 103 3 = nI now) (hnw : now < 2 ^ 31) (ht : G 111 p = nI now) (kont : pz pP mSBModel_ring [.inr (some (103)), .inl (nI (p))] (hb (sL L) F G R sO) (fun r h1 => pw pP mSBModel_pass (85, [some (.inr (some (103))), some (.inl (nI (m))), some (.inl (nI (ar))), some (.inl (nI (j))), some (.inl (nI (p))), o5], r.toList ++ [], 0, 0, h1) Q)) : pw pP mSBModel_pass (59, [some (.inr (some (103))), some (.inl (nI (m))), some (.inl (nI (ar))), some (.inl (nI (j))), some (.inl (nI (p))), o5], [], 0, 0, hb (sL L) F G R sO) Q := by
  refine pw_iload rfl rfl ?_
  refine pw_iconst (v := nI (4)) rfl (by decide) ?_
  refine pw_if2p (cn_ge (by omega) (by omega)) rfl (t := 91) rfl (fun q => absurd q (by omega)) (fun _ => ?_)
  refine pw_aload_n rfl rfl ?_
  refine px_getr (r := some (111)) rfl rfl rfl rfl rfl ?_
  refine pw_iload rfl rfl ?_
  refine px_ialdn (x := nI (now)) rfl rfl (by omega) (by decide) (ht) ?_
  refine pw_aload_n rfl rfl ?_
  refine px_getv (x := nI (now)) rfl rfl rfl rfl (hn) ?_
  refine pw_if2p (cn_ne (by omega) (by omega)) rfl (t := 85) rfl (fun q => absurd q (fun q => q rfl)) (fun _ => ?_)
  refine pw_aload_n rfl rfl ?_
  refine pw_iload rfl rfl ?_
  refine px_callv (as := [.inr (some (103)), .inl (nI (p))]) (rest := []) rfl rfl (by decide) rfl (Nat.le_of_ble_eq_true rfl) (Nat.le_of_ble_eq_true rfl) (Nat.le_of_ble_eq_true rfl) (Nat.le_of_ble_eq_true rfl) rfl rfl rfl rfl ?_
  exact kont
theorem tp_r2 {L m ar j p : Nat} {o5 : Option PV} {F G : FN} {R : RN} {Q : Option PV → PH → Prop} (k : pw pP mSBModel_pass (59, [some (.inr (some (103))), some (.inl (nI (m))), some (.inl (nI (ar))), some (.inl (nI (j))), some (.inl (nI (p + 1))), o5], [], 0, 0, hb (sL L) F G R sO) Q) : pw pP mSBModel_pass (85, [some (.inr (some (103))), some (.inl (nI (m))), some (.inl (nI (ar))), some (.inl (nI (j))), some (.inl (nI (p))), o5], [], 0, 0, hb (sL L) F G R sO) Q := by
  refine pw_iinc (v := nI (p + 1)) (ls1 := [some (.inr (some (103))), some (.inl (nI (m))), some (.inl (nI (ar))), some (.inl (nI (j))), some (.inl (nI (p + 1))), o5]) rfl rfl (iinc_n _) rfl ?_
  refine pw_goto (t := 59) rfl rfl ?_
  exact k
theorem tp_r4 {L m ar j : Nat} {o5 : Option PV} {F G : FN} {R : RN} {Q : Option PV → PH → Prop} (k : pw pP mSBModel_pass (97, [some (.inr (some (103))), some (.inl (nI (m))), some (.inl (nI (ar))), some (.inl (nI (j))), some (.inl (nI (1))), some (.inl (nI (0)))], [], 0, 0, hb (sL L) F G R sO) Q) : pw pP mSBModel_pass (59, [some (.inr (some (103))), some (.inl (nI (m))), some (.inl (nI (ar))), some (.inl (nI (j))), some (.inl (nI (4))), o5], [], 0, 0, hb (sL L) F G R sO) Q := by
  refine pw_iload rfl rfl ?_
  refine pw_iconst (v := nI (4)) rfl (by decide) ?_
  refine pw_if2 (t := 91) rfl rfl (fun _ => ?_) (fun q => absurd q (by decide))
  refine pw_iconst (v := nI (1)) rfl (by decide) ?_
  refine pw_istore (ls1 := [some (.inr (some (103))), some (.inl (nI (m))), some (.inl (nI (ar))), some (.inl (nI (j))), some (.inl (nI (1))), o5]) rfl (Nat.le_of_ble_eq_true rfl) rfl ?_
  refine pw_iconst (v := nI (0)) rfl (by decide) ?_
  refine pw_istore (ls1 := [some (.inr (some (103))), some (.inl (nI (m))), some (.inl (nI (ar))), some (.inl (nI (j))), some (.inl (nI (1))), some (.inl (nI (0)))]) rfl (Nat.le_of_ble_eq_true rfl) rfl ?_
  exact k
theorem tp_s {L m ar j t : Nat} {F G : FN} {R : RN} {Q : Option PV → PH → Prop} (ht : t < 13) (kont : pz pP mSBModel_sends [.inr (some (103))] (hb (sL L) F G R sO) (fun r h1 => pw pP mSBModel_pass (113, [some (.inr (some (103))), some (.inl (nI (m))), some (.inl (nI (ar))), some (.inl (nI (j))), some (.inl (nI (1))), some (.inl (nI (t)))], r.toList ++ [], 0, 0, h1) Q)) : pw pP mSBModel_pass (97, [some (.inr (some (103))), some (.inl (nI (m))), some (.inl (nI (ar))), some (.inl (nI (j))), some (.inl (nI (1))), some (.inl (nI (t)))], [], 0, 0, hb (sL L) F G R sO) Q := by
  refine pw_iload rfl rfl ?_
  refine pw_bipush (v := nI (13)) rfl (by decide) ?_
  refine pw_if2p (cn_ge (by omega) (by omega)) rfl (t := 121) rfl (fun q => absurd q (by omega)) (fun _ => ?_)
  refine pw_iload rfl rfl ?_
  refine pw_if1 (t := 121) rfl rfl (fun q => absurd q (by decide)) (fun _ => ?_)
  refine pw_aload_n rfl rfl ?_
  refine px_callv (as := [.inr (some (103))]) (rest := []) rfl rfl (by decide) rfl (Nat.le_of_ble_eq_true rfl) (Nat.le_of_ble_eq_true rfl) (Nat.le_of_ble_eq_true rfl) (Nat.le_of_ble_eq_true rfl) rfl rfl rfl rfl ?_
  exact kont
theorem tp_s2 {L m ar j t w b : Nat} {F G : FN} {R : RN} {Q : Option PV → PH → Prop} (k : pw pP mSBModel_pass (97, [some (.inr (some (103))), some (.inl (nI (m))), some (.inl (nI (ar))), some (.inl (nI (j))), some (.inl (nI (b))), some (.inl (nI (t + 1)))], [], 0, 0, hb (sL L) F G R sO) Q) : pw pP mSBModel_pass (113, [some (.inr (some (103))), some (.inl (nI (m))), some (.inl (nI (ar))), some (.inl (nI (j))), some (.inl (nI (w))), some (.inl (nI (t)))], [.inl (nI (b))], 0, 0, hb (sL L) F G R sO) Q := by
  refine pw_istore (ls1 := [some (.inr (some (103))), some (.inl (nI (m))), some (.inl (nI (ar))), some (.inl (nI (j))), some (.inl (nI (b))), some (.inl (nI (t)))]) rfl (Nat.le_of_ble_eq_true rfl) rfl ?_
  refine pw_iinc (v := nI (t + 1)) (ls1 := [some (.inr (some (103))), some (.inl (nI (m))), some (.inl (nI (ar))), some (.inl (nI (j))), some (.inl (nI (b))), some (.inl (nI (t + 1)))]) rfl rfl (iinc_n _) rfl ?_
  refine pw_goto (t := 97) rfl rfl ?_
  exact k
theorem tp_s0 {L m ar j t : Nat} {F G : FN} {R : RN} {Q : Option PV → PH → Prop} (ht : t < 13) (k : pw pP mSBModel_pass (16, [some (.inr (some (103))), some (.inl (nI (m))), some (.inl (nI (ar))), some (.inl (nI (j + 1))), some (.inl (nI (0))), some (.inl (nI (t)))], [], 0, 0, hb (sL L) F G R sO) Q) : pw pP mSBModel_pass (97, [some (.inr (some (103))), some (.inl (nI (m))), some (.inl (nI (ar))), some (.inl (nI (j))), some (.inl (nI (0))), some (.inl (nI (t)))], [], 0, 0, hb (sL L) F G R sO) Q := by
  refine pw_iload rfl rfl ?_
  refine pw_bipush (v := nI (13)) rfl (by decide) ?_
  refine pw_if2p (cn_ge (by omega) (by omega)) rfl (t := 121) rfl (fun q => absurd q (by omega)) (fun _ => ?_)
  refine pw_iload rfl rfl ?_
  refine pw_if1 (t := 121) rfl rfl (fun _ => ?_) (fun q => absurd q (by decide))
  refine pw_iinc (v := nI (j + 1)) (ls1 := [some (.inr (some (103))), some (.inl (nI (m))), some (.inl (nI (ar))), some (.inl (nI (j + 1))), some (.inl (nI (0))), some (.inl (nI (t)))]) rfl rfl (iinc_n _) rfl ?_
  refine pw_goto (t := 16) rfl rfl ?_
  exact k
theorem tp_s13 {L m ar j : Nat} {F G : FN} {R : RN} {Q : Option PV → PH → Prop} (k : pw pP mSBModel_pass (16, [some (.inr (some (103))), some (.inl (nI (m))), some (.inl (nI (ar))), some (.inl (nI (j + 1))), some (.inl (nI (0))), some (.inl (nI (13)))], [], 0, 0, hb (sL L) F G R sO) Q) : pw pP mSBModel_pass (97, [some (.inr (some (103))), some (.inl (nI (m))), some (.inl (nI (ar))), some (.inl (nI (j))), some (.inl (nI (0))), some (.inl (nI (13)))], [], 0, 0, hb (sL L) F G R sO) Q := by
  refine pw_iload rfl rfl ?_
  refine pw_bipush (v := nI (13)) rfl (by decide) ?_
  refine pw_if2 (t := 121) rfl rfl (fun _ => ?_) (fun q => absurd q (by decide))
  refine pw_iinc (v := nI (j + 1)) (ls1 := [some (.inr (some (103))), some (.inl (nI (m))), some (.inl (nI (ar))), some (.inl (nI (j + 1))), some (.inl (nI (0))), some (.inl (nI (13)))]) rfl rfl (iinc_n _) rfl ?_
  refine pw_goto (t := 16) rfl rfl ?_
  exact k
theorem cp_no {L : Nat} {x : Int32} {F G : FN} {R : RN} {Q : Option PV → PH → Prop} (hx : x < 0 ∨ ¬ x ≤ nI 60) (k : Q (some (.inl (-1))) (hb (sL L) F G R sO)) : pz pP mSB_pass [.inr (some (1)), .inl x] (hb (sL L) F G R sO) Q := by
  show pw pP mSB_pass (0, [some (.inr (some (1))), some (.inl (x)), none, none], [], 0, 0, hb (sL L) F G R sO) _
  refine pw_iload_n rfl rfl ?_
  refine pw_if1p (A := x < 0) rfl rfl (t := 10) rfl (fun c1 => ?_) (fun c1 => ?_)
  · -- 10
    refine pw_iconst (v := (-1)) rfl (by decide) ?_
    exact pw_iret rfl rfl (Nat.zero_le _) (Nat.zero_le _) rfl k
  · -- 4
    refine pw_iload_n rfl rfl ?_
    refine pw_bipush (v := nI (60)) rfl (by decide) ?_
    refine pw_if2p (A := x ≤ nI (60)) rfl rfl (t := 12) rfl (fun c2 => ?_) (fun c2 => ?_)
    · -- 12
      exact absurd hx (by rintro (h | h); exact c1 h; exact h c2)
    · -- 10
      refine pw_iconst (v := (-1)) rfl (by decide) ?_
      exact pw_iret rfl rfl (Nat.zero_le _) (Nat.zero_le _) rfl k
theorem tp_no {L : Nat} {x : Int32} {F G : FN} {R : RN} {Q : Option PV → PH → Prop} (hx : x < 0 ∨ ¬ x ≤ nI 60) (k : Q (some (.inl (-1))) (hb (sL L) F G R sO)) : pz pP mSBModel_pass [.inr (some (103)), .inl x] (hb (sL L) F G R sO) Q := by
  show pw pP mSBModel_pass (0, [some (.inr (some (103))), some (.inl (x)), none, none, none, none], [], 0, 0, hb (sL L) F G R sO) _
  refine pw_iload_n rfl rfl ?_
  refine pw_if1p (A := x < 0) rfl rfl (t := 10) rfl (fun c1 => ?_) (fun c1 => ?_)
  · -- 10
    refine pw_iconst (v := (-1)) rfl (by decide) ?_
    exact pw_iret rfl rfl (Nat.zero_le _) (Nat.zero_le _) rfl k
  · -- 4
    refine pw_iload_n rfl rfl ?_
    refine pw_bipush (v := nI (60)) rfl (by decide) ?_
    refine pw_if2p (A := x ≤ nI (60)) rfl rfl (t := 12) rfl (fun c2 => ?_) (fun c2 => ?_)
    · -- 12
      exact absurd hx (by rintro (h | h); exact c1 h; exact h c2)
    · -- 10
      refine pw_iconst (v := (-1)) rfl (by decide) ?_
      exact pw_iret rfl rfl (Nat.zero_le _) (Nat.zero_le _) rfl k
theorem cany_le {F : FN} : ∀ n p, cany F n p ≤ 1
  | 0, _ => Nat.zero_le _
  | n + 1, p => by
    rw [cany]
    split
    · exact Nat.le_refl _
    · exact cany_le n (p + 1)
theorem cs_0 {L now : Nat} {F G : FN} {R : RN} {Q : Option PV → PH → Prop} (hR4 : ∀ q, q < 4 → R 4 q = some (5 + 21 * q)) (hPa : ∀ q, q < 4 → pathok L (5 + 21 * q) R) (k : pw pP mHostA_sendAll (15, [some (.inr (some 89)), some (.inl (nI now)), some (.inl (wnt F)), some (.inl (nI 0)), none], [], 0, 0, hb (sL L) F G R sO) Q) : pz pP mHostA_sendAll [.inr (some 89), .inl (nI now)] (hb (sL L) F G R sO) Q := by
  show pw pP mHostA_sendAll (0, [some (.inr (some (89))), some (.inl (nI (now))), none, none, none], [], 0, 0, hb (sL L) F G R sO) _
  have hle : cany F 4 0 ≤ 1 := cany_le 4 0
  refine pw_aload_n rfl rfl ?_
  refine px_callv (as := [.inr (some (89))]) (rest := []) rfl rfl (by decide) rfl (Nat.le_of_ble_eq_true rfl) (Nat.le_of_ble_eq_true rfl) (Nat.le_of_ble_eq_true rfl) (Nat.le_of_ble_eq_true rfl) rfl rfl rfl rfl ?_
  refine t_cany hR4 hPa ?_
  show pw pP mHostA_sendAll (4, [some (.inr (some (89))), some (.inl (nI (now))), none, none, none], [.inl (nI (cany F 4 0))], 0, 0, hb (sL L) F G R sO) _
  refine pw_if1p (cz_eq (by omega)) rfl (t := 11) rfl (fun c1 => ?_) (fun c1 => ?_)
  · -- 11
    refine pw_iconst (v := nI (3)) rfl (by decide) ?_
    refine pw_istore_n (ls1 := [some (.inr (some (89))), some (.inl (nI (now))), some (.inl (nI (3))), none, none]) rfl (Nat.le_of_ble_eq_true rfl) rfl ?_
    refine pw_iconst (v := nI (0)) rfl (by decide) ?_
    refine pw_istore_n (ls1 := [some (.inr (some (89))), some (.inl (nI (now))), some (.inl (nI (3))), some (.inl (nI (0))), none]) rfl (Nat.le_of_ble_eq_true rfl) rfl ?_
    rw [show wnt F = nI (3) from if_pos c1] at k
    exact k
  · -- 7
    refine pw_iconst (v := nI (2)) rfl (by decide) ?_
    refine pw_goto (t := 12) rfl rfl ?_
    refine pw_istore_n (ls1 := [some (.inr (some (89))), some (.inl (nI (now))), some (.inl (nI (2))), none, none]) rfl (Nat.le_of_ble_eq_true rfl) rfl ?_
    refine pw_iconst (v := nI (0)) rfl (by decide) ?_
    refine pw_istore_n (ls1 := [some (.inr (some (89))), some (.inl (nI (now))), some (.inl (nI (2))), some (.inl (nI (0))), none]) rfl (Nat.le_of_ble_eq_true rfl) rfl ?_
    rw [show wnt F = nI (2) from if_neg c1] at k
    exact k
theorem cs_e {L now : Nat} {w : Int32} {o4 : Option PV} {F G : FN} {R : RN} {Q : Option PV → PH → Prop} (k : Q none (hb (sL L) F G R sO)) : pw pP mHostA_sendAll (15, [some (.inr (some (89))), some (.inl (nI (now))), some (.inl (w)), some (.inl (nI (12))), o4], [], 0, 0, hb (sL L) F G R sO) Q := by
  refine pw_iload_n rfl rfl ?_
  refine pw_bipush (v := nI (12)) rfl (by decide) ?_
  refine pw_if2 (t := 53) rfl rfl (fun _ => ?_) (fun q => absurd q (by decide))
  exact pw_vret rfl rfl (Nat.zero_le _) (Nat.zero_le _) k
theorem cs_q {L now t : Nat} {w : Int32} {o4 : Option PV} {F G : FN} {R : RN} {Q : Option PV → PH → Prop} (ht : t < 12) (kont : pz pP mHostA_quickestThatCan [.inr (some (89)), .inl (w)] (hb (sL L) F G R sO) (fun r h1 => pw pP mHostA_sendAll (26, [some (.inr (some (89))), some (.inl (nI (now))), some (.inl (w)), some (.inl (nI (t))), o4], r.toList ++ [], 0, 0, h1) Q)) : pw pP mHostA_sendAll (15, [some (.inr (some (89))), some (.inl (nI (now))), some (.inl (w)), some (.inl (nI (t))), o4], [], 0, 0, hb (sL L) F G R sO) Q := by
  refine pw_iload_n rfl rfl ?_
  refine pw_bipush (v := nI (12)) rfl (by decide) ?_
  refine pw_if2p (cn_ge (by omega) (by omega)) rfl (t := 53) rfl (fun q => absurd q (by omega)) (fun _ => ?_)
  refine pw_aload_n rfl rfl ?_
  refine pw_iload_n rfl rfl ?_
  refine px_callv (as := [.inr (some (89)), .inl (w)]) (rest := []) rfl rfl (by decide) rfl (Nat.le_of_ble_eq_true rfl) (Nat.le_of_ble_eq_true rfl) (Nat.le_of_ble_eq_true rfl) (Nat.le_of_ble_eq_true rfl) rfl rfl rfl rfl ?_
  exact kont
theorem cs_null {L now t : Nat} {w : Int32} {o4 : Option PV} {F G : FN} {R : RN} {Q : Option PV → PH → Prop} (k : Q none (hb (sL L) F G R sO)) : pw pP mHostA_sendAll (26, [some (.inr (some (89))), some (.inl (nI (now))), some (.inl (w)), some (.inl (nI (t))), o4], [.inr none], 0, 0, hb (sL L) F G R sO) Q := by
  refine pw_astore (ls1 := [some (.inr (some (89))), some (.inl (nI (now))), some (.inl (w)), some (.inl (nI (t))), some (.inr none)]) rfl (Nat.le_of_ble_eq_true rfl) rfl ?_
  refine pw_aload rfl rfl ?_
  refine pw_ifnonnullN (t := 34) rfl rfl ?_
  exact pw_vret rfl rfl (Nat.zero_le _) (Nat.zero_le _) k
theorem cs_ns {L now t p : Nat} {w : Int32} {o4 : Option PV} {F G : FN} {R : RN} {Q : Option PV → PH → Prop} (kont : pz pP mHostA_nextSegment [.inr (some (89)), .inr (some (5 + 21 * p))] (hb (sL L) F G R sO) (fun r h1 => pw pP mHostA_sendAll (43, [some (.inr (some (89))), some (.inl (nI (now))), some (.inl (w)), some (.inl (nI (t))), some (.inr (some (5 + 21 * p)))], r.toList ++ [.inr (some (5 + 21 * p)), .inr (some (89))], 0, 0, h1) Q)) : pw pP mHostA_sendAll (26, [some (.inr (some (89))), some (.inl (nI (now))), some (.inl (w)), some (.inl (nI (t))), o4], [.inr (some (5 + 21 * p))], 0, 0, hb (sL L) F G R sO) Q := by
  refine pw_astore (ls1 := [some (.inr (some (89))), some (.inl (nI (now))), some (.inl (w)), some (.inl (nI (t))), some (.inr (some (5 + 21 * p)))]) rfl (Nat.le_of_ble_eq_true rfl) rfl ?_
  refine pw_aload rfl rfl ?_
  refine pw_ifnonnull (t := 34) rfl rfl ?_
  refine pw_aload_n rfl rfl ?_
  refine pw_aload rfl rfl ?_
  refine pw_aload_n rfl rfl ?_
  refine pw_aload rfl rfl ?_
  refine px_callv (as := [.inr (some (89)), .inr (some (5 + 21 * p))]) (rest := [.inr (some (5 + 21 * p)), .inr (some (89))]) rfl rfl (by decide) rfl (Nat.le_of_ble_eq_true rfl) (Nat.le_of_ble_eq_true rfl) (Nat.le_of_ble_eq_true rfl) (Nat.le_of_ble_eq_true rfl) rfl rfl rfl rfl ?_
  exact kont
theorem cs_sf {L now t p s : Nat} {w : Int32} {o4 : Option PV} {F G : FN} {R : RN} {Q : Option PV → PH → Prop} (kont : pz pP mHostA_sendFirst [.inr (some (89)), .inr (some (5 + 21 * p)), .inr (some (s)), .inl (nI (now))] (hb (sL L) F G R sO) (fun r h1 => pw pP mHostA_sendAll (47, [some (.inr (some (89))), some (.inl (nI (now))), some (.inl (w)), some (.inl (nI (t))), some (.inr (some (5 + 21 * p)))], r.toList ++ [], 0, 0, h1) Q)) : pw pP mHostA_sendAll (43, [some (.inr (some (89))), some (.inl (nI (now))), some (.inl (w)), some (.inl (nI (t))), some (.inr (some (5 + 21 * p)))], [.inr (some (s)), .inr (some (5 + 21 * p)), .inr (some (89))], 0, 0, hb (sL L) F G R sO) Q := by
  refine pw_iload_n rfl rfl ?_
  refine px_callv (as := [.inr (some (89)), .inr (some (5 + 21 * p)), .inr (some (s)), .inl (nI (now))]) (rest := []) rfl rfl (by decide) rfl (Nat.le_of_ble_eq_true rfl) (Nat.le_of_ble_eq_true rfl) (Nat.le_of_ble_eq_true rfl) (Nat.le_of_ble_eq_true rfl) rfl rfl rfl rfl ?_
  exact kont
theorem cs_n {L now t : Nat} {w : Int32} {o4 : Option PV} {F G : FN} {R : RN} {Q : Option PV → PH → Prop} (k : pw pP mHostA_sendAll (15, [some (.inr (some (89))), some (.inl (nI (now))), some (.inl (w)), some (.inl (nI (t + 1))), o4], [], 0, 0, hb (sL L) F G R sO) Q) : pw pP mHostA_sendAll (47, [some (.inr (some (89))), some (.inl (nI (now))), some (.inl (w)), some (.inl (nI (t))), o4], [], 0, 0, hb (sL L) F G R sO) Q := by
  refine pw_iinc (v := nI (t + 1)) (ls1 := [some (.inr (some (89))), some (.inl (nI (now))), some (.inl (w)), some (.inl (nI (t + 1))), o4]) rfl rfl (iinc_n _) rfl ?_
  refine pw_goto (t := 15) rfl rfl ?_
  exact k
