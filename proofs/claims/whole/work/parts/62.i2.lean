/-! CONSTRUCTORS, second part: stream, hosts, bundle, reference. Rows laid by a program (wip/whole/gen/init2.py). -/
theorem fz_F {k i j : Nat} {v : Int32} {F G : FN} {R O : RN} (h : fz k F G R O) (hi : i < k) : fz k (up2 F i j v) G R O := fun n a => ⟨(up2_row (by omega)).trans (h n a).1, (h n a).2⟩
theorem fz_R {k i j : Nat} {v : Option Nat} {F G : FN} {R O : RN} (h : fz k F G R O) (hi : i < k) : fz k F G (up2 R i j v) O := fun n a => ⟨(h n a).1, (h n a).2.1, (up2_row (by omega)).trans (h n a).2.2.1, (h n a).2.2.2⟩
theorem fz_O {k i j : Nat} {v : Option Nat} {F G : FN} {R O : RN} (h : fz k F G R O) (hi : i < k) : fz k F G R (up2 O i j v) := fun n a => ⟨(h n a).1, (h n a).2.1, (h n a).2.2.1, (up2_row (by omega)).trans (h n a).2.2.2⟩
def rotl (x : Int32) : Int32 := (x <<< (nI 7 &&& 31)) ||| (x.toUInt32 >>> ((nI 25).toUInt32 &&& Int32.toUInt32 31)).toInt32
def tokv (x : Int32) : Int32 := (rotl x * nI 75011 + nI 1234577) ^^^ ((rotl x * nI 75011 + nI 1234577).toUInt32 >>> ((nI 16).toUInt32 &&& Int32.toUInt32 31)).toInt32
theorem i_clamp {x l m : Int32} {h : PH} {Q : Option PV → PH → Prop} (k : Q (some (.inl (cclamp_r x l m))) h) : pz pP mSB_clamp [.inl x, .inl l, .inl m] h Q := by
  show pw pP mSB_clamp (0, [some (.inl (x)), some (.inl (l)), some (.inl (m))], [], 0, 0, h) _
  refine pw_iload_n rfl rfl ?_
  refine pw_iload_n rfl rfl ?_
  refine pw_iload_n rfl rfl ?_
  refine pw_math (st1 := [.inl ((if x < m then x else m)), .inl (l)]) rfl rfl (by decide) (Nat.zero_le _) (Nat.zero_le _) rfl (Nat.le_of_ble_eq_true rfl) ?_
  refine pw_math (st1 := [.inl ((if l < (if x < m then x else m) then (if x < m then x else m) else l))]) rfl rfl (by decide) (Nat.zero_le _) (Nat.zero_le _) rfl (Nat.le_of_ble_eq_true rfl) ?_
  exact pw_iret rfl rfl (Nat.zero_le _) (Nat.zero_le _) rfl k
theorem i_rot {x : Int32} {h : PH} {Q : Option PV → PH → Prop} (k : Q (some (.inl (rotl x))) h) : pz pP mInteger_rotateLeft [.inl x, .inl (nI 7)] h Q := by
  show pw pP mInteger_rotateLeft (0, [some (.inl x), some (.inl (nI 7))], [], 0, 0, h) _
  refine pw_iload_n rfl rfl ?_
  refine pw_iload_n rfl rfl ?_
  refine pw_ishl rfl rfl ?_
  refine pw_iload_n rfl rfl ?_
  refine pw_iload_n rfl rfl ?_
  refine pw_ineg (z := -(nI 7)) rfl rfl ?_
  refine pw_iushr (z := (x.toUInt32 >>> ((nI 25).toUInt32 &&& Int32.toUInt32 31)).toInt32) rfl (by rw [show (-(nI 7)).toUInt32 &&& Int32.toUInt32 31 = (nI 25).toUInt32 &&& Int32.toUInt32 31 from by decide]) ?_
  refine pw_ior (z := rotl x) rfl rfl ?_
  exact pw_iret rfl rfl (Nat.zero_le _) (Nat.zero_le _) rfl k
theorem i_tok {x : Int32} {h : PH} {Q : Option PV → PH → Prop} (k : Q (some (.inl (tokv x))) h) : pz pP mSB_tokenOf [.inl x] h Q := by
  show pw pP mSB_tokenOf (0, [some (.inl x), none], [], 0, 0, h) _
  refine pw_iload_n rfl rfl ?_
  refine pw_bipush (v := nI 7) rfl (by decide) ?_
  refine pw_calls (as := [.inl x, .inl (nI 7)]) (rest := []) rfl rfl (by decide) rfl (Nat.le_of_ble_eq_true rfl) (Nat.le_of_ble_eq_true rfl) (Nat.le_of_ble_eq_true rfl) (Nat.le_of_ble_eq_true rfl) rfl rfl ?_
  refine i_rot ?_
  show pw pP mSB_tokenOf (6, [some (.inl x), none], [.inl (rotl x)], 0, 0, h) _
  refine pw_ldc (v := nI 75011) rfl rfl ?_
  refine pw_imul (z := rotl x * nI 75011) rfl rfl ?_
  refine pw_ldc (v := nI 1234577) rfl rfl ?_
  refine pw_iadd (z := rotl x * nI 75011 + nI 1234577) rfl rfl ?_
  refine pw_istore_n (ls1 := [some (.inl x), some (.inl (rotl x * nI 75011 + nI 1234577))]) rfl (Nat.le_of_ble_eq_true rfl) rfl ?_
  refine pw_iload_n rfl rfl ?_
  refine pw_iload_n rfl rfl ?_
  refine pw_bipush (v := nI 16) rfl (by decide) ?_
  refine pw_iushr (z := ((rotl x * nI 75011 + nI 1234577).toUInt32 >>> ((nI 16).toUInt32 &&& Int32.toUInt32 31)).toInt32) rfl rfl ?_
  refine pw_ixor (z := tokv x) rfl rfl ?_
  exact pw_iret rfl rfl (Nat.zero_le _) (Nat.zero_le _) rfl k
def iOs (O : RN) : RN := (up2 O (2) (0) ((some (3))))
theorem i_stream {L : Nat} {F G : FN} {R O : RN} (hz : fz 3 F G R O) {Q : Option PV → PH → Prop} (k : Q none (hb ((sL L).take (4)) F G R (iOs O))) : pz pP mStream_init [.inr (some (2))] (hb ((sL L).take (3)) F G R O) Q := by
  show pw pP mStream_init (0, [some (.inr (some (2)))], [], 0, 0, hb ((sL L).take (3)) F G R O) _
  refine pw_aload_n rfl rfl ?_
  refine pw_obj (i := 2) rfl rfl (Nat.le_of_ble_eq_true rfl) ?_
  refine pw_aload_n rfl rfl ?_
  refine pw_sipush (v := nI (401)) rfl (by decide) ?_
  refine px_newa rfl rfl (by decide) (Nat.le_of_ble_eq_true rfl) (Nat.le_of_ble_eq_true rfl) (by omega) rfl (fz_le hz (by omega)) ?_
  show pw pP mStream_init (10, [some (.inr (some (2)))], [.inr (some (3)), .inr (some (2))], 1, 401, hb ((sL L).take (4)) F G R O) _
  refine px_putr rfl rfl (tk_at rfl (by omega)) rfl rfl ?_
  exact pw_vret rfl rfl (Nat.le_of_ble_eq_true rfl) (Nat.le_of_ble_eq_true rfl) k
theorem i_stream_fz {L : Nat} {F G : FN} {R O : RN} (hz : fz (3) F G R O) : fz (4) F G R (iOs O) := by
  unfold iOs
  exact fz_le (fz_O hz (by omega)) (by omega)
def iOa (O : RN) (e : Nat) : RN := (up2 O (e) (0) ((some (e + 1))))
theorem i_arr {L e : Nat} {F G : FN} {R O : RN} (he : e + 2 ≤ 131) (h0 : (sL L)[e]? = some (2, 0, [1, 0], 0)) (h1 : (sL L)[e + 1]? = some (0, 1, [], 402)) (hz : fz (e + 1) F G R O) {Q : Option PV → PH → Prop} (k : Q none (hb ((sL L).take (e + 2)) F G R (iOa O e))) : pz pP mArrivals_init [.inr (some (e))] (hb ((sL L).take (e + 1)) F G R O) Q := by
  show pw pP mArrivals_init (0, [some (.inr (some (e)))], [], 0, 0, hb ((sL L).take (e + 1)) F G R O) _
  refine pw_aload_n rfl rfl ?_
  refine pw_obj (i := e) rfl rfl (Nat.le_of_ble_eq_true rfl) ?_
  refine pw_aload_n rfl rfl ?_
  refine pw_sipush (v := nI (402)) rfl (by decide) ?_
  refine px_newa rfl rfl (by decide) (Nat.le_of_ble_eq_true rfl) (Nat.le_of_ble_eq_true rfl) (by omega) h1 (fz_le hz (by omega)) ?_
  show pw pP mArrivals_init (10, [some (.inr (some (e)))], [.inr (some (e + 1)), .inr (some (e))], 1, 402, hb ((sL L).take (e + 2)) F G R O) _
  refine px_putr rfl rfl (tk_at h0 (by omega)) rfl rfl ?_
  exact pw_vret rfl rfl (Nat.le_of_ble_eq_true rfl) (Nat.le_of_ble_eq_true rfl) k
theorem i_arr_fz {L e : Nat} {F G : FN} {R O : RN} (hz : fz (e + 1) F G R O) : fz (e + 2) F G R (iOa O e) := by
  unfold iOa
  exact fz_le (fz_O hz (by omega)) (by omega)
def iFha (F : FN) (ms rm : Int32) : FN := (up2 (up2 F (89) (2) (ms)) (89) (6) (rm))
def iOha (O : RN) : RN := (up2 (up2 (up2 (up2 O (89) (3) ((some (90)))) (89) (4) ((some (91)))) (89) (0) ((some (2)))) (89) (1) ((some (4))))
theorem i_hosta {L : Nat} {ms rm : Int32} {F G : FN} {R O : RN} (hz : fz 90 F G R O) {Q : Option PV → PH → Prop} (k : Q none (hb ((sL L).take (92)) (iFha F ms rm) G R (iOha O))) : pz pP mHostA_init [.inr (some (89)), .inr (some (2)), .inr (some (4)), .inl (ms), .inl (rm)] (hb ((sL L).take (90)) F G R O) Q := by
  show pw pP mHostA_init (0, [some (.inr (some (89))), some (.inr (some (2))), some (.inr (some (4))), some (.inl (ms)), some (.inl (rm))], [], 0, 0, hb ((sL L).take (90)) F G R O) _
  refine pw_aload_n rfl rfl ?_
  refine pw_obj (i := 89) rfl rfl (Nat.le_of_ble_eq_true rfl) ?_
  refine pw_aload_n rfl rfl ?_
  refine pw_sipush (v := nI (401)) rfl (by decide) ?_
  refine px_newa rfl rfl (by decide) (Nat.le_of_ble_eq_true rfl) (Nat.le_of_ble_eq_true rfl) (by omega) rfl (fz_le hz (by omega)) ?_
  show pw pP mHostA_init (10, [some (.inr (some (89))), some (.inr (some (2))), some (.inr (some (4))), some (.inl (ms)), some (.inl (rm))], [.inr (some (90)), .inr (some (89))], 1, 401, hb ((sL L).take (91)) F G R O) _
  refine px_putr rfl rfl (tk_at rfl (by omega)) rfl rfl ?_
  refine pw_aload_n rfl rfl ?_
  refine pw_sipush (v := nI (401)) rfl (by decide) ?_
  refine px_newa rfl rfl (by decide) (Nat.le_of_ble_eq_true rfl) (Nat.le_of_ble_eq_true rfl) (by omega) rfl (fz_le (fz_O hz (by omega)) (by omega)) ?_
  show pw pP mHostA_init (19, [some (.inr (some (89))), some (.inr (some (2))), some (.inr (some (4))), some (.inl (ms)), some (.inl (rm))], [.inr (some (91)), .inr (some (89))], 2, 802, hb ((sL L).take (92)) F G R (up2 O (89) (3) ((some (90))))) _
  refine px_putr rfl rfl (tk_at rfl (by omega)) rfl rfl ?_
  refine pw_aload_n rfl rfl ?_
  refine pw_aload_n rfl rfl ?_
  refine px_putr rfl rfl (tk_at rfl (by omega)) rfl rfl ?_
  refine pw_aload_n rfl rfl ?_
  refine pw_aload_n rfl rfl ?_
  refine px_putr rfl rfl (tk_at rfl (by omega)) rfl rfl ?_
  refine pw_aload_n rfl rfl ?_
  refine pw_iload_n rfl rfl ?_
  refine px_put rfl rfl (tk_at rfl (by omega)) rfl rfl ?_
  refine pw_aload_n rfl rfl ?_
  refine pw_iload rfl rfl ?_
  refine px_put rfl rfl (tk_at rfl (by omega)) rfl rfl ?_
  exact pw_vret rfl rfl (Nat.le_of_ble_eq_true rfl) (Nat.le_of_ble_eq_true rfl) k
theorem i_hosta_fz {L : Nat} {ms rm : Int32} {F G : FN} {R O : RN} (hz : fz (90) F G R O) : fz (92) (iFha F ms rm) G R (iOha O) := by
  unfold iFha iOha
  exact fz_le (fz_F (fz_F (fz_O (fz_O (fz_O (fz_O hz (by omega)) (by omega)) (by omega)) (by omega)) (by omega)) (by omega)) (by omega)
def iFhb (F : FN) (rm tk : Int32) : FN := (up2 (up2 F (92) (1) (rm)) (92) (2) (tk))
def iRhb (R : RN) : RN := (up2 (up2 (up2 (up2 R (93) (0) ((some (95)))) (93) (1) ((some (97)))) (93) (2) ((some (99)))) (93) (3) ((some (101))))
def iOhb (O : RN) : RN := (iOa (iOa (iOa (iOa (up2 (up2 (up2 O (92) (3) ((some (93)))) (92) (4) ((some (94)))) (92) (0) ((some (2)))) (95)) (97)) (99)) (101))
theorem i_hostb {L : Nat} {rm tk : Int32} {F G : FN} {R O : RN} (hz : fz 93 F G R O) {Q : Option PV → PH → Prop} (k : Q none (hb ((sL L).take (103)) (iFhb F rm tk) G (iRhb R) (iOhb O))) : pz pP mHostB_init [.inr (some (92)), .inr (some (2)), .inl (rm), .inl (tk)] (hb ((sL L).take (93)) F G R O) Q := by
  show pw pP mHostB_init (0, [some (.inr (some (92))), some (.inr (some (2))), some (.inl (rm)), some (.inl (tk)), none], [], 0, 0, hb ((sL L).take (93)) F G R O) _
  refine pw_aload_n rfl rfl ?_
  refine pw_obj (i := 92) rfl rfl (Nat.le_of_ble_eq_true rfl) ?_
  refine pw_aload_n rfl rfl ?_
  refine pw_iconst (v := nI (4)) rfl (by decide) ?_
  refine px_newq rfl rfl rfl (by decide) (Nat.le_of_ble_eq_true rfl) (Nat.le_of_ble_eq_true rfl) (by omega) rfl (fz_le hz (by omega)) ?_
  show pw pP mHostB_init (9, [some (.inr (some (92))), some (.inr (some (2))), some (.inl (rm)), some (.inl (tk)), none], [.inr (some (93)), .inr (some (92))], 1, 4, hb ((sL L).take (94)) F G R O) _
  refine px_putr rfl rfl (tk_at rfl (by omega)) rfl rfl ?_
  refine pw_aload_n rfl rfl ?_
  refine pw_sipush (v := nI (401)) rfl (by decide) ?_
  refine px_newa rfl rfl (by decide) (Nat.le_of_ble_eq_true rfl) (Nat.le_of_ble_eq_true rfl) (by omega) rfl (fz_le (fz_O hz (by omega)) (by omega)) ?_
  show pw pP mHostB_init (18, [some (.inr (some (92))), some (.inr (some (2))), some (.inl (rm)), some (.inl (tk)), none], [.inr (some (94)), .inr (some (92))], 2, 405, hb ((sL L).take (95)) F G R (up2 O (92) (3) ((some (93))))) _
  refine px_putr rfl rfl (tk_at rfl (by omega)) rfl rfl ?_
  refine pw_aload_n rfl rfl ?_
  refine pw_aload_n rfl rfl ?_
  refine px_putr rfl rfl (tk_at rfl (by omega)) rfl rfl ?_
  refine pw_aload_n rfl rfl ?_
  refine pw_iload_n rfl rfl ?_
  refine px_put rfl rfl (tk_at rfl (by omega)) rfl rfl ?_
  refine pw_aload_n rfl rfl ?_
  refine pw_iload_n rfl rfl ?_
  refine px_put rfl rfl (tk_at rfl (by omega)) rfl rfl ?_
  refine pw_iconst (v := nI (0)) rfl (by decide) ?_
  refine pw_istore (ls1 := [some (.inr (some (92))), some (.inr (some (2))), some (.inl (rm)), some (.inl (tk)), some (.inl (nI (0)))]) rfl (Nat.le_of_ble_eq_true rfl) rfl ?_
  refine pw_iload rfl rfl ?_
  refine pw_iconst (v := nI (4)) rfl (by decide) ?_
  refine pw_if2 (t := 65) rfl rfl (fun q => absurd q (by decide)) (fun _ => ?_)
  refine pw_aload_n rfl rfl ?_
  refine px_getr (r := some (93)) rfl rfl (tk_at rfl (by omega)) rfl ((up2_ne2 (by decide)).trans ((up2_ne2 (by decide)).trans (up2_eq))) ?_
  refine pw_iload rfl rfl ?_
  refine px_new rfl rfl rfl (Nat.le_of_ble_eq_true rfl) (Nat.le_of_ble_eq_true rfl) rfl (by omega) rfl (fz_le (fz_F (fz_F (fz_O (fz_O (fz_O hz (by omega)) (by omega)) (by omega)) (by omega)) (by omega)) (by omega)) ?_
  show pw pP mHostB_init (54, [some (.inr (some (92))), some (.inr (some (2))), some (.inl (rm)), some (.inl (tk)), some (.inl (nI (0)))], [.inr (some (95)), .inl (nI (0)), .inr (some (93))], 3, 407, hb ((sL L).take (96)) (up2 (up2 F (92) (1) (rm)) (92) (2) (tk)) G R (up2 (up2 (up2 O (92) (3) ((some (93)))) (92) (4) ((some (94)))) (92) (0) ((some (2))))) _
  refine pw_dup rfl ?_
  refine pw_calli (as := [.inr (some (95))]) (rest := [.inr (some (95)), .inl (nI (0)), .inr (some (93))]) rfl rfl (by decide) (Nat.le_of_ble_eq_true rfl) (Nat.le_of_ble_eq_true rfl) (Nat.le_of_ble_eq_true rfl) (Nat.le_of_ble_eq_true rfl) rfl rfl rfl ?_
  refine i_arr (e := 95) (by omega) rfl rfl (fz_le (fz_F (fz_F (fz_O (fz_O (fz_O hz (by omega)) (by omega)) (by omega)) (by omega)) (by omega)) (by omega)) ?_
  show pw pP mHostB_init (58, [some (.inr (some (92))), some (.inr (some (2))), some (.inl (rm)), some (.inl (tk)), some (.inl (nI (0)))], [.inr (some (95)), .inl (nI (0)), .inr (some (93))], 4, 809, hb ((sL L).take (97)) (up2 (up2 F (92) (1) (rm)) (92) (2) (tk)) G R (iOa (up2 (up2 (up2 O (92) (3) ((some (93)))) (92) (4) ((some (94)))) (92) (0) ((some (2)))) (95))) _
  refine px_aastn rfl (tk_at rfl (by omega)) (tk_at rfl (by omega)) rfl (by decide) (by decide) ?_
  refine pw_iinc (v := nI (1)) (ls1 := [some (.inr (some (92))), some (.inr (some (2))), some (.inl (rm)), some (.inl (tk)), some (.inl (nI (1)))]) rfl rfl (iinc_n _) rfl ?_
  refine pw_goto (t := 39) rfl rfl ?_
  refine pw_iload rfl rfl ?_
  refine pw_iconst (v := nI (4)) rfl (by decide) ?_
  refine pw_if2 (t := 65) rfl rfl (fun q => absurd q (by decide)) (fun _ => ?_)
  refine pw_aload_n rfl rfl ?_
  refine px_getr (r := some (93)) rfl rfl (tk_at rfl (by omega)) rfl (rfl) ?_
  refine pw_iload rfl rfl ?_
  refine px_new rfl rfl rfl (Nat.le_of_ble_eq_true rfl) (Nat.le_of_ble_eq_true rfl) rfl (by omega) rfl (fz_le (fz_R (i_arr_fz (L := L) (e := 95) (fz_le (fz_F (fz_F (fz_O (fz_O (fz_O hz (by omega)) (by omega)) (by omega)) (by omega)) (by omega)) (by omega))) (by omega)) (by omega)) ?_
  show pw pP mHostB_init (54, [some (.inr (some (92))), some (.inr (some (2))), some (.inl (rm)), some (.inl (tk)), some (.inl (nI (1)))], [.inr (some (97)), .inl (nI (1)), .inr (some (93))], 5, 811, hb ((sL L).take (98)) (up2 (up2 F (92) (1) (rm)) (92) (2) (tk)) G (up2 R (93) (0) ((some (95)))) (iOa (up2 (up2 (up2 O (92) (3) ((some (93)))) (92) (4) ((some (94)))) (92) (0) ((some (2)))) (95))) _
  refine pw_dup rfl ?_
  refine pw_calli (as := [.inr (some (97))]) (rest := [.inr (some (97)), .inl (nI (1)), .inr (some (93))]) rfl rfl (by decide) (Nat.le_of_ble_eq_true rfl) (Nat.le_of_ble_eq_true rfl) (Nat.le_of_ble_eq_true rfl) (Nat.le_of_ble_eq_true rfl) rfl rfl rfl ?_
  refine i_arr (e := 97) (by omega) rfl rfl (fz_le (fz_R (i_arr_fz (L := L) (e := 95) (fz_le (fz_F (fz_F (fz_O (fz_O (fz_O hz (by omega)) (by omega)) (by omega)) (by omega)) (by omega)) (by omega))) (by omega)) (by omega)) ?_
  show pw pP mHostB_init (58, [some (.inr (some (92))), some (.inr (some (2))), some (.inl (rm)), some (.inl (tk)), some (.inl (nI (1)))], [.inr (some (97)), .inl (nI (1)), .inr (some (93))], 6, 1213, hb ((sL L).take (99)) (up2 (up2 F (92) (1) (rm)) (92) (2) (tk)) G (up2 R (93) (0) ((some (95)))) (iOa (iOa (up2 (up2 (up2 O (92) (3) ((some (93)))) (92) (4) ((some (94)))) (92) (0) ((some (2)))) (95)) (97))) _
  refine px_aastn rfl (tk_at rfl (by omega)) (tk_at rfl (by omega)) rfl (by decide) (by decide) ?_
  refine pw_iinc (v := nI (2)) (ls1 := [some (.inr (some (92))), some (.inr (some (2))), some (.inl (rm)), some (.inl (tk)), some (.inl (nI (2)))]) rfl rfl (iinc_n _) rfl ?_
  refine pw_goto (t := 39) rfl rfl ?_
  refine pw_iload rfl rfl ?_
  refine pw_iconst (v := nI (4)) rfl (by decide) ?_
  refine pw_if2 (t := 65) rfl rfl (fun q => absurd q (by decide)) (fun _ => ?_)
  refine pw_aload_n rfl rfl ?_
  refine px_getr (r := some (93)) rfl rfl (tk_at rfl (by omega)) rfl (rfl) ?_
  refine pw_iload rfl rfl ?_
  refine px_new rfl rfl rfl (Nat.le_of_ble_eq_true rfl) (Nat.le_of_ble_eq_true rfl) rfl (by omega) rfl (fz_le (fz_R (i_arr_fz (L := L) (e := 97) (fz_le (fz_R (i_arr_fz (L := L) (e := 95) (fz_le (fz_F (fz_F (fz_O (fz_O (fz_O hz (by omega)) (by omega)) (by omega)) (by omega)) (by omega)) (by omega))) (by omega)) (by omega))) (by omega)) (by omega)) ?_
  show pw pP mHostB_init (54, [some (.inr (some (92))), some (.inr (some (2))), some (.inl (rm)), some (.inl (tk)), some (.inl (nI (2)))], [.inr (some (99)), .inl (nI (2)), .inr (some (93))], 7, 1215, hb ((sL L).take (100)) (up2 (up2 F (92) (1) (rm)) (92) (2) (tk)) G (up2 (up2 R (93) (0) ((some (95)))) (93) (1) ((some (97)))) (iOa (iOa (up2 (up2 (up2 O (92) (3) ((some (93)))) (92) (4) ((some (94)))) (92) (0) ((some (2)))) (95)) (97))) _
  refine pw_dup rfl ?_
  refine pw_calli (as := [.inr (some (99))]) (rest := [.inr (some (99)), .inl (nI (2)), .inr (some (93))]) rfl rfl (by decide) (Nat.le_of_ble_eq_true rfl) (Nat.le_of_ble_eq_true rfl) (Nat.le_of_ble_eq_true rfl) (Nat.le_of_ble_eq_true rfl) rfl rfl rfl ?_
  refine i_arr (e := 99) (by omega) rfl rfl (fz_le (fz_R (i_arr_fz (L := L) (e := 97) (fz_le (fz_R (i_arr_fz (L := L) (e := 95) (fz_le (fz_F (fz_F (fz_O (fz_O (fz_O hz (by omega)) (by omega)) (by omega)) (by omega)) (by omega)) (by omega))) (by omega)) (by omega))) (by omega)) (by omega)) ?_
  show pw pP mHostB_init (58, [some (.inr (some (92))), some (.inr (some (2))), some (.inl (rm)), some (.inl (tk)), some (.inl (nI (2)))], [.inr (some (99)), .inl (nI (2)), .inr (some (93))], 8, 1617, hb ((sL L).take (101)) (up2 (up2 F (92) (1) (rm)) (92) (2) (tk)) G (up2 (up2 R (93) (0) ((some (95)))) (93) (1) ((some (97)))) (iOa (iOa (iOa (up2 (up2 (up2 O (92) (3) ((some (93)))) (92) (4) ((some (94)))) (92) (0) ((some (2)))) (95)) (97)) (99))) _
  refine px_aastn rfl (tk_at rfl (by omega)) (tk_at rfl (by omega)) rfl (by decide) (by decide) ?_
  refine pw_iinc (v := nI (3)) (ls1 := [some (.inr (some (92))), some (.inr (some (2))), some (.inl (rm)), some (.inl (tk)), some (.inl (nI (3)))]) rfl rfl (iinc_n _) rfl ?_
  refine pw_goto (t := 39) rfl rfl ?_
  refine pw_iload rfl rfl ?_
  refine pw_iconst (v := nI (4)) rfl (by decide) ?_
  refine pw_if2 (t := 65) rfl rfl (fun q => absurd q (by decide)) (fun _ => ?_)
  refine pw_aload_n rfl rfl ?_
  refine px_getr (r := some (93)) rfl rfl (tk_at rfl (by omega)) rfl (rfl) ?_
  refine pw_iload rfl rfl ?_
  refine px_new rfl rfl rfl (Nat.le_of_ble_eq_true rfl) (Nat.le_of_ble_eq_true rfl) rfl (by omega) rfl (fz_le (fz_R (i_arr_fz (L := L) (e := 99) (fz_le (fz_R (i_arr_fz (L := L) (e := 97) (fz_le (fz_R (i_arr_fz (L := L) (e := 95) (fz_le (fz_F (fz_F (fz_O (fz_O (fz_O hz (by omega)) (by omega)) (by omega)) (by omega)) (by omega)) (by omega))) (by omega)) (by omega))) (by omega)) (by omega))) (by omega)) (by omega)) ?_
  show pw pP mHostB_init (54, [some (.inr (some (92))), some (.inr (some (2))), some (.inl (rm)), some (.inl (tk)), some (.inl (nI (3)))], [.inr (some (101)), .inl (nI (3)), .inr (some (93))], 9, 1619, hb ((sL L).take (102)) (up2 (up2 F (92) (1) (rm)) (92) (2) (tk)) G (up2 (up2 (up2 R (93) (0) ((some (95)))) (93) (1) ((some (97)))) (93) (2) ((some (99)))) (iOa (iOa (iOa (up2 (up2 (up2 O (92) (3) ((some (93)))) (92) (4) ((some (94)))) (92) (0) ((some (2)))) (95)) (97)) (99))) _
  refine pw_dup rfl ?_
  refine pw_calli (as := [.inr (some (101))]) (rest := [.inr (some (101)), .inl (nI (3)), .inr (some (93))]) rfl rfl (by decide) (Nat.le_of_ble_eq_true rfl) (Nat.le_of_ble_eq_true rfl) (Nat.le_of_ble_eq_true rfl) (Nat.le_of_ble_eq_true rfl) rfl rfl rfl ?_
  refine i_arr (e := 101) (by omega) rfl rfl (fz_le (fz_R (i_arr_fz (L := L) (e := 99) (fz_le (fz_R (i_arr_fz (L := L) (e := 97) (fz_le (fz_R (i_arr_fz (L := L) (e := 95) (fz_le (fz_F (fz_F (fz_O (fz_O (fz_O hz (by omega)) (by omega)) (by omega)) (by omega)) (by omega)) (by omega))) (by omega)) (by omega))) (by omega)) (by omega))) (by omega)) (by omega)) ?_
  show pw pP mHostB_init (58, [some (.inr (some (92))), some (.inr (some (2))), some (.inl (rm)), some (.inl (tk)), some (.inl (nI (3)))], [.inr (some (101)), .inl (nI (3)), .inr (some (93))], 10, 2021, hb ((sL L).take (103)) (up2 (up2 F (92) (1) (rm)) (92) (2) (tk)) G (up2 (up2 (up2 R (93) (0) ((some (95)))) (93) (1) ((some (97)))) (93) (2) ((some (99)))) (iOa (iOa (iOa (iOa (up2 (up2 (up2 O (92) (3) ((some (93)))) (92) (4) ((some (94)))) (92) (0) ((some (2)))) (95)) (97)) (99)) (101))) _
  refine px_aastn rfl (tk_at rfl (by omega)) (tk_at rfl (by omega)) rfl (by decide) (by decide) ?_
  refine pw_iinc (v := nI (4)) (ls1 := [some (.inr (some (92))), some (.inr (some (2))), some (.inl (rm)), some (.inl (tk)), some (.inl (nI (4)))]) rfl rfl (iinc_n _) rfl ?_
  refine pw_goto (t := 39) rfl rfl ?_
  refine pw_iload rfl rfl ?_
  refine pw_iconst (v := nI (4)) rfl (by decide) ?_
  refine pw_if2 (t := 65) rfl rfl (fun _ => ?_) (fun q => absurd q (by decide))
  exact pw_vret rfl rfl (Nat.le_of_ble_eq_true rfl) (Nat.le_of_ble_eq_true rfl) k
theorem i_hostb_fz {L : Nat} {rm tk : Int32} {F G : FN} {R O : RN} (hz : fz (93) F G R O) : fz (103) (iFhb F rm tk) G (iRhb R) (iOhb O) := by
  unfold iFhb iRhb iOhb
  exact fz_le (fz_R (i_arr_fz (L := L) (e := 101) (fz_le (fz_R (i_arr_fz (L := L) (e := 99) (fz_le (fz_R (i_arr_fz (L := L) (e := 97) (fz_le (fz_R (i_arr_fz (L := L) (e := 95) (fz_le (fz_F (fz_F (fz_O (fz_O (fz_O hz (by omega)) (by omega)) (by omega)) (by omega)) (by omega)) (by omega))) (by omega)) (by omega))) (by omega)) (by omega))) (by omega)) (by omega))) (by omega)) (by omega)
def iFb (F : FN) (mss buf key : Int32) : FN := (up2 (iFhb (iFha (iFq (iFq (iFq (iFq (up2 F (1) (0) ((tokv key))) 0) 1) 2) 3) (cclamp_r mss (nI (1)) (nI (7))) (cclamp_r buf (nI (4)) (nI (56)))) (cclamp_r buf (nI (4)) (nI (56))) (tokv key)) (1) (5) (nI (0)))
def iRb (R : RN) : RN := (iRhb (up2 (iRq (up2 (iRq (up2 (iRq (up2 (iRq R 0) (4) (0) ((some (5)))) 1) (4) (1) ((some (26)))) 2) (4) (2) ((some (47)))) 3) (4) (3) ((some (68)))))
def iOb (O : RN) : RN := (up2 (iOhb (up2 (iOha (iOq (iOq (iOq (iOq (up2 (up2 (iOs O) (1) (1) ((some (2)))) (1) (2) ((some (4)))) 0) 1) 2) 3)) (1) (3) ((some (89))))) (1) (4) ((some (92))))
theorem i_sb {L : Nat} {mss buf key : Int32} {F G : FN} {R O : RN} (hz : fz 2 F G R O) {Q : Option PV → PH → Prop} (k : Q none (hb ((sL L).take (103)) (iFb F mss buf key) G (iRb R) (iOb O))) : pz pP mSB_init [.inr (some (1)), .inl (mss), .inl (buf), .inl (key)] (hb ((sL L).take (2)) F G R O) Q := by
  show pw pP mSB_init (0, [some (.inr (some (1))), some (.inl (mss)), some (.inl (buf)), some (.inl (key)), none, none], [], 0, 0, hb ((sL L).take (2)) F G R O) _
  refine pw_aload_n rfl rfl ?_
  refine pw_obj (i := 1) rfl rfl (Nat.le_of_ble_eq_true rfl) ?_
  refine pw_iload_n rfl rfl ?_
  refine pw_iconst (v := nI (4)) rfl (by decide) ?_
  refine pw_bipush (v := nI (56)) rfl (by decide) ?_
  refine pw_calls (as := [.inl (buf), .inl (nI (4)), .inl (nI (56))]) (rest := []) rfl rfl (by decide) rfl (Nat.le_of_ble_eq_true rfl) (Nat.le_of_ble_eq_true rfl) (Nat.le_of_ble_eq_true rfl) (Nat.le_of_ble_eq_true rfl) rfl rfl ?_
  refine i_clamp ?_
  show pw pP mSB_init (11, [some (.inr (some (1))), some (.inl (mss)), some (.inl (buf)), some (.inl (key)), none, none], [.inl ((cclamp_r buf (nI (4)) (nI (56))))], 0, 0, hb ((sL L).take (2)) F G R O) _
  refine pw_istore (ls1 := [some (.inr (some (1))), some (.inl (mss)), some (.inl (buf)), some (.inl (key)), some (.inl ((cclamp_r buf (nI (4)) (nI (56))))), none]) rfl (Nat.le_of_ble_eq_true rfl) rfl ?_
  refine pw_aload_n rfl rfl ?_
  refine pw_iload_n rfl rfl ?_
  refine pw_calls (as := [.inl (key)]) (rest := [.inr (some (1))]) rfl rfl (by decide) rfl (Nat.le_of_ble_eq_true rfl) (Nat.le_of_ble_eq_true rfl) (Nat.le_of_ble_eq_true rfl) (Nat.le_of_ble_eq_true rfl) rfl rfl ?_
  refine i_tok ?_
  show pw pP mSB_init (18, [some (.inr (some (1))), some (.inl (mss)), some (.inl (buf)), some (.inl (key)), some (.inl ((cclamp_r buf (nI (4)) (nI (56))))), none], [.inl ((tokv key)), .inr (some (1))], 0, 0, hb ((sL L).take (2)) F G R O) _
  refine px_put rfl rfl (tk_at rfl (by omega)) rfl rfl ?_
  refine pw_aload_n rfl rfl ?_
  refine px_new rfl rfl rfl (Nat.le_of_ble_eq_true rfl) (Nat.le_of_ble_eq_true rfl) rfl (by omega) rfl (fz_le (fz_F hz (by omega)) (by omega)) ?_
  show pw pP mSB_init (25, [some (.inr (some (1))), some (.inl (mss)), some (.inl (buf)), some (.inl (key)), some (.inl ((cclamp_r buf (nI (4)) (nI (56))))), none], [.inr (some (2)), .inr (some (1))], 1, 3, hb ((sL L).take (3)) (up2 F (1) (0) ((tokv key))) G R O) _
  refine pw_dup rfl ?_
  refine pw_calli (as := [.inr (some (2))]) (rest := [.inr (some (2)), .inr (some (1))]) rfl rfl (by decide) (Nat.le_of_ble_eq_true rfl) (Nat.le_of_ble_eq_true rfl) (Nat.le_of_ble_eq_true rfl) (Nat.le_of_ble_eq_true rfl) rfl rfl rfl ?_
  refine i_stream (fz_le (fz_F hz (by omega)) (by omega)) ?_
  show pw pP mSB_init (29, [some (.inr (some (1))), some (.inl (mss)), some (.inl (buf)), some (.inl (key)), some (.inl ((cclamp_r buf (nI (4)) (nI (56))))), none], [.inr (some (2)), .inr (some (1))], 2, 404, hb ((sL L).take (4)) (up2 F (1) (0) ((tokv key))) G R (iOs O)) _
  refine px_putr rfl rfl (tk_at rfl (by omega)) rfl rfl ?_
  refine pw_aload_n rfl rfl ?_
  refine pw_iconst (v := nI (4)) rfl (by decide) ?_
  refine px_newq rfl rfl rfl (by decide) (Nat.le_of_ble_eq_true rfl) (Nat.le_of_ble_eq_true rfl) (by omega) rfl (fz_le (fz_O (i_stream_fz (L := L) (fz_le (fz_F hz (by omega)) (by omega))) (by omega)) (by omega)) ?_
  show pw pP mSB_init (37, [some (.inr (some (1))), some (.inl (mss)), some (.inl (buf)), some (.inl (key)), some (.inl ((cclamp_r buf (nI (4)) (nI (56))))), none], [.inr (some (4)), .inr (some (1))], 3, 408, hb ((sL L).take (5)) (up2 F (1) (0) ((tokv key))) G R (up2 (iOs O) (1) (1) ((some (2))))) _
  refine px_putr rfl rfl (tk_at rfl (by omega)) rfl rfl ?_
  refine pw_iconst (v := nI (0)) rfl (by decide) ?_
  refine pw_istore (ls1 := [some (.inr (some (1))), some (.inl (mss)), some (.inl (buf)), some (.inl (key)), some (.inl ((cclamp_r buf (nI (4)) (nI (56))))), some (.inl (nI (0)))]) rfl (Nat.le_of_ble_eq_true rfl) rfl ?_
  refine pw_iload rfl rfl ?_
  refine pw_iconst (v := nI (4)) rfl (by decide) ?_
  refine pw_if2 (t := 69) rfl rfl (fun q => absurd q (by decide)) (fun _ => ?_)
  refine pw_aload_n rfl rfl ?_
  refine px_getr (r := some (4)) rfl rfl (tk_at rfl (by omega)) rfl (up2_eq) ?_
  refine pw_iload rfl rfl ?_
  refine px_new rfl rfl rfl (Nat.le_of_ble_eq_true rfl) (Nat.le_of_ble_eq_true rfl) rfl (by omega) rfl (fz_le (fz_O (fz_O (i_stream_fz (L := L) (fz_le (fz_F hz (by omega)) (by omega))) (by omega)) (by omega)) (by omega)) ?_
  show pw pP mSB_init (58, [some (.inr (some (1))), some (.inl (mss)), some (.inl (buf)), some (.inl (key)), some (.inl ((cclamp_r buf (nI (4)) (nI (56))))), some (.inl (nI (0)))], [.inr (some (5)), .inl (nI (0)), .inr (some (4))], 4, 422, hb ((sL L).take (6)) (up2 F (1) (0) ((tokv key))) G R (up2 (up2 (iOs O) (1) (1) ((some (2)))) (1) (2) ((some (4))))) _
  refine pw_dup rfl ?_
  refine pw_calli (as := [.inr (some (5))]) (rest := [.inr (some (5)), .inl (nI (0)), .inr (some (4))]) rfl rfl (by decide) (Nat.le_of_ble_eq_true rfl) (Nat.le_of_ble_eq_true rfl) (Nat.le_of_ble_eq_true rfl) (Nat.le_of_ble_eq_true rfl) rfl rfl rfl ?_
  refine i_path (p := 0) (by omega) (fz_le (fz_O (fz_O (i_stream_fz (L := L) (fz_le (fz_F hz (by omega)) (by omega))) (by omega)) (by omega)) (by omega)) ?_
  show pw pP mSB_init (62, [some (.inr (some (1))), some (.inl (mss)), some (.inl (buf)), some (.inl (key)), some (.inl ((cclamp_r buf (nI (4)) (nI (56))))), some (.inl (nI (0)))], [.inr (some (5)), .inl (nI (0)), .inr (some (4))], 24, 531, hb ((sL L).take (26)) (iFq (up2 F (1) (0) ((tokv key))) 0) G (iRq R 0) (iOq (up2 (up2 (iOs O) (1) (1) ((some (2)))) (1) (2) ((some (4)))) 0)) _
  refine px_aastn rfl (tk_at rfl (by omega)) (tk_at rfl (by omega)) rfl (by decide) (by decide) ?_
  refine pw_iinc (v := nI (1)) (ls1 := [some (.inr (some (1))), some (.inl (mss)), some (.inl (buf)), some (.inl (key)), some (.inl ((cclamp_r buf (nI (4)) (nI (56))))), some (.inl (nI (1)))]) rfl rfl (iinc_n _) rfl ?_
  refine pw_goto (t := 43) rfl rfl ?_
  refine pw_iload rfl rfl ?_
  refine pw_iconst (v := nI (4)) rfl (by decide) ?_
  refine pw_if2 (t := 69) rfl rfl (fun q => absurd q (by decide)) (fun _ => ?_)
  refine pw_aload_n rfl rfl ?_
  refine px_getr (r := some (4)) rfl rfl (tk_at rfl (by omega)) rfl (rfl) ?_
  refine pw_iload rfl rfl ?_
  refine px_new rfl rfl rfl (Nat.le_of_ble_eq_true rfl) (Nat.le_of_ble_eq_true rfl) rfl (by omega) rfl (fz_le (fz_R (iq_fz (p := 0) (fz_le (fz_O (fz_O (i_stream_fz (L := L) (fz_le (fz_F hz (by omega)) (by omega))) (by omega)) (by omega)) (by omega))) (by omega)) (by omega)) ?_
  show pw pP mSB_init (58, [some (.inr (some (1))), some (.inl (mss)), some (.inl (buf)), some (.inl (key)), some (.inl ((cclamp_r buf (nI (4)) (nI (56))))), some (.inl (nI (1)))], [.inr (some (26)), .inl (nI (1)), .inr (some (4))], 25, 545, hb ((sL L).take (27)) (iFq (up2 F (1) (0) ((tokv key))) 0) G (up2 (iRq R 0) (4) (0) ((some (5)))) (iOq (up2 (up2 (iOs O) (1) (1) ((some (2)))) (1) (2) ((some (4)))) 0)) _
  refine pw_dup rfl ?_
  refine pw_calli (as := [.inr (some (26))]) (rest := [.inr (some (26)), .inl (nI (1)), .inr (some (4))]) rfl rfl (by decide) (Nat.le_of_ble_eq_true rfl) (Nat.le_of_ble_eq_true rfl) (Nat.le_of_ble_eq_true rfl) (Nat.le_of_ble_eq_true rfl) rfl rfl rfl ?_
  refine i_path (p := 1) (by omega) (fz_le (fz_R (iq_fz (p := 0) (fz_le (fz_O (fz_O (i_stream_fz (L := L) (fz_le (fz_F hz (by omega)) (by omega))) (by omega)) (by omega)) (by omega))) (by omega)) (by omega)) ?_
  show pw pP mSB_init (62, [some (.inr (some (1))), some (.inl (mss)), some (.inl (buf)), some (.inl (key)), some (.inl ((cclamp_r buf (nI (4)) (nI (56))))), some (.inl (nI (1)))], [.inr (some (26)), .inl (nI (1)), .inr (some (4))], 45, 654, hb ((sL L).take (47)) (iFq (iFq (up2 F (1) (0) ((tokv key))) 0) 1) G (iRq (up2 (iRq R 0) (4) (0) ((some (5)))) 1) (iOq (iOq (up2 (up2 (iOs O) (1) (1) ((some (2)))) (1) (2) ((some (4)))) 0) 1)) _
  refine px_aastn rfl (tk_at rfl (by omega)) (tk_at rfl (by omega)) rfl (by decide) (by decide) ?_
  refine pw_iinc (v := nI (2)) (ls1 := [some (.inr (some (1))), some (.inl (mss)), some (.inl (buf)), some (.inl (key)), some (.inl ((cclamp_r buf (nI (4)) (nI (56))))), some (.inl (nI (2)))]) rfl rfl (iinc_n _) rfl ?_
  refine pw_goto (t := 43) rfl rfl ?_
  refine pw_iload rfl rfl ?_
  refine pw_iconst (v := nI (4)) rfl (by decide) ?_
  refine pw_if2 (t := 69) rfl rfl (fun q => absurd q (by decide)) (fun _ => ?_)
  refine pw_aload_n rfl rfl ?_
  refine px_getr (r := some (4)) rfl rfl (tk_at rfl (by omega)) rfl (rfl) ?_
  refine pw_iload rfl rfl ?_
  refine px_new rfl rfl rfl (Nat.le_of_ble_eq_true rfl) (Nat.le_of_ble_eq_true rfl) rfl (by omega) rfl (fz_le (fz_R (iq_fz (p := 1) (fz_le (fz_R (iq_fz (p := 0) (fz_le (fz_O (fz_O (i_stream_fz (L := L) (fz_le (fz_F hz (by omega)) (by omega))) (by omega)) (by omega)) (by omega))) (by omega)) (by omega))) (by omega)) (by omega)) ?_
  show pw pP mSB_init (58, [some (.inr (some (1))), some (.inl (mss)), some (.inl (buf)), some (.inl (key)), some (.inl ((cclamp_r buf (nI (4)) (nI (56))))), some (.inl (nI (2)))], [.inr (some (47)), .inl (nI (2)), .inr (some (4))], 46, 668, hb ((sL L).take (48)) (iFq (iFq (up2 F (1) (0) ((tokv key))) 0) 1) G (up2 (iRq (up2 (iRq R 0) (4) (0) ((some (5)))) 1) (4) (1) ((some (26)))) (iOq (iOq (up2 (up2 (iOs O) (1) (1) ((some (2)))) (1) (2) ((some (4)))) 0) 1)) _
  refine pw_dup rfl ?_
  refine pw_calli (as := [.inr (some (47))]) (rest := [.inr (some (47)), .inl (nI (2)), .inr (some (4))]) rfl rfl (by decide) (Nat.le_of_ble_eq_true rfl) (Nat.le_of_ble_eq_true rfl) (Nat.le_of_ble_eq_true rfl) (Nat.le_of_ble_eq_true rfl) rfl rfl rfl ?_
  refine i_path (p := 2) (by omega) (fz_le (fz_R (iq_fz (p := 1) (fz_le (fz_R (iq_fz (p := 0) (fz_le (fz_O (fz_O (i_stream_fz (L := L) (fz_le (fz_F hz (by omega)) (by omega))) (by omega)) (by omega)) (by omega))) (by omega)) (by omega))) (by omega)) (by omega)) ?_
  show pw pP mSB_init (62, [some (.inr (some (1))), some (.inl (mss)), some (.inl (buf)), some (.inl (key)), some (.inl ((cclamp_r buf (nI (4)) (nI (56))))), some (.inl (nI (2)))], [.inr (some (47)), .inl (nI (2)), .inr (some (4))], 66, 777, hb ((sL L).take (68)) (iFq (iFq (iFq (up2 F (1) (0) ((tokv key))) 0) 1) 2) G (iRq (up2 (iRq (up2 (iRq R 0) (4) (0) ((some (5)))) 1) (4) (1) ((some (26)))) 2) (iOq (iOq (iOq (up2 (up2 (iOs O) (1) (1) ((some (2)))) (1) (2) ((some (4)))) 0) 1) 2)) _
  refine px_aastn rfl (tk_at rfl (by omega)) (tk_at rfl (by omega)) rfl (by decide) (by decide) ?_
  refine pw_iinc (v := nI (3)) (ls1 := [some (.inr (some (1))), some (.inl (mss)), some (.inl (buf)), some (.inl (key)), some (.inl ((cclamp_r buf (nI (4)) (nI (56))))), some (.inl (nI (3)))]) rfl rfl (iinc_n _) rfl ?_
  refine pw_goto (t := 43) rfl rfl ?_
  refine pw_iload rfl rfl ?_
  refine pw_iconst (v := nI (4)) rfl (by decide) ?_
  refine pw_if2 (t := 69) rfl rfl (fun q => absurd q (by decide)) (fun _ => ?_)
  refine pw_aload_n rfl rfl ?_
  refine px_getr (r := some (4)) rfl rfl (tk_at rfl (by omega)) rfl (rfl) ?_
  refine pw_iload rfl rfl ?_
  refine px_new rfl rfl rfl (Nat.le_of_ble_eq_true rfl) (Nat.le_of_ble_eq_true rfl) rfl (by omega) rfl (fz_le (fz_R (iq_fz (p := 2) (fz_le (fz_R (iq_fz (p := 1) (fz_le (fz_R (iq_fz (p := 0) (fz_le (fz_O (fz_O (i_stream_fz (L := L) (fz_le (fz_F hz (by omega)) (by omega))) (by omega)) (by omega)) (by omega))) (by omega)) (by omega))) (by omega)) (by omega))) (by omega)) (by omega)) ?_
  show pw pP mSB_init (58, [some (.inr (some (1))), some (.inl (mss)), some (.inl (buf)), some (.inl (key)), some (.inl ((cclamp_r buf (nI (4)) (nI (56))))), some (.inl (nI (3)))], [.inr (some (68)), .inl (nI (3)), .inr (some (4))], 67, 791, hb ((sL L).take (69)) (iFq (iFq (iFq (up2 F (1) (0) ((tokv key))) 0) 1) 2) G (up2 (iRq (up2 (iRq (up2 (iRq R 0) (4) (0) ((some (5)))) 1) (4) (1) ((some (26)))) 2) (4) (2) ((some (47)))) (iOq (iOq (iOq (up2 (up2 (iOs O) (1) (1) ((some (2)))) (1) (2) ((some (4)))) 0) 1) 2)) _
  refine pw_dup rfl ?_
  refine pw_calli (as := [.inr (some (68))]) (rest := [.inr (some (68)), .inl (nI (3)), .inr (some (4))]) rfl rfl (by decide) (Nat.le_of_ble_eq_true rfl) (Nat.le_of_ble_eq_true rfl) (Nat.le_of_ble_eq_true rfl) (Nat.le_of_ble_eq_true rfl) rfl rfl rfl ?_
  refine i_path (p := 3) (by omega) (fz_le (fz_R (iq_fz (p := 2) (fz_le (fz_R (iq_fz (p := 1) (fz_le (fz_R (iq_fz (p := 0) (fz_le (fz_O (fz_O (i_stream_fz (L := L) (fz_le (fz_F hz (by omega)) (by omega))) (by omega)) (by omega)) (by omega))) (by omega)) (by omega))) (by omega)) (by omega))) (by omega)) (by omega)) ?_
  show pw pP mSB_init (62, [some (.inr (some (1))), some (.inl (mss)), some (.inl (buf)), some (.inl (key)), some (.inl ((cclamp_r buf (nI (4)) (nI (56))))), some (.inl (nI (3)))], [.inr (some (68)), .inl (nI (3)), .inr (some (4))], 87, 900, hb ((sL L).take (89)) (iFq (iFq (iFq (iFq (up2 F (1) (0) ((tokv key))) 0) 1) 2) 3) G (iRq (up2 (iRq (up2 (iRq (up2 (iRq R 0) (4) (0) ((some (5)))) 1) (4) (1) ((some (26)))) 2) (4) (2) ((some (47)))) 3) (iOq (iOq (iOq (iOq (up2 (up2 (iOs O) (1) (1) ((some (2)))) (1) (2) ((some (4)))) 0) 1) 2) 3)) _
  refine px_aastn rfl (tk_at rfl (by omega)) (tk_at rfl (by omega)) rfl (by decide) (by decide) ?_
  refine pw_iinc (v := nI (4)) (ls1 := [some (.inr (some (1))), some (.inl (mss)), some (.inl (buf)), some (.inl (key)), some (.inl ((cclamp_r buf (nI (4)) (nI (56))))), some (.inl (nI (4)))]) rfl rfl (iinc_n _) rfl ?_
  refine pw_goto (t := 43) rfl rfl ?_
  refine pw_iload rfl rfl ?_
  refine pw_iconst (v := nI (4)) rfl (by decide) ?_
  refine pw_if2 (t := 69) rfl rfl (fun _ => ?_) (fun q => absurd q (by decide))
  refine pw_aload_n rfl rfl ?_
  refine px_new rfl rfl rfl (Nat.le_of_ble_eq_true rfl) (Nat.le_of_ble_eq_true rfl) rfl (by omega) rfl (fz_le (fz_R (iq_fz (p := 3) (fz_le (fz_R (iq_fz (p := 2) (fz_le (fz_R (iq_fz (p := 1) (fz_le (fz_R (iq_fz (p := 0) (fz_le (fz_O (fz_O (i_stream_fz (L := L) (fz_le (fz_F hz (by omega)) (by omega))) (by omega)) (by omega)) (by omega))) (by omega)) (by omega))) (by omega)) (by omega))) (by omega)) (by omega))) (by omega)) (by omega)) ?_
  show pw pP mSB_init (73, [some (.inr (some (1))), some (.inl (mss)), some (.inl (buf)), some (.inl (key)), some (.inl ((cclamp_r buf (nI (4)) (nI (56))))), some (.inl (nI (4)))], [.inr (some (89)), .inr (some (1))], 88, 909, hb ((sL L).take (90)) (iFq (iFq (iFq (iFq (up2 F (1) (0) ((tokv key))) 0) 1) 2) 3) G (up2 (iRq (up2 (iRq (up2 (iRq (up2 (iRq R 0) (4) (0) ((some (5)))) 1) (4) (1) ((some (26)))) 2) (4) (2) ((some (47)))) 3) (4) (3) ((some (68)))) (iOq (iOq (iOq (iOq (up2 (up2 (iOs O) (1) (1) ((some (2)))) (1) (2) ((some (4)))) 0) 1) 2) 3)) _
  refine pw_dup rfl ?_
  refine pw_aload_n rfl rfl ?_
  refine px_getr (r := some (2)) rfl rfl (tk_at rfl (by omega)) rfl (rfl) ?_
  refine pw_aload_n rfl rfl ?_
  refine px_getr (r := some (4)) rfl rfl (tk_at rfl (by omega)) rfl (rfl) ?_
  refine pw_iload_n rfl rfl ?_
  refine pw_iconst (v := nI (1)) rfl (by decide) ?_
  refine pw_bipush (v := nI (7)) rfl (by decide) ?_
  refine pw_calls (as := [.inl (mss), .inl (nI (1)), .inl (nI (7))]) (rest := [.inr (some (4)), .inr (some (2)), .inr (some (89)), .inr (some (89)), .inr (some (1))]) rfl rfl (by decide) rfl (Nat.le_of_ble_eq_true rfl) (Nat.le_of_ble_eq_true rfl) (Nat.le_of_ble_eq_true rfl) (Nat.le_of_ble_eq_true rfl) rfl rfl ?_
  refine i_clamp ?_
  show pw pP mSB_init (89, [some (.inr (some (1))), some (.inl (mss)), some (.inl (buf)), some (.inl (key)), some (.inl ((cclamp_r buf (nI (4)) (nI (56))))), some (.inl (nI (4)))], [.inl ((cclamp_r mss (nI (1)) (nI (7)))), .inr (some (4)), .inr (some (2)), .inr (some (89)), .inr (some (89)), .inr (some (1))], 88, 909, hb ((sL L).take (90)) (iFq (iFq (iFq (iFq (up2 F (1) (0) ((tokv key))) 0) 1) 2) 3) G (up2 (iRq (up2 (iRq (up2 (iRq (up2 (iRq R 0) (4) (0) ((some (5)))) 1) (4) (1) ((some (26)))) 2) (4) (2) ((some (47)))) 3) (4) (3) ((some (68)))) (iOq (iOq (iOq (iOq (up2 (up2 (iOs O) (1) (1) ((some (2)))) (1) (2) ((some (4)))) 0) 1) 2) 3)) _
  refine pw_iload rfl rfl ?_
  refine pw_calli (as := [.inr (some (89)), .inr (some (2)), .inr (some (4)), .inl ((cclamp_r mss (nI (1)) (nI (7)))), .inl ((cclamp_r buf (nI (4)) (nI (56))))]) (rest := [.inr (some (89)), .inr (some (1))]) rfl rfl (by decide) (Nat.le_of_ble_eq_true rfl) (Nat.le_of_ble_eq_true rfl) (Nat.le_of_ble_eq_true rfl) (Nat.le_of_ble_eq_true rfl) rfl rfl rfl ?_
  refine i_hosta (fz_le (fz_R (iq_fz (p := 3) (fz_le (fz_R (iq_fz (p := 2) (fz_le (fz_R (iq_fz (p := 1) (fz_le (fz_R (iq_fz (p := 0) (fz_le (fz_O (fz_O (i_stream_fz (L := L) (fz_le (fz_F hz (by omega)) (by omega))) (by omega)) (by omega)) (by omega))) (by omega)) (by omega))) (by omega)) (by omega))) (by omega)) (by omega))) (by omega)) (by omega)) ?_
  show pw pP mSB_init (94, [some (.inr (some (1))), some (.inl (mss)), some (.inl (buf)), some (.inl (key)), some (.inl ((cclamp_r buf (nI (4)) (nI (56))))), some (.inl (nI (4)))], [.inr (some (89)), .inr (some (1))], 90, 1711, hb ((sL L).take (92)) (iFha (iFq (iFq (iFq (iFq (up2 F (1) (0) ((tokv key))) 0) 1) 2) 3) (cclamp_r mss (nI (1)) (nI (7))) (cclamp_r buf (nI (4)) (nI (56)))) G (up2 (iRq (up2 (iRq (up2 (iRq (up2 (iRq R 0) (4) (0) ((some (5)))) 1) (4) (1) ((some (26)))) 2) (4) (2) ((some (47)))) 3) (4) (3) ((some (68)))) (iOha (iOq (iOq (iOq (iOq (up2 (up2 (iOs O) (1) (1) ((some (2)))) (1) (2) ((some (4)))) 0) 1) 2) 3))) _
  refine px_putr rfl rfl (tk_at rfl (by omega)) rfl rfl ?_
  refine pw_aload_n rfl rfl ?_
  refine px_new rfl rfl rfl (Nat.le_of_ble_eq_true rfl) (Nat.le_of_ble_eq_true rfl) rfl (by omega) rfl (fz_le (fz_O (i_hosta_fz (L := L) (ms := (cclamp_r mss (nI (1)) (nI (7)))) (rm := (cclamp_r buf (nI (4)) (nI (56)))) (fz_le (fz_R (iq_fz (p := 3) (fz_le (fz_R (iq_fz (p := 2) (fz_le (fz_R (iq_fz (p := 1) (fz_le (fz_R (iq_fz (p := 0) (fz_le (fz_O (fz_O (i_stream_fz (L := L) (fz_le (fz_F hz (by omega)) (by omega))) (by omega)) (by omega)) (by omega))) (by omega)) (by omega))) (by omega)) (by omega))) (by omega)) (by omega))) (by omega)) (by omega))) (by omega)) (by omega)) ?_
  show pw pP mSB_init (101, [some (.inr (some (1))), some (.inl (mss)), some (.inl (buf)), some (.inl (key)), some (.inl ((cclamp_r buf (nI (4)) (nI (56))))), some (.inl (nI (4)))], [.inr (some (92)), .inr (some (1))], 91, 1719, hb ((sL L).take (93)) (iFha (iFq (iFq (iFq (iFq (up2 F (1) (0) ((tokv key))) 0) 1) 2) 3) (cclamp_r mss (nI (1)) (nI (7))) (cclamp_r buf (nI (4)) (nI (56)))) G (up2 (iRq (up2 (iRq (up2 (iRq (up2 (iRq R 0) (4) (0) ((some (5)))) 1) (4) (1) ((some (26)))) 2) (4) (2) ((some (47)))) 3) (4) (3) ((some (68)))) (up2 (iOha (iOq (iOq (iOq (iOq (up2 (up2 (iOs O) (1) (1) ((some (2)))) (1) (2) ((some (4)))) 0) 1) 2) 3)) (1) (3) ((some (89))))) _
  refine pw_dup rfl ?_
  refine pw_aload_n rfl rfl ?_
  refine px_getr (r := some (2)) rfl rfl (tk_at rfl (by omega)) rfl (rfl) ?_
  refine pw_iload rfl rfl ?_
  refine pw_aload_n rfl rfl ?_
  refine px_getv (x := (tokv key)) rfl rfl (tk_at rfl (by omega)) rfl (rfl) ?_
  refine pw_calli (as := [.inr (some (92)), .inr (some (2)), .inl ((cclamp_r buf (nI (4)) (nI (56)))), .inl ((tokv key))]) (rest := [.inr (some (92)), .inr (some (1))]) rfl rfl (by decide) (Nat.le_of_ble_eq_true rfl) (Nat.le_of_ble_eq_true rfl) (Nat.le_of_ble_eq_true rfl) (Nat.le_of_ble_eq_true rfl) rfl rfl rfl ?_
  refine i_hostb (fz_le (fz_O (i_hosta_fz (L := L) (ms := (cclamp_r mss (nI (1)) (nI (7)))) (rm := (cclamp_r buf (nI (4)) (nI (56)))) (fz_le (fz_R (iq_fz (p := 3) (fz_le (fz_R (iq_fz (p := 2) (fz_le (fz_R (iq_fz (p := 1) (fz_le (fz_R (iq_fz (p := 0) (fz_le (fz_O (fz_O (i_stream_fz (L := L) (fz_le (fz_F hz (by omega)) (by omega))) (by omega)) (by omega)) (by omega))) (by omega)) (by omega))) (by omega)) (by omega))) (by omega)) (by omega))) (by omega)) (by omega))) (by omega)) (by omega)) ?_
  show pw pP mSB_init (115, [some (.inr (some (1))), some (.inl (mss)), some (.inl (buf)), some (.inl (key)), some (.inl ((cclamp_r buf (nI (4)) (nI (56))))), some (.inl (nI (4)))], [.inr (some (92)), .inr (some (1))], 101, 3740, hb ((sL L).take (103)) (iFhb (iFha (iFq (iFq (iFq (iFq (up2 F (1) (0) ((tokv key))) 0) 1) 2) 3) (cclamp_r mss (nI (1)) (nI (7))) (cclamp_r buf (nI (4)) (nI (56)))) (cclamp_r buf (nI (4)) (nI (56))) (tokv key)) G (iRhb (up2 (iRq (up2 (iRq (up2 (iRq (up2 (iRq R 0) (4) (0) ((some (5)))) 1) (4) (1) ((some (26)))) 2) (4) (2) ((some (47)))) 3) (4) (3) ((some (68))))) (iOhb (up2 (iOha (iOq (iOq (iOq (iOq (up2 (up2 (iOs O) (1) (1) ((some (2)))) (1) (2) ((some (4)))) 0) 1) 2) 3)) (1) (3) ((some (89)))))) _
  refine px_putr rfl rfl (tk_at rfl (by omega)) rfl rfl ?_
  refine pw_aload_n rfl rfl ?_
  refine pw_iconst (v := nI (0)) rfl (by decide) ?_
  refine px_put rfl rfl (tk_at rfl (by omega)) rfl rfl ?_
  exact pw_vret rfl rfl (Nat.le_of_ble_eq_true rfl) (Nat.le_of_ble_eq_true rfl) k
theorem i_sb_fz {L : Nat} {mss buf key : Int32} {F G : FN} {R O : RN} (hz : fz (2) F G R O) : fz (103) (iFb F mss buf key) G (iRb R) (iOb O) := by
  unfold iFb iRb iOb
  exact fz_le (fz_F (fz_O (i_hostb_fz (L := L) (rm := (cclamp_r buf (nI (4)) (nI (56)))) (tk := (tokv key)) (fz_le (fz_O (i_hosta_fz (L := L) (ms := (cclamp_r mss (nI (1)) (nI (7)))) (rm := (cclamp_r buf (nI (4)) (nI (56)))) (fz_le (fz_R (iq_fz (p := 3) (fz_le (fz_R (iq_fz (p := 2) (fz_le (fz_R (iq_fz (p := 1) (fz_le (fz_R (iq_fz (p := 0) (fz_le (fz_O (fz_O (i_stream_fz (L := L) (fz_le (fz_F hz (by omega)) (by omega))) (by omega)) (by omega)) (by omega))) (by omega)) (by omega))) (by omega)) (by omega))) (by omega)) (by omega))) (by omega)) (by omega))) (by omega)) (by omega))) (by omega)) (by omega)) (by omega)
def iOm (O : RN) : RN := (up2 (up2 (up2 (up2 (up2 (up2 (up2 (up2 (up2 (up2 (up2 (up2 (up2 (up2 (up2 (up2 (up2 (up2 (up2 (up2 (up2 (up2 (up2 (up2 (up2 (up2 (up2 O (103) (4) ((some (104)))) (103) (7) ((some (105)))) (103) (8) ((some (106)))) (103) (11) ((some (107)))) (103) (12) ((some (108)))) (103) (13) ((some (109)))) (103) (14) ((some (110)))) (103) (15) ((some (111)))) (103) (16) ((some (112)))) (103) (17) ((some (113)))) (103) (18) ((some (114)))) (103) (19) ((some (115)))) (103) (20) ((some (116)))) (103) (21) ((some (117)))) (103) (26) ((some (118)))) (103) (27) ((some (119)))) (103) (28) ((some (120)))) (103) (29) ((some (121)))) (103) (30) ((some (122)))) (103) (31) ((some (123)))) (103) (32) ((some (124)))) (103) (33) ((some (125)))) (103) (34) ((some (126)))) (103) (35) ((some (127)))) (103) (36) ((some (128)))) (103) (37) ((some (129)))) (103) (38) ((some (130))))
def tcl (x : Int32) (l m : Nat) : Int32 := if nI l ≤ x then (if x ≤ nI m then x else nI m) else nI l
theorem im_1 {mss buf key : Int32} {h : PH} {Q : Option PV → PH → Prop} (k : pw pP mSBModel_init (240, [some (.inr (some 103)), some (.inl mss), some (.inl buf), some (.inl key), none, none], [.inl (tcl mss 1 7), .inr (some 103)], 27, 11190, h) Q) : pw pP mSBModel_init (218, [some (.inr (some 103)), some (.inl mss), some (.inl buf), some (.inl key), none, none], [], 27, 11190, h) Q := by
  refine pw_aload_n rfl rfl ?_
  refine pw_iload_n rfl rfl ?_
  refine pw_iconst (v := nI 1) rfl (by decide) ?_
  refine pw_if2p (A := nI 1 ≤ mss) rfl rfl (t := 228) rfl (fun c1 => ?_) (fun c1 => ?_)
  · refine pw_iload_n rfl rfl ?_
    refine pw_bipush (v := nI 7) rfl (by decide) ?_
    refine pw_if2p (A := mss ≤ nI 7) rfl rfl (t := 239) rfl (fun c2 => ?_) (fun c2 => ?_)
    · refine pw_iload_n rfl rfl ?_
      rw [show tcl mss 1 7 = mss from (if_pos c1).trans (if_pos c2)] at k
      exact k
    · refine pw_bipush (v := nI 7) rfl (by decide) ?_
      refine pw_goto (t := 240) rfl rfl ?_
      rw [show tcl mss 1 7 = nI 7 from (if_pos c1).trans (if_neg c2)] at k
      exact k
  · refine pw_iconst (v := nI 1) rfl (by decide) ?_
    refine pw_goto (t := 240) rfl rfl ?_
    rw [show tcl mss 1 7 = nI 1 from if_neg c1] at k
    exact k
theorem im_2 {mss buf key : Int32} {h : PH} {Q : Option PV → PH → Prop} (k : pw pP mSBModel_init (265, [some (.inr (some 103)), some (.inl mss), some (.inl buf), some (.inl key), none, none], [.inl (tcl buf 4 56), .inr (some 103)], 27, 11190, h) Q) : pw pP mSBModel_init (243, [some (.inr (some 103)), some (.inl mss), some (.inl buf), some (.inl key), none, none], [], 27, 11190, h) Q := by
  refine pw_aload_n rfl rfl ?_
  refine pw_iload_n rfl rfl ?_
  refine pw_iconst (v := nI 4) rfl (by decide) ?_
  refine pw_if2p (A := nI 4 ≤ buf) rfl rfl (t := 253) rfl (fun c1 => ?_) (fun c1 => ?_)
  · refine pw_iload_n rfl rfl ?_
    refine pw_bipush (v := nI 56) rfl (by decide) ?_
    refine pw_if2p (A := buf ≤ nI 56) rfl rfl (t := 264) rfl (fun c2 => ?_) (fun c2 => ?_)
    · refine pw_iload_n rfl rfl ?_
      rw [show tcl buf 4 56 = buf from (if_pos c1).trans (if_pos c2)] at k
      exact k
    · refine pw_bipush (v := nI 56) rfl (by decide) ?_
      refine pw_goto (t := 265) rfl rfl ?_
      rw [show tcl buf 4 56 = nI 56 from (if_pos c1).trans (if_neg c2)] at k
      exact k
  · refine pw_iconst (v := nI 4) rfl (by decide) ?_
    refine pw_goto (t := 265) rfl rfl ?_
    rw [show tcl buf 4 56 = nI 4 from if_neg c1] at k
    exact k
def iFm (F : FN) (mss buf key : Int32) : FN := (up2 (up2 (up2 (up2 F (103) (0) (tcl mss 1 7)) (103) (1) (tcl buf 4 56)) (103) (2) (tokv key)) (103) (23) (tcl buf 4 56))
def iGm (G : FN) : FN := (up2 (up2 (up2 (up2 G (110) (0) (nI (16))) (110) (1) (nI (16))) (110) (2) (nI (16))) (110) (3) (nI (16)))
theorem i_model {L : Nat} {mss buf key : Int32} {F G : FN} {R O : RN} (hz : fz 104 F G R O) {Q : Option PV → PH → Prop} (k : Q none (hb ((sL L).take 131) (iFm F mss buf key) (iGm G) R (iOm O))) : pz pP mSBModel_init [.inr (some 103), .inl mss, .inl buf, .inl key] (hb ((sL L).take (104)) F G R O) Q := by
  show pw pP mSBModel_init (0, [some (.inr (some (103))), some (.inl (mss)), some (.inl (buf)), some (.inl (key)), none, none], [], 0, 0, hb ((sL L).take (104)) F G R O) _
  refine pw_aload_n rfl rfl ?_
  refine pw_obj (i := 103) rfl rfl (Nat.le_of_ble_eq_true rfl) ?_
  refine pw_aload_n rfl rfl ?_
  refine pw_sipush (v := nI (400)) rfl (by decide) ?_
  refine px_newa rfl rfl (by decide) (Nat.le_of_ble_eq_true rfl) (Nat.le_of_ble_eq_true rfl) (by omega) rfl (fz_le hz (by omega)) ?_
  show pw pP mSBModel_init (10, [some (.inr (some (103))), some (.inl (mss)), some (.inl (buf)), some (.inl (key)), none, none], [.inr (some (104)), .inr (some (103))], 1, 400, hb ((sL L).take (105)) F G R O) _
  refine px_putr rfl rfl (tk_at rfl (by omega)) rfl rfl ?_
  refine pw_aload_n rfl rfl ?_
  refine pw_sipush (v := nI (1608)) rfl (by decide) ?_
  refine px_newa rfl rfl (by decide) (Nat.le_of_ble_eq_true rfl) (Nat.le_of_ble_eq_true rfl) (by omega) rfl (fz_le (fz_O hz (by omega)) (by omega)) ?_
  show pw pP mSBModel_init (19, [some (.inr (some (103))), some (.inl (mss)), some (.inl (buf)), some (.inl (key)), none, none], [.inr (some (105)), .inr (some (103))], 2, 2008, hb ((sL L).take (106)) F G R (up2 O (103) (4) ((some (104))))) _
  refine px_putr rfl rfl (tk_at rfl (by omega)) rfl rfl ?_
  refine pw_aload_n rfl rfl ?_
  refine pw_sipush (v := nI (401)) rfl (by decide) ?_
  refine px_newa rfl rfl (by decide) (Nat.le_of_ble_eq_true rfl) (Nat.le_of_ble_eq_true rfl) (by omega) rfl (fz_le (fz_O (fz_O hz (by omega)) (by omega)) (by omega)) ?_
  show pw pP mSBModel_init (28, [some (.inr (some (103))), some (.inl (mss)), some (.inl (buf)), some (.inl (key)), none, none], [.inr (some (106)), .inr (some (103))], 3, 2409, hb ((sL L).take (107)) F G R (up2 (up2 O (103) (4) ((some (104)))) (103) (7) ((some (105))))) _
  refine px_putr rfl rfl (tk_at rfl (by omega)) rfl rfl ?_
  refine pw_aload_n rfl rfl ?_
  refine pw_iconst (v := nI (4)) rfl (by decide) ?_
  refine px_newa rfl rfl (by decide) (Nat.le_of_ble_eq_true rfl) (Nat.le_of_ble_eq_true rfl) (by omega) rfl (fz_le (fz_O (fz_O (fz_O hz (by omega)) (by omega)) (by omega)) (by omega)) ?_
  show pw pP mSBModel_init (35, [some (.inr (some (103))), some (.inl (mss)), some (.inl (buf)), some (.inl (key)), none, none], [.inr (some (107)), .inr (some (103))], 4, 2413, hb ((sL L).take (108)) F G R (up2 (up2 (up2 O (103) (4) ((some (104)))) (103) (7) ((some (105)))) (103) (8) ((some (106))))) _
  refine px_putr rfl rfl (tk_at rfl (by omega)) rfl rfl ?_
  refine pw_aload_n rfl rfl ?_
  refine pw_iconst (v := nI (4)) rfl (by decide) ?_
  refine px_newa rfl rfl (by decide) (Nat.le_of_ble_eq_true rfl) (Nat.le_of_ble_eq_true rfl) (by omega) rfl (fz_le (fz_O (fz_O (fz_O (fz_O hz (by omega)) (by omega)) (by omega)) (by omega)) (by omega)) ?_
  show pw pP mSBModel_init (42, [some (.inr (some (103))), some (.inl (mss)), some (.inl (buf)), some (.inl (key)), none, none], [.inr (some (108)), .inr (some (103))], 5, 2417, hb ((sL L).take (109)) F G R (up2 (up2 (up2 (up2 O (103) (4) ((some (104)))) (103) (7) ((some (105)))) (103) (8) ((some (106)))) (103) (11) ((some (107))))) _
  refine px_putr rfl rfl (tk_at rfl (by omega)) rfl rfl ?_
  refine pw_aload_n rfl rfl ?_
  refine pw_iconst (v := nI (4)) rfl (by decide) ?_
  refine px_newa rfl rfl (by decide) (Nat.le_of_ble_eq_true rfl) (Nat.le_of_ble_eq_true rfl) (by omega) rfl (fz_le (fz_O (fz_O (fz_O (fz_O (fz_O hz (by omega)) (by omega)) (by omega)) (by omega)) (by omega)) (by omega)) ?_
  show pw pP mSBModel_init (49, [some (.inr (some (103))), some (.inl (mss)), some (.inl (buf)), some (.inl (key)), none, none], [.inr (some (109)), .inr (some (103))], 6, 2421, hb ((sL L).take (110)) F G R (up2 (up2 (up2 (up2 (up2 O (103) (4) ((some (104)))) (103) (7) ((some (105)))) (103) (8) ((some (106)))) (103) (11) ((some (107)))) (103) (12) ((some (108))))) _
  refine px_putr rfl rfl (tk_at rfl (by omega)) rfl rfl ?_
  refine pw_aload_n rfl rfl ?_
  refine pw_iconst (v := nI (4)) rfl (by decide) ?_
  refine px_newa rfl rfl (by decide) (Nat.le_of_ble_eq_true rfl) (Nat.le_of_ble_eq_true rfl) (by omega) rfl (fz_le (fz_O (fz_O (fz_O (fz_O (fz_O (fz_O hz (by omega)) (by omega)) (by omega)) (by omega)) (by omega)) (by omega)) (by omega)) ?_
  show pw pP mSBModel_init (56, [some (.inr (some (103))), some (.inl (mss)), some (.inl (buf)), some (.inl (key)), none, none], [.inr (some (110)), .inr (some (103))], 7, 2425, hb ((sL L).take (111)) F G R (up2 (up2 (up2 (up2 (up2 (up2 O (103) (4) ((some (104)))) (103) (7) ((some (105)))) (103) (8) ((some (106)))) (103) (11) ((some (107)))) (103) (12) ((some (108)))) (103) (13) ((some (109))))) _
  refine px_putr rfl rfl (tk_at rfl (by omega)) rfl rfl ?_
  refine pw_aload_n rfl rfl ?_
  refine pw_iconst (v := nI (4)) rfl (by decide) ?_
  refine px_newa rfl rfl (by decide) (Nat.le_of_ble_eq_true rfl) (Nat.le_of_ble_eq_true rfl) (by omega) rfl (fz_le (fz_O (fz_O (fz_O (fz_O (fz_O (fz_O (fz_O hz (by omega)) (by omega)) (by omega)) (by omega)) (by omega)) (by omega)) (by omega)) (by omega)) ?_
  show pw pP mSBModel_init (63, [some (.inr (some (103))), some (.inl (mss)), some (.inl (buf)), some (.inl (key)), none, none], [.inr (some (111)), .inr (some (103))], 8, 2429, hb ((sL L).take (112)) F G R (up2 (up2 (up2 (up2 (up2 (up2 (up2 O (103) (4) ((some (104)))) (103) (7) ((some (105)))) (103) (8) ((some (106)))) (103) (11) ((some (107)))) (103) (12) ((some (108)))) (103) (13) ((some (109)))) (103) (14) ((some (110))))) _
  refine px_putr rfl rfl (tk_at rfl (by omega)) rfl rfl ?_
  refine pw_aload_n rfl rfl ?_
  refine pw_iconst (v := nI (4)) rfl (by decide) ?_
  refine px_newa rfl rfl (by decide) (Nat.le_of_ble_eq_true rfl) (Nat.le_of_ble_eq_true rfl) (by omega) rfl (fz_le (fz_O (fz_O (fz_O (fz_O (fz_O (fz_O (fz_O (fz_O hz (by omega)) (by omega)) (by omega)) (by omega)) (by omega)) (by omega)) (by omega)) (by omega)) (by omega)) ?_
  show pw pP mSBModel_init (70, [some (.inr (some (103))), some (.inl (mss)), some (.inl (buf)), some (.inl (key)), none, none], [.inr (some (112)), .inr (some (103))], 9, 2433, hb ((sL L).take (113)) F G R (up2 (up2 (up2 (up2 (up2 (up2 (up2 (up2 O (103) (4) ((some (104)))) (103) (7) ((some (105)))) (103) (8) ((some (106)))) (103) (11) ((some (107)))) (103) (12) ((some (108)))) (103) (13) ((some (109)))) (103) (14) ((some (110)))) (103) (15) ((some (111))))) _
  refine px_putr rfl rfl (tk_at rfl (by omega)) rfl rfl ?_
  refine pw_aload_n rfl rfl ?_
  refine pw_iconst (v := nI (4)) rfl (by decide) ?_
  refine px_newa rfl rfl (by decide) (Nat.le_of_ble_eq_true rfl) (Nat.le_of_ble_eq_true rfl) (by omega) rfl (fz_le (fz_O (fz_O (fz_O (fz_O (fz_O (fz_O (fz_O (fz_O (fz_O hz (by omega)) (by omega)) (by omega)) (by omega)) (by omega)) (by omega)) (by omega)) (by omega)) (by omega)) (by omega)) ?_
  show pw pP mSBModel_init (77, [some (.inr (some (103))), some (.inl (mss)), some (.inl (buf)), some (.inl (key)), none, none], [.inr (some (113)), .inr (some (103))], 10, 2437, hb ((sL L).take (114)) F G R (up2 (up2 (up2 (up2 (up2 (up2 (up2 (up2 (up2 O (103) (4) ((some (104)))) (103) (7) ((some (105)))) (103) (8) ((some (106)))) (103) (11) ((some (107)))) (103) (12) ((some (108)))) (103) (13) ((some (109)))) (103) (14) ((some (110)))) (103) (15) ((some (111)))) (103) (16) ((some (112))))) _
  refine px_putr rfl rfl (tk_at rfl (by omega)) rfl rfl ?_
  refine pw_aload_n rfl rfl ?_
  refine pw_iconst (v := nI (4)) rfl (by decide) ?_
  refine px_newa rfl rfl (by decide) (Nat.le_of_ble_eq_true rfl) (Nat.le_of_ble_eq_true rfl) (by omega) rfl (fz_le (fz_O (fz_O (fz_O (fz_O (fz_O (fz_O (fz_O (fz_O (fz_O (fz_O hz (by omega)) (by omega)) (by omega)) (by omega)) (by omega)) (by omega)) (by omega)) (by omega)) (by omega)) (by omega)) (by omega)) ?_
  show pw pP mSBModel_init (84, [some (.inr (some (103))), some (.inl (mss)), some (.inl (buf)), some (.inl (key)), none, none], [.inr (some (114)), .inr (some (103))], 11, 2441, hb ((sL L).take (115)) F G R (up2 (up2 (up2 (up2 (up2 (up2 (up2 (up2 (up2 (up2 O (103) (4) ((some (104)))) (103) (7) ((some (105)))) (103) (8) ((some (106)))) (103) (11) ((some (107)))) (103) (12) ((some (108)))) (103) (13) ((some (109)))) (103) (14) ((some (110)))) (103) (15) ((some (111)))) (103) (16) ((some (112)))) (103) (17) ((some (113))))) _
  refine px_putr rfl rfl (tk_at rfl (by omega)) rfl rfl ?_
  refine pw_aload_n rfl rfl ?_
  refine pw_iconst (v := nI (4)) rfl (by decide) ?_
  refine px_newa rfl rfl (by decide) (Nat.le_of_ble_eq_true rfl) (Nat.le_of_ble_eq_true rfl) (by omega) rfl (fz_le (fz_O (fz_O (fz_O (fz_O (fz_O (fz_O (fz_O (fz_O (fz_O (fz_O (fz_O hz (by omega)) (by omega)) (by omega)) (by omega)) (by omega)) (by omega)) (by omega)) (by omega)) (by omega)) (by omega)) (by omega)) (by omega)) ?_
  show pw pP mSBModel_init (91, [some (.inr (some (103))), some (.inl (mss)), some (.inl (buf)), some (.inl (key)), none, none], [.inr (some (115)), .inr (some (103))], 12, 2445, hb ((sL L).take (116)) F G R (up2 (up2 (up2 (up2 (up2 (up2 (up2 (up2 (up2 (up2 (up2 O (103) (4) ((some (104)))) (103) (7) ((some (105)))) (103) (8) ((some (106)))) (103) (11) ((some (107)))) (103) (12) ((some (108)))) (103) (13) ((some (109)))) (103) (14) ((some (110)))) (103) (15) ((some (111)))) (103) (16) ((some (112)))) (103) (17) ((some (113)))) (103) (18) ((some (114))))) _
  refine px_putr rfl rfl (tk_at rfl (by omega)) rfl rfl ?_
  refine pw_aload_n rfl rfl ?_
  refine pw_iconst (v := nI (4)) rfl (by decide) ?_
  refine px_newa rfl rfl (by decide) (Nat.le_of_ble_eq_true rfl) (Nat.le_of_ble_eq_true rfl) (by omega) rfl (fz_le (fz_O (fz_O (fz_O (fz_O (fz_O (fz_O (fz_O (fz_O (fz_O (fz_O (fz_O (fz_O hz (by omega)) (by omega)) (by omega)) (by omega)) (by omega)) (by omega)) (by omega)) (by omega)) (by omega)) (by omega)) (by omega)) (by omega)) (by omega)) ?_
  show pw pP mSBModel_init (98, [some (.inr (some (103))), some (.inl (mss)), some (.inl (buf)), some (.inl (key)), none, none], [.inr (some (116)), .inr (some (103))], 13, 2449, hb ((sL L).take (117)) F G R (up2 (up2 (up2 (up2 (up2 (up2 (up2 (up2 (up2 (up2 (up2 (up2 O (103) (4) ((some (104)))) (103) (7) ((some (105)))) (103) (8) ((some (106)))) (103) (11) ((some (107)))) (103) (12) ((some (108)))) (103) (13) ((some (109)))) (103) (14) ((some (110)))) (103) (15) ((some (111)))) (103) (16) ((some (112)))) (103) (17) ((some (113)))) (103) (18) ((some (114)))) (103) (19) ((some (115))))) _
  refine px_putr rfl rfl (tk_at rfl (by omega)) rfl rfl ?_
  refine pw_aload_n rfl rfl ?_
  refine pw_iconst (v := nI (4)) rfl (by decide) ?_
  refine px_newa rfl rfl (by decide) (Nat.le_of_ble_eq_true rfl) (Nat.le_of_ble_eq_true rfl) (by omega) rfl (fz_le (fz_O (fz_O (fz_O (fz_O (fz_O (fz_O (fz_O (fz_O (fz_O (fz_O (fz_O (fz_O (fz_O hz (by omega)) (by omega)) (by omega)) (by omega)) (by omega)) (by omega)) (by omega)) (by omega)) (by omega)) (by omega)) (by omega)) (by omega)) (by omega)) (by omega)) ?_
  show pw pP mSBModel_init (105, [some (.inr (some (103))), some (.inl (mss)), some (.inl (buf)), some (.inl (key)), none, none], [.inr (some (117)), .inr (some (103))], 14, 2453, hb ((sL L).take (118)) F G R (up2 (up2 (up2 (up2 (up2 (up2 (up2 (up2 (up2 (up2 (up2 (up2 (up2 O (103) (4) ((some (104)))) (103) (7) ((some (105)))) (103) (8) ((some (106)))) (103) (11) ((some (107)))) (103) (12) ((some (108)))) (103) (13) ((some (109)))) (103) (14) ((some (110)))) (103) (15) ((some (111)))) (103) (16) ((some (112)))) (103) (17) ((some (113)))) (103) (18) ((some (114)))) (103) (19) ((some (115)))) (103) (20) ((some (116))))) _
  refine px_putr rfl rfl (tk_at rfl (by omega)) rfl rfl ?_
  refine pw_aload_n rfl rfl ?_
  refine pw_sipush (v := nI (1608)) rfl (by decide) ?_
  refine px_newa rfl rfl (by decide) (Nat.le_of_ble_eq_true rfl) (Nat.le_of_ble_eq_true rfl) (by omega) rfl (fz_le (fz_O (fz_O (fz_O (fz_O (fz_O (fz_O (fz_O (fz_O (fz_O (fz_O (fz_O (fz_O (fz_O (fz_O hz (by omega)) (by omega)) (by omega)) (by omega)) (by omega)) (by omega)) (by omega)) (by omega)) (by omega)) (by omega)) (by omega)) (by omega)) (by omega)) (by omega)) (by omega)) ?_
  show pw pP mSBModel_init (114, [some (.inr (some (103))), some (.inl (mss)), some (.inl (buf)), some (.inl (key)), none, none], [.inr (some (118)), .inr (some (103))], 15, 4061, hb ((sL L).take (119)) F G R (up2 (up2 (up2 (up2 (up2 (up2 (up2 (up2 (up2 (up2 (up2 (up2 (up2 (up2 O (103) (4) ((some (104)))) (103) (7) ((some (105)))) (103) (8) ((some (106)))) (103) (11) ((some (107)))) (103) (12) ((some (108)))) (103) (13) ((some (109)))) (103) (14) ((some (110)))) (103) (15) ((some (111)))) (103) (16) ((some (112)))) (103) (17) ((some (113)))) (103) (18) ((some (114)))) (103) (19) ((some (115)))) (103) (20) ((some (116)))) (103) (21) ((some (117))))) _
  refine px_putr rfl rfl (tk_at rfl (by omega)) rfl rfl ?_
  refine pw_aload_n rfl rfl ?_
  refine pw_sipush (v := nI (1608)) rfl (by decide) ?_
  refine px_newa rfl rfl (by decide) (Nat.le_of_ble_eq_true rfl) (Nat.le_of_ble_eq_true rfl) (by omega) rfl (fz_le (fz_O (fz_O (fz_O (fz_O (fz_O (fz_O (fz_O (fz_O (fz_O (fz_O (fz_O (fz_O (fz_O (fz_O (fz_O hz (by omega)) (by omega)) (by omega)) (by omega)) (by omega)) (by omega)) (by omega)) (by omega)) (by omega)) (by omega)) (by omega)) (by omega)) (by omega)) (by omega)) (by omega)) (by omega)) ?_
  show pw pP mSBModel_init (123, [some (.inr (some (103))), some (.inl (mss)), some (.inl (buf)), some (.inl (key)), none, none], [.inr (some (119)), .inr (some (103))], 16, 5669, hb ((sL L).take (120)) F G R (up2 (up2 (up2 (up2 (up2 (up2 (up2 (up2 (up2 (up2 (up2 (up2 (up2 (up2 (up2 O (103) (4) ((some (104)))) (103) (7) ((some (105)))) (103) (8) ((some (106)))) (103) (11) ((some (107)))) (103) (12) ((some (108)))) (103) (13) ((some (109)))) (103) (14) ((some (110)))) (103) (15) ((some (111)))) (103) (16) ((some (112)))) (103) (17) ((some (113)))) (103) (18) ((some (114)))) (103) (19) ((some (115)))) (103) (20) ((some (116)))) (103) (21) ((some (117)))) (103) (26) ((some (118))))) _
  refine px_putr rfl rfl (tk_at rfl (by omega)) rfl rfl ?_
  refine pw_aload_n rfl rfl ?_
  refine pw_sipush (v := nI (1608)) rfl (by decide) ?_
  refine px_newa rfl rfl (by decide) (Nat.le_of_ble_eq_true rfl) (Nat.le_of_ble_eq_true rfl) (by omega) rfl (fz_le (fz_O (fz_O (fz_O (fz_O (fz_O (fz_O (fz_O (fz_O (fz_O (fz_O (fz_O (fz_O (fz_O (fz_O (fz_O (fz_O hz (by omega)) (by omega)) (by omega)) (by omega)) (by omega)) (by omega)) (by omega)) (by omega)) (by omega)) (by omega)) (by omega)) (by omega)) (by omega)) (by omega)) (by omega)) (by omega)) (by omega)) ?_
  show pw pP mSBModel_init (132, [some (.inr (some (103))), some (.inl (mss)), some (.inl (buf)), some (.inl (key)), none, none], [.inr (some (120)), .inr (some (103))], 17, 7277, hb ((sL L).take (121)) F G R (up2 (up2 (up2 (up2 (up2 (up2 (up2 (up2 (up2 (up2 (up2 (up2 (up2 (up2 (up2 (up2 O (103) (4) ((some (104)))) (103) (7) ((some (105)))) (103) (8) ((some (106)))) (103) (11) ((some (107)))) (103) (12) ((some (108)))) (103) (13) ((some (109)))) (103) (14) ((some (110)))) (103) (15) ((some (111)))) (103) (16) ((some (112)))) (103) (17) ((some (113)))) (103) (18) ((some (114)))) (103) (19) ((some (115)))) (103) (20) ((some (116)))) (103) (21) ((some (117)))) (103) (26) ((some (118)))) (103) (27) ((some (119))))) _
  refine px_putr rfl rfl (tk_at rfl (by omega)) rfl rfl ?_
  refine pw_aload_n rfl rfl ?_
  refine pw_sipush (v := nI (1608)) rfl (by decide) ?_
  refine px_newa rfl rfl (by decide) (Nat.le_of_ble_eq_true rfl) (Nat.le_of_ble_eq_true rfl) (by omega) rfl (fz_le (fz_O (fz_O (fz_O (fz_O (fz_O (fz_O (fz_O (fz_O (fz_O (fz_O (fz_O (fz_O (fz_O (fz_O (fz_O (fz_O (fz_O hz (by omega)) (by omega)) (by omega)) (by omega)) (by omega)) (by omega)) (by omega)) (by omega)) (by omega)) (by omega)) (by omega)) (by omega)) (by omega)) (by omega)) (by omega)) (by omega)) (by omega)) (by omega)) ?_
  show pw pP mSBModel_init (141, [some (.inr (some (103))), some (.inl (mss)), some (.inl (buf)), some (.inl (key)), none, none], [.inr (some (121)), .inr (some (103))], 18, 8885, hb ((sL L).take (122)) F G R (up2 (up2 (up2 (up2 (up2 (up2 (up2 (up2 (up2 (up2 (up2 (up2 (up2 (up2 (up2 (up2 (up2 O (103) (4) ((some (104)))) (103) (7) ((some (105)))) (103) (8) ((some (106)))) (103) (11) ((some (107)))) (103) (12) ((some (108)))) (103) (13) ((some (109)))) (103) (14) ((some (110)))) (103) (15) ((some (111)))) (103) (16) ((some (112)))) (103) (17) ((some (113)))) (103) (18) ((some (114)))) (103) (19) ((some (115)))) (103) (20) ((some (116)))) (103) (21) ((some (117)))) (103) (26) ((some (118)))) (103) (27) ((some (119)))) (103) (28) ((some (120))))) _
  refine px_putr rfl rfl (tk_at rfl (by omega)) rfl rfl ?_
  refine pw_aload_n rfl rfl ?_
  refine pw_sipush (v := nI (1608)) rfl (by decide) ?_
  refine px_newa rfl rfl (by decide) (Nat.le_of_ble_eq_true rfl) (Nat.le_of_ble_eq_true rfl) (by omega) rfl (fz_le (fz_O (fz_O (fz_O (fz_O (fz_O (fz_O (fz_O (fz_O (fz_O (fz_O (fz_O (fz_O (fz_O (fz_O (fz_O (fz_O (fz_O (fz_O hz (by omega)) (by omega)) (by omega)) (by omega)) (by omega)) (by omega)) (by omega)) (by omega)) (by omega)) (by omega)) (by omega)) (by omega)) (by omega)) (by omega)) (by omega)) (by omega)) (by omega)) (by omega)) (by omega)) ?_
  show pw pP mSBModel_init (150, [some (.inr (some (103))), some (.inl (mss)), some (.inl (buf)), some (.inl (key)), none, none], [.inr (some (122)), .inr (some (103))], 19, 10493, hb ((sL L).take (123)) F G R (up2 (up2 (up2 (up2 (up2 (up2 (up2 (up2 (up2 (up2 (up2 (up2 (up2 (up2 (up2 (up2 (up2 (up2 O (103) (4) ((some (104)))) (103) (7) ((some (105)))) (103) (8) ((some (106)))) (103) (11) ((some (107)))) (103) (12) ((some (108)))) (103) (13) ((some (109)))) (103) (14) ((some (110)))) (103) (15) ((some (111)))) (103) (16) ((some (112)))) (103) (17) ((some (113)))) (103) (18) ((some (114)))) (103) (19) ((some (115)))) (103) (20) ((some (116)))) (103) (21) ((some (117)))) (103) (26) ((some (118)))) (103) (27) ((some (119)))) (103) (28) ((some (120)))) (103) (29) ((some (121))))) _
  refine px_putr rfl rfl (tk_at rfl (by omega)) rfl rfl ?_
  refine pw_aload_n rfl rfl ?_
  refine pw_sipush (v := nI (401)) rfl (by decide) ?_
  refine px_newa rfl rfl (by decide) (Nat.le_of_ble_eq_true rfl) (Nat.le_of_ble_eq_true rfl) (by omega) rfl (fz_le (fz_O (fz_O (fz_O (fz_O (fz_O (fz_O (fz_O (fz_O (fz_O (fz_O (fz_O (fz_O (fz_O (fz_O (fz_O (fz_O (fz_O (fz_O (fz_O hz (by omega)) (by omega)) (by omega)) (by omega)) (by omega)) (by omega)) (by omega)) (by omega)) (by omega)) (by omega)) (by omega)) (by omega)) (by omega)) (by omega)) (by omega)) (by omega)) (by omega)) (by omega)) (by omega)) (by omega)) ?_
  show pw pP mSBModel_init (159, [some (.inr (some (103))), some (.inl (mss)), some (.inl (buf)), some (.inl (key)), none, none], [.inr (some (123)), .inr (some (103))], 20, 10894, hb ((sL L).take (124)) F G R (up2 (up2 (up2 (up2 (up2 (up2 (up2 (up2 (up2 (up2 (up2 (up2 (up2 (up2 (up2 (up2 (up2 (up2 (up2 O (103) (4) ((some (104)))) (103) (7) ((some (105)))) (103) (8) ((some (106)))) (103) (11) ((some (107)))) (103) (12) ((some (108)))) (103) (13) ((some (109)))) (103) (14) ((some (110)))) (103) (15) ((some (111)))) (103) (16) ((some (112)))) (103) (17) ((some (113)))) (103) (18) ((some (114)))) (103) (19) ((some (115)))) (103) (20) ((some (116)))) (103) (21) ((some (117)))) (103) (26) ((some (118)))) (103) (27) ((some (119)))) (103) (28) ((some (120)))) (103) (29) ((some (121)))) (103) (30) ((some (122))))) _
  refine px_putr rfl rfl (tk_at rfl (by omega)) rfl rfl ?_
  refine pw_aload_n rfl rfl ?_
  refine pw_bipush (v := nI (8)) rfl (by decide) ?_
  refine px_newa rfl rfl (by decide) (Nat.le_of_ble_eq_true rfl) (Nat.le_of_ble_eq_true rfl) (by omega) rfl (fz_le (fz_O (fz_O (fz_O (fz_O (fz_O (fz_O (fz_O (fz_O (fz_O (fz_O (fz_O (fz_O (fz_O (fz_O (fz_O (fz_O (fz_O (fz_O (fz_O (fz_O hz (by omega)) (by omega)) (by omega)) (by omega)) (by omega)) (by omega)) (by omega)) (by omega)) (by omega)) (by omega)) (by omega)) (by omega)) (by omega)) (by omega)) (by omega)) (by omega)) (by omega)) (by omega)) (by omega)) (by omega)) (by omega)) ?_
  show pw pP mSBModel_init (167, [some (.inr (some (103))), some (.inl (mss)), some (.inl (buf)), some (.inl (key)), none, none], [.inr (some (124)), .inr (some (103))], 21, 10902, hb ((sL L).take (125)) F G R (up2 (up2 (up2 (up2 (up2 (up2 (up2 (up2 (up2 (up2 (up2 (up2 (up2 (up2 (up2 (up2 (up2 (up2 (up2 (up2 O (103) (4) ((some (104)))) (103) (7) ((some (105)))) (103) (8) ((some (106)))) (103) (11) ((some (107)))) (103) (12) ((some (108)))) (103) (13) ((some (109)))) (103) (14) ((some (110)))) (103) (15) ((some (111)))) (103) (16) ((some (112)))) (103) (17) ((some (113)))) (103) (18) ((some (114)))) (103) (19) ((some (115)))) (103) (20) ((some (116)))) (103) (21) ((some (117)))) (103) (26) ((some (118)))) (103) (27) ((some (119)))) (103) (28) ((some (120)))) (103) (29) ((some (121)))) (103) (30) ((some (122)))) (103) (31) ((some (123))))) _
  refine px_putr rfl rfl (tk_at rfl (by omega)) rfl rfl ?_
  refine pw_aload_n rfl rfl ?_
  refine pw_bipush (v := nI (48)) rfl (by decide) ?_
  refine px_newa rfl rfl (by decide) (Nat.le_of_ble_eq_true rfl) (Nat.le_of_ble_eq_true rfl) (by omega) rfl (fz_le (fz_O (fz_O (fz_O (fz_O (fz_O (fz_O (fz_O (fz_O (fz_O (fz_O (fz_O (fz_O (fz_O (fz_O (fz_O (fz_O (fz_O (fz_O (fz_O (fz_O (fz_O hz (by omega)) (by omega)) (by omega)) (by omega)) (by omega)) (by omega)) (by omega)) (by omega)) (by omega)) (by omega)) (by omega)) (by omega)) (by omega)) (by omega)) (by omega)) (by omega)) (by omega)) (by omega)) (by omega)) (by omega)) (by omega)) (by omega)) ?_
  show pw pP mSBModel_init (175, [some (.inr (some (103))), some (.inl (mss)), some (.inl (buf)), some (.inl (key)), none, none], [.inr (some (125)), .inr (some (103))], 22, 10950, hb ((sL L).take (126)) F G R (up2 (up2 (up2 (up2 (up2 (up2 (up2 (up2 (up2 (up2 (up2 (up2 (up2 (up2 (up2 (up2 (up2 (up2 (up2 (up2 (up2 O (103) (4) ((some (104)))) (103) (7) ((some (105)))) (103) (8) ((some (106)))) (103) (11) ((some (107)))) (103) (12) ((some (108)))) (103) (13) ((some (109)))) (103) (14) ((some (110)))) (103) (15) ((some (111)))) (103) (16) ((some (112)))) (103) (17) ((some (113)))) (103) (18) ((some (114)))) (103) (19) ((some (115)))) (103) (20) ((some (116)))) (103) (21) ((some (117)))) (103) (26) ((some (118)))) (103) (27) ((some (119)))) (103) (28) ((some (120)))) (103) (29) ((some (121)))) (103) (30) ((some (122)))) (103) (31) ((some (123)))) (103) (32) ((some (124))))) _
  refine px_putr rfl rfl (tk_at rfl (by omega)) rfl rfl ?_
  refine pw_aload_n rfl rfl ?_
  refine pw_bipush (v := nI (48)) rfl (by decide) ?_
  refine px_newa rfl rfl (by decide) (Nat.le_of_ble_eq_true rfl) (Nat.le_of_ble_eq_true rfl) (by omega) rfl (fz_le (fz_O (fz_O (fz_O (fz_O (fz_O (fz_O (fz_O (fz_O (fz_O (fz_O (fz_O (fz_O (fz_O (fz_O (fz_O (fz_O (fz_O (fz_O (fz_O (fz_O (fz_O (fz_O hz (by omega)) (by omega)) (by omega)) (by omega)) (by omega)) (by omega)) (by omega)) (by omega)) (by omega)) (by omega)) (by omega)) (by omega)) (by omega)) (by omega)) (by omega)) (by omega)) (by omega)) (by omega)) (by omega)) (by omega)) (by omega)) (by omega)) (by omega)) ?_
  show pw pP mSBModel_init (183, [some (.inr (some (103))), some (.inl (mss)), some (.inl (buf)), some (.inl (key)), none, none], [.inr (some (126)), .inr (some (103))], 23, 10998, hb ((sL L).take (127)) F G R (up2 (up2 (up2 (up2 (up2 (up2 (up2 (up2 (up2 (up2 (up2 (up2 (up2 (up2 (up2 (up2 (up2 (up2 (up2 (up2 (up2 (up2 O (103) (4) ((some (104)))) (103) (7) ((some (105)))) (103) (8) ((some (106)))) (103) (11) ((some (107)))) (103) (12) ((some (108)))) (103) (13) ((some (109)))) (103) (14) ((some (110)))) (103) (15) ((some (111)))) (103) (16) ((some (112)))) (103) (17) ((some (113)))) (103) (18) ((some (114)))) (103) (19) ((some (115)))) (103) (20) ((some (116)))) (103) (21) ((some (117)))) (103) (26) ((some (118)))) (103) (27) ((some (119)))) (103) (28) ((some (120)))) (103) (29) ((some (121)))) (103) (30) ((some (122)))) (103) (31) ((some (123)))) (103) (32) ((some (124)))) (103) (33) ((some (125))))) _
  refine px_putr rfl rfl (tk_at rfl (by omega)) rfl rfl ?_
  refine pw_aload_n rfl rfl ?_
  refine pw_bipush (v := nI (48)) rfl (by decide) ?_
  refine px_newa rfl rfl (by decide) (Nat.le_of_ble_eq_true rfl) (Nat.le_of_ble_eq_true rfl) (by omega) rfl (fz_le (fz_O (fz_O (fz_O (fz_O (fz_O (fz_O (fz_O (fz_O (fz_O (fz_O (fz_O (fz_O (fz_O (fz_O (fz_O (fz_O (fz_O (fz_O (fz_O (fz_O (fz_O (fz_O (fz_O hz (by omega)) (by omega)) (by omega)) (by omega)) (by omega)) (by omega)) (by omega)) (by omega)) (by omega)) (by omega)) (by omega)) (by omega)) (by omega)) (by omega)) (by omega)) (by omega)) (by omega)) (by omega)) (by omega)) (by omega)) (by omega)) (by omega)) (by omega)) (by omega)) ?_
  show pw pP mSBModel_init (191, [some (.inr (some (103))), some (.inl (mss)), some (.inl (buf)), some (.inl (key)), none, none], [.inr (some (127)), .inr (some (103))], 24, 11046, hb ((sL L).take (128)) F G R (up2 (up2 (up2 (up2 (up2 (up2 (up2 (up2 (up2 (up2 (up2 (up2 (up2 (up2 (up2 (up2 (up2 (up2 (up2 (up2 (up2 (up2 (up2 O (103) (4) ((some (104)))) (103) (7) ((some (105)))) (103) (8) ((some (106)))) (103) (11) ((some (107)))) (103) (12) ((some (108)))) (103) (13) ((some (109)))) (103) (14) ((some (110)))) (103) (15) ((some (111)))) (103) (16) ((some (112)))) (103) (17) ((some (113)))) (103) (18) ((some (114)))) (103) (19) ((some (115)))) (103) (20) ((some (116)))) (103) (21) ((some (117)))) (103) (26) ((some (118)))) (103) (27) ((some (119)))) (103) (28) ((some (120)))) (103) (29) ((some (121)))) (103) (30) ((some (122)))) (103) (31) ((some (123)))) (103) (32) ((some (124)))) (103) (33) ((some (125)))) (103) (34) ((some (126))))) _
  refine px_putr rfl rfl (tk_at rfl (by omega)) rfl rfl ?_
  refine pw_aload_n rfl rfl ?_
  refine pw_bipush (v := nI (48)) rfl (by decide) ?_
  refine px_newa rfl rfl (by decide) (Nat.le_of_ble_eq_true rfl) (Nat.le_of_ble_eq_true rfl) (by omega) rfl (fz_le (fz_O (fz_O (fz_O (fz_O (fz_O (fz_O (fz_O (fz_O (fz_O (fz_O (fz_O (fz_O (fz_O (fz_O (fz_O (fz_O (fz_O (fz_O (fz_O (fz_O (fz_O (fz_O (fz_O (fz_O hz (by omega)) (by omega)) (by omega)) (by omega)) (by omega)) (by omega)) (by omega)) (by omega)) (by omega)) (by omega)) (by omega)) (by omega)) (by omega)) (by omega)) (by omega)) (by omega)) (by omega)) (by omega)) (by omega)) (by omega)) (by omega)) (by omega)) (by omega)) (by omega)) (by omega)) ?_
  show pw pP mSBModel_init (199, [some (.inr (some (103))), some (.inl (mss)), some (.inl (buf)), some (.inl (key)), none, none], [.inr (some (128)), .inr (some (103))], 25, 11094, hb ((sL L).take (129)) F G R (up2 (up2 (up2 (up2 (up2 (up2 (up2 (up2 (up2 (up2 (up2 (up2 (up2 (up2 (up2 (up2 (up2 (up2 (up2 (up2 (up2 (up2 (up2 (up2 O (103) (4) ((some (104)))) (103) (7) ((some (105)))) (103) (8) ((some (106)))) (103) (11) ((some (107)))) (103) (12) ((some (108)))) (103) (13) ((some (109)))) (103) (14) ((some (110)))) (103) (15) ((some (111)))) (103) (16) ((some (112)))) (103) (17) ((some (113)))) (103) (18) ((some (114)))) (103) (19) ((some (115)))) (103) (20) ((some (116)))) (103) (21) ((some (117)))) (103) (26) ((some (118)))) (103) (27) ((some (119)))) (103) (28) ((some (120)))) (103) (29) ((some (121)))) (103) (30) ((some (122)))) (103) (31) ((some (123)))) (103) (32) ((some (124)))) (103) (33) ((some (125)))) (103) (34) ((some (126)))) (103) (35) ((some (127))))) _
  refine px_putr rfl rfl (tk_at rfl (by omega)) rfl rfl ?_
  refine pw_aload_n rfl rfl ?_
  refine pw_bipush (v := nI (48)) rfl (by decide) ?_
  refine px_newa rfl rfl (by decide) (Nat.le_of_ble_eq_true rfl) (Nat.le_of_ble_eq_true rfl) (by omega) rfl (fz_le (fz_O (fz_O (fz_O (fz_O (fz_O (fz_O (fz_O (fz_O (fz_O (fz_O (fz_O (fz_O (fz_O (fz_O (fz_O (fz_O (fz_O (fz_O (fz_O (fz_O (fz_O (fz_O (fz_O (fz_O (fz_O hz (by omega)) (by omega)) (by omega)) (by omega)) (by omega)) (by omega)) (by omega)) (by omega)) (by omega)) (by omega)) (by omega)) (by omega)) (by omega)) (by omega)) (by omega)) (by omega)) (by omega)) (by omega)) (by omega)) (by omega)) (by omega)) (by omega)) (by omega)) (by omega)) (by omega)) (by omega)) ?_
  show pw pP mSBModel_init (207, [some (.inr (some (103))), some (.inl (mss)), some (.inl (buf)), some (.inl (key)), none, none], [.inr (some (129)), .inr (some (103))], 26, 11142, hb ((sL L).take (130)) F G R (up2 (up2 (up2 (up2 (up2 (up2 (up2 (up2 (up2 (up2 (up2 (up2 (up2 (up2 (up2 (up2 (up2 (up2 (up2 (up2 (up2 (up2 (up2 (up2 (up2 O (103) (4) ((some (104)))) (103) (7) ((some (105)))) (103) (8) ((some (106)))) (103) (11) ((some (107)))) (103) (12) ((some (108)))) (103) (13) ((some (109)))) (103) (14) ((some (110)))) (103) (15) ((some (111)))) (103) (16) ((some (112)))) (103) (17) ((some (113)))) (103) (18) ((some (114)))) (103) (19) ((some (115)))) (103) (20) ((some (116)))) (103) (21) ((some (117)))) (103) (26) ((some (118)))) (103) (27) ((some (119)))) (103) (28) ((some (120)))) (103) (29) ((some (121)))) (103) (30) ((some (122)))) (103) (31) ((some (123)))) (103) (32) ((some (124)))) (103) (33) ((some (125)))) (103) (34) ((some (126)))) (103) (35) ((some (127)))) (103) (36) ((some (128))))) _
  refine px_putr rfl rfl (tk_at rfl (by omega)) rfl rfl ?_
  refine pw_aload_n rfl rfl ?_
  refine pw_bipush (v := nI (48)) rfl (by decide) ?_
  refine px_newa rfl rfl (by decide) (Nat.le_of_ble_eq_true rfl) (Nat.le_of_ble_eq_true rfl) (by omega) rfl (fz_le (fz_O (fz_O (fz_O (fz_O (fz_O (fz_O (fz_O (fz_O (fz_O (fz_O (fz_O (fz_O (fz_O (fz_O (fz_O (fz_O (fz_O (fz_O (fz_O (fz_O (fz_O (fz_O (fz_O (fz_O (fz_O (fz_O hz (by omega)) (by omega)) (by omega)) (by omega)) (by omega)) (by omega)) (by omega)) (by omega)) (by omega)) (by omega)) (by omega)) (by omega)) (by omega)) (by omega)) (by omega)) (by omega)) (by omega)) (by omega)) (by omega)) (by omega)) (by omega)) (by omega)) (by omega)) (by omega)) (by omega)) (by omega)) (by omega)) ?_
  show pw pP mSBModel_init (215, [some (.inr (some (103))), some (.inl (mss)), some (.inl (buf)), some (.inl (key)), none, none], [.inr (some (130)), .inr (some (103))], 27, 11190, hb ((sL L).take (131)) F G R (up2 (up2 (up2 (up2 (up2 (up2 (up2 (up2 (up2 (up2 (up2 (up2 (up2 (up2 (up2 (up2 (up2 (up2 (up2 (up2 (up2 (up2 (up2 (up2 (up2 (up2 O (103) (4) ((some (104)))) (103) (7) ((some (105)))) (103) (8) ((some (106)))) (103) (11) ((some (107)))) (103) (12) ((some (108)))) (103) (13) ((some (109)))) (103) (14) ((some (110)))) (103) (15) ((some (111)))) (103) (16) ((some (112)))) (103) (17) ((some (113)))) (103) (18) ((some (114)))) (103) (19) ((some (115)))) (103) (20) ((some (116)))) (103) (21) ((some (117)))) (103) (26) ((some (118)))) (103) (27) ((some (119)))) (103) (28) ((some (120)))) (103) (29) ((some (121)))) (103) (30) ((some (122)))) (103) (31) ((some (123)))) (103) (32) ((some (124)))) (103) (33) ((some (125)))) (103) (34) ((some (126)))) (103) (35) ((some (127)))) (103) (36) ((some (128)))) (103) (37) ((some (129))))) _
  refine px_putr rfl rfl (tk_at rfl (by omega)) rfl rfl ?_
  refine im_1 ?_
  refine px_put rfl rfl (tk_at rfl (by omega)) rfl rfl ?_
  refine im_2 ?_
  refine px_put rfl rfl (tk_at rfl (by omega)) rfl rfl ?_
  refine pw_iload_n rfl rfl ?_
  refine pw_bipush (v := nI 7) rfl (by decide) ?_
  refine pw_ishl rfl rfl ?_
  refine pw_iload_n rfl rfl ?_
  refine pw_bipush (v := nI 25) rfl (by decide) ?_
  refine pw_iushr rfl rfl ?_
  refine pw_ior (z := rotl key) rfl rfl ?_
  refine pw_ldc (v := nI 75011) rfl rfl ?_
  refine pw_imul (z := rotl key * nI 75011) rfl rfl ?_
  refine pw_ldc (v := nI 1234577) rfl rfl ?_
  refine pw_iadd (z := rotl key * nI 75011 + nI 1234577) rfl rfl ?_
  refine pw_istore (ls1 := [some (.inr (some 103)), some (.inl mss), some (.inl buf), some (.inl key), some (.inl (rotl key * nI 75011 + nI 1234577)), none]) rfl (Nat.le_of_ble_eq_true rfl) rfl ?_
  refine pw_aload_n rfl rfl ?_
  refine pw_iload rfl rfl ?_
  refine pw_iload rfl rfl ?_
  refine pw_bipush (v := nI 16) rfl (by decide) ?_
  refine pw_iushr (z := ((rotl key * nI 75011 + nI 1234577).toUInt32 >>> ((nI 16).toUInt32 &&& Int32.toUInt32 31)).toInt32) rfl rfl ?_
  refine pw_ixor (z := tokv key) rfl rfl ?_
  refine px_put rfl rfl (tk_at rfl (by omega)) rfl rfl ?_
  refine pw_aload_n rfl rfl ?_
  refine pw_aload_n rfl rfl ?_
  refine px_getv (x := tcl buf 4 56) rfl rfl (tk_at rfl (by omega)) rfl ((up2_ne2 (by decide)).trans (up2_eq)) ?_
  refine px_put rfl rfl (tk_at rfl (by omega)) rfl rfl ?_
  refine pw_iconst (v := nI (0)) rfl (by decide) ?_
  refine pw_istore (ls1 := [some (.inr (some (103))), some (.inl (mss)), some (.inl (buf)), some (.inl (key)), some (.inl (rotl key * nI 75011 + nI 1234577)), some (.inl (nI (0)))]) rfl (Nat.le_of_ble_eq_true rfl) rfl ?_
  refine pw_iload rfl rfl ?_
  refine pw_iconst (v := nI (4)) rfl (by decide) ?_
  refine pw_if2 (t := 329) rfl rfl (fun q => absurd q (by decide)) (fun _ => ?_)
  refine pw_aload_n rfl rfl ?_
  refine px_getr (r := some (110)) rfl rfl (tk_at rfl (by omega)) rfl ((up2_ne2 (by decide)).trans ((up2_ne2 (by decide)).trans ((up2_ne2 (by decide)).trans ((up2_ne2 (by decide)).trans ((up2_ne2 (by decide)).trans ((up2_ne2 (by decide)).trans ((up2_ne2 (by decide)).trans ((up2_ne2 (by decide)).trans ((up2_ne2 (by decide)).trans ((up2_ne2 (by decide)).trans ((up2_ne2 (by decide)).trans ((up2_ne2 (by decide)).trans ((up2_ne2 (by decide)).trans ((up2_ne2 (by decide)).trans ((up2_ne2 (by decide)).trans ((up2_ne2 (by decide)).trans ((up2_ne2 (by decide)).trans ((up2_ne2 (by decide)).trans ((up2_ne2 (by decide)).trans ((up2_ne2 (by decide)).trans (up2_eq))))))))))))))))))))) ?_
  refine pw_iload rfl rfl ?_
  refine pw_bipush (v := nI (16)) rfl (by decide) ?_
  refine px_iastn rfl (tk_at rfl (by omega)) (by decide) (by decide) ?_
  refine pw_iinc (v := nI (1)) (ls1 := [some (.inr (some (103))), some (.inl (mss)), some (.inl (buf)), some (.inl (key)), some (.inl (rotl key * nI 75011 + nI 1234577)), some (.inl (nI (1)))]) rfl rfl (iinc_n _) rfl ?_
  refine pw_goto (t := 308) rfl rfl ?_
  refine pw_iload rfl rfl ?_
  refine pw_iconst (v := nI (4)) rfl (by decide) ?_
  refine pw_if2 (t := 329) rfl rfl (fun q => absurd q (by decide)) (fun _ => ?_)
  refine pw_aload_n rfl rfl ?_
  refine px_getr (r := some (110)) rfl rfl (tk_at rfl (by omega)) rfl ((up2_ne2 (by decide)).trans ((up2_ne2 (by decide)).trans ((up2_ne2 (by decide)).trans ((up2_ne2 (by decide)).trans ((up2_ne2 (by decide)).trans ((up2_ne2 (by decide)).trans ((up2_ne2 (by decide)).trans ((up2_ne2 (by decide)).trans ((up2_ne2 (by decide)).trans ((up2_ne2 (by decide)).trans ((up2_ne2 (by decide)).trans ((up2_ne2 (by decide)).trans ((up2_ne2 (by decide)).trans ((up2_ne2 (by decide)).trans ((up2_ne2 (by decide)).trans ((up2_ne2 (by decide)).trans ((up2_ne2 (by decide)).trans ((up2_ne2 (by decide)).trans ((up2_ne2 (by decide)).trans ((up2_ne2 (by decide)).trans (up2_eq))))))))))))))))))))) ?_
  refine pw_iload rfl rfl ?_
  refine pw_bipush (v := nI (16)) rfl (by decide) ?_
  refine px_iastn rfl (tk_at rfl (by omega)) (by decide) (by decide) ?_
  refine pw_iinc (v := nI (2)) (ls1 := [some (.inr (some (103))), some (.inl (mss)), some (.inl (buf)), some (.inl (key)), some (.inl (rotl key * nI 75011 + nI 1234577)), some (.inl (nI (2)))]) rfl rfl (iinc_n _) rfl ?_
  refine pw_goto (t := 308) rfl rfl ?_
  refine pw_iload rfl rfl ?_
  refine pw_iconst (v := nI (4)) rfl (by decide) ?_
  refine pw_if2 (t := 329) rfl rfl (fun q => absurd q (by decide)) (fun _ => ?_)
  refine pw_aload_n rfl rfl ?_
  refine px_getr (r := some (110)) rfl rfl (tk_at rfl (by omega)) rfl ((up2_ne2 (by decide)).trans ((up2_ne2 (by decide)).trans ((up2_ne2 (by decide)).trans ((up2_ne2 (by decide)).trans ((up2_ne2 (by decide)).trans ((up2_ne2 (by decide)).trans ((up2_ne2 (by decide)).trans ((up2_ne2 (by decide)).trans ((up2_ne2 (by decide)).trans ((up2_ne2 (by decide)).trans ((up2_ne2 (by decide)).trans ((up2_ne2 (by decide)).trans ((up2_ne2 (by decide)).trans ((up2_ne2 (by decide)).trans ((up2_ne2 (by decide)).trans ((up2_ne2 (by decide)).trans ((up2_ne2 (by decide)).trans ((up2_ne2 (by decide)).trans ((up2_ne2 (by decide)).trans ((up2_ne2 (by decide)).trans (up2_eq))))))))))))))))))))) ?_
  refine pw_iload rfl rfl ?_
  refine pw_bipush (v := nI (16)) rfl (by decide) ?_
  refine px_iastn rfl (tk_at rfl (by omega)) (by decide) (by decide) ?_
  refine pw_iinc (v := nI (3)) (ls1 := [some (.inr (some (103))), some (.inl (mss)), some (.inl (buf)), some (.inl (key)), some (.inl (rotl key * nI 75011 + nI 1234577)), some (.inl (nI (3)))]) rfl rfl (iinc_n _) rfl ?_
  refine pw_goto (t := 308) rfl rfl ?_
  refine pw_iload rfl rfl ?_
  refine pw_iconst (v := nI (4)) rfl (by decide) ?_
  refine pw_if2 (t := 329) rfl rfl (fun q => absurd q (by decide)) (fun _ => ?_)
  refine pw_aload_n rfl rfl ?_
  refine px_getr (r := some (110)) rfl rfl (tk_at rfl (by omega)) rfl ((up2_ne2 (by decide)).trans ((up2_ne2 (by decide)).trans ((up2_ne2 (by decide)).trans ((up2_ne2 (by decide)).trans ((up2_ne2 (by decide)).trans ((up2_ne2 (by decide)).trans ((up2_ne2 (by decide)).trans ((up2_ne2 (by decide)).trans ((up2_ne2 (by decide)).trans ((up2_ne2 (by decide)).trans ((up2_ne2 (by decide)).trans ((up2_ne2 (by decide)).trans ((up2_ne2 (by decide)).trans ((up2_ne2 (by decide)).trans ((up2_ne2 (by decide)).trans ((up2_ne2 (by decide)).trans ((up2_ne2 (by decide)).trans ((up2_ne2 (by decide)).trans ((up2_ne2 (by decide)).trans ((up2_ne2 (by decide)).trans (up2_eq))))))))))))))))))))) ?_
  refine pw_iload rfl rfl ?_
  refine pw_bipush (v := nI (16)) rfl (by decide) ?_
  refine px_iastn rfl (tk_at rfl (by omega)) (by decide) (by decide) ?_
  refine pw_iinc (v := nI (4)) (ls1 := [some (.inr (some (103))), some (.inl (mss)), some (.inl (buf)), some (.inl (key)), some (.inl (rotl key * nI 75011 + nI 1234577)), some (.inl (nI (4)))]) rfl rfl (iinc_n _) rfl ?_
  refine pw_goto (t := 308) rfl rfl ?_
  refine pw_iload rfl rfl ?_
  refine pw_iconst (v := nI (4)) rfl (by decide) ?_
  refine pw_if2 (t := 329) rfl rfl (fun _ => ?_) (fun q => absurd q (by decide))
  exact pw_vret rfl rfl (Nat.le_of_ble_eq_true rfl) (Nat.le_of_ble_eq_true rfl) k
