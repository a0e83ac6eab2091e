/-! THE CLASS: copies, segments, pipes, the stream, arrivals. Rows laid by a program (wip/whole/gen/class1.py). -/
/-- Copy_fill -/
def cfill_F (F : FN) (x : Nat) (a1 a2 a3 a4 a5 : Int32) : FN := (up2 (up2 (up2 (up2 (up2 F (x) (0) (a1)) (x) (1) (a2)) (x) (2) (a3)) (x) (3) (a4)) (x) (4) (a5))
theorem t_cfill {L x : Nat} {a1 a2 a3 a4 a5 : Int32} {F G : FN} {R : RN} (hx : (sL L)[x]? = some (2, 1, [0, 0, 0, 0, 0, 0], 0)) {Q : Option PV → PH → Prop} (k : Q none (hb (sL L) (cfill_F F x a1 a2 a3 a4 a5) G R sO)) : pz pP mCopy_fill [.inr (some (x)), .inl (a1), .inl (a2), .inl (a3), .inl (a4), .inl (a5)] (hb (sL L) F G R sO) Q := by
  show pw pP mCopy_fill (0, [some (.inr (some (x))), some (.inl (a1)), some (.inl (a2)), some (.inl (a3)), some (.inl (a4)), some (.inl (a5))], [], 0, 0, hb (sL L) F G R sO) _
  refine pw_aload_n rfl rfl ?_
  refine pw_iload_n rfl rfl ?_
  refine px_put rfl rfl hx rfl rfl ?_
  refine pw_aload_n rfl rfl ?_
  refine pw_iload_n rfl rfl ?_
  refine px_put rfl rfl hx rfl rfl ?_
  refine pw_aload_n rfl rfl ?_
  refine pw_iload_n rfl rfl ?_
  refine px_put rfl rfl hx rfl rfl ?_
  refine pw_aload_n rfl rfl ?_
  refine pw_iload rfl rfl ?_
  refine px_put rfl rfl hx rfl rfl ?_
  refine pw_aload_n rfl rfl ?_
  refine pw_iload rfl rfl ?_
  refine px_put rfl rfl hx rfl rfl ?_
  exact pw_vret rfl rfl (Nat.zero_le _) (Nat.zero_le _) k
/-- Segment_fill -/
def sfill_F (F : FN) (x : Nat) (a1 a2 a3 a4 : Int32) : FN := (up2 (up2 (up2 (up2 (up2 F (x) (0) (a1)) (x) (1) (a2)) (x) (2) (a3)) (x) (3) (a4)) (x) (5) (nI (0)))
theorem t_sfill {L x : Nat} {a1 a2 a3 a4 : Int32} {F G : FN} {R : RN} (hx : (sL L)[x]? = some (2, 6, [0, 0, 0, 0, 0, 0], 0)) {Q : Option PV → PH → Prop} (k : Q none (hb (sL L) (sfill_F F x a1 a2 a3 a4) G R sO)) : pz pP mSegment_fill [.inr (some (x)), .inl (a1), .inl (a2), .inl (a3), .inl (a4)] (hb (sL L) F G R sO) Q := by
  show pw pP mSegment_fill (0, [some (.inr (some (x))), some (.inl (a1)), some (.inl (a2)), some (.inl (a3)), some (.inl (a4))], [], 0, 0, hb (sL L) F G R sO) _
  refine pw_aload_n rfl rfl ?_
  refine pw_iload_n rfl rfl ?_
  refine px_put rfl rfl hx rfl rfl ?_
  refine pw_aload_n rfl rfl ?_
  refine pw_iload_n rfl rfl ?_
  refine px_put rfl rfl hx rfl rfl ?_
  refine pw_aload_n rfl rfl ?_
  refine pw_iload_n rfl rfl ?_
  refine px_put rfl rfl hx rfl rfl ?_
  refine pw_aload_n rfl rfl ?_
  refine pw_iload rfl rfl ?_
  refine px_put rfl rfl hx rfl rfl ?_
  refine pw_aload_n rfl rfl ?_
  refine pw_iconst (v := nI (0)) rfl (by decide) ?_
  refine px_put rfl rfl hx rfl rfl ?_
  exact pw_vret rfl rfl (Nat.zero_le _) (Nat.zero_le _) k
/-- a pipe stands at e -/
def pipeok (L e : Nat) (R : RN) : Prop := (sL L)[e]? = some (2, 5, [1, 0], 0) ∧ sO e 0 = some (e + 1) ∧ (sL L)[e + 1]? = some (1, 1, [], 6) ∧ ∀ k, k < 6 → ∃ x, R (e + 1) k = some x ∧ (sL L)[x]? = some (2, 1, [0, 0, 0, 0, 0, 0], 0)
theorem pipeok_up {L e j x : Nat} {R : RN} (h : pipeok L e R) (hx : (sL L)[x]? = some (2, 1, [0, 0, 0, 0, 0, 0], 0)) : pipeok L e (up2 R (e + 1) j (some x)) := by
  refine ⟨h.1, h.2.1, h.2.2.1, fun k hk => ?_⟩
  by_cases e1 : k = j
  · subst e1
    exact ⟨x, up2_eq, hx⟩
  · obtain ⟨y, h1, h2⟩ := h.2.2.2 k hk
    exact ⟨y, (up2_ne2 e1).trans h1, h2⟩
/-- the place of a copy -/
def rx (R : RN) (i k : Nat) : Nat := (R i k).getD 0
/-- Pipe_copyAt -/
def copyAt_r (x : Nat) : Option Nat := some (x)
theorem t_copyAt {L e sz kk x : Nat} {F G : FN} {R : RN} (hP : pipeok L e R) (hsz : F e 1 = nI sz) (hs6 : sz ≤ 6) (hk : kk < sz) (hx : R (e + 1) kk = some x) (hsx : (sL L)[x]? = some (2, 1, [0, 0, 0, 0, 0, 0], 0)) {Q : Option PV → PH → Prop} (k : Q (some (.inr (copyAt_r x))) (hb (sL L) F G R sO)) : pz pP mPipe_copyAt [.inr (some (e)), .inl (nI (kk))] (hb (sL L) F G R sO) Q := by
  show pw pP mPipe_copyAt (0, [some (.inr (some (e))), some (.inl (nI (kk)))], [], 0, 0, hb (sL L) F G R sO) _
  refine pw_iload_n rfl rfl ?_
  refine pw_if1p (cz_lt (by omega)) rfl (t := 21) rfl (fun q => absurd q (by omega)) (fun _ => ?_)
  refine pw_iload_n rfl rfl ?_
  refine pw_aload_n rfl rfl ?_
  refine px_getv (x := nI (sz)) rfl rfl hP.1 rfl (hsz) ?_
  refine pw_if2p (cn_ge (by omega) (by omega)) rfl (t := 21) rfl (fun q => absurd q (by omega)) (fun _ => ?_)
  refine pw_aload_n rfl rfl ?_
  refine px_getr (r := some (e + 1)) rfl rfl hP.1 rfl hP.2.1 ?_
  refine pw_iload_n rfl rfl ?_
  refine px_aaldn (r := (some (x))) rfl hP.2.2.1 rfl (by omega) (by decide) (hx) ?_
  refine pw_goto (t := 22) rfl rfl ?_
  exact pw_aret rfl rfl (Nat.zero_le _) (Nat.zero_le _) rfl k
theorem t_copyAt_out {L e sz : Nat} {F G : FN} {R : RN} (hP : pipeok L e R) (hsz : F e 1 = nI sz) (hs6 : sz ≤ 6) {z : Int32} (hz : z < 0 ∨ nI sz ≤ z) {Q : Option PV → PH → Prop} (k : Q (some (.inr none)) (hb (sL L) F G R sO)) : pz pP mPipe_copyAt [.inr (some e), .inl z] (hb (sL L) F G R sO) Q := by
  show pw pP mPipe_copyAt (0, [some (.inr (some (e))), some (.inl (z))], [], 0, 0, hb (sL L) F G R sO) _
  refine pw_iload_n rfl rfl ?_
  refine pw_if1p (A := z < 0) rfl rfl (t := 21) rfl (fun c1 => ?_) (fun c1 => ?_)
  · -- 21
    refine pw_null rfl ?_
    exact pw_aret rfl rfl (Nat.zero_le _) (Nat.zero_le _) rfl k
  · -- 4
    refine pw_iload_n rfl rfl ?_
    refine pw_aload_n rfl rfl ?_
    refine px_getv (x := nI (sz)) rfl rfl hP.1 rfl (hsz) ?_
    refine pw_if2p (A := nI (sz) ≤ z) rfl rfl (t := 21) rfl (fun c2 => ?_) (fun c2 => ?_)
    · -- 21
      refine pw_null rfl ?_
      exact pw_aret rfl rfl (Nat.zero_le _) (Nat.zero_le _) rfl k
    · -- 12
      exact absurd (hz.resolve_left c1) c2
/-- Pipe_append -/
def append_r (F : FN) (e x sz : Nat) (d : Int32) : Option Nat := some (x)
/-- Pipe_append -/
def append_F (F : FN) (e x sz : Nat) (d : Int32) : FN := (up2 (up2 F (x) (5) (d)) (e) (1) (nI (sz + 1)))
theorem t_append {L e sz x : Nat} {F G : FN} {R : RN} (hP : pipeok L e R) (hsz : F e 1 = nI sz) {d : Int32} (hs6 : sz < 6) (hx : R (e + 1) sz = some x) (hsx : (sL L)[x]? = some (2, 1, [0, 0, 0, 0, 0, 0], 0)) {Q : Option PV → PH → Prop} (k : Q (some (.inr (append_r F e x sz d))) (hb (sL L) (append_F F e x sz d) G R sO)) : pz pP mPipe_append [.inr (some (e)), .inl (d)] (hb (sL L) F G R sO) Q := by
  show pw pP mPipe_append (0, [some (.inr (some (e))), some (.inl (d)), none], [], 0, 0, hb (sL L) F G R sO) _
  refine pw_aload_n rfl rfl ?_
  refine px_getv (x := nI (sz)) rfl rfl hP.1 rfl (hsz) ?_
  refine pw_bipush (v := nI (6)) rfl (by decide) ?_
  refine pw_if2p (cn_lt (by omega) (by omega)) rfl (t := 11) rfl (fun _ => ?_) (fun q => absurd hs6 q)
  refine pw_aload_n rfl rfl ?_
  refine px_getr (r := some (e + 1)) rfl rfl hP.1 rfl hP.2.1 ?_
  refine pw_aload_n rfl rfl ?_
  refine px_getv (x := nI (sz)) rfl rfl hP.1 rfl (hsz) ?_
  refine px_aaldn (r := (some (x))) rfl hP.2.2.1 rfl (by omega) (by decide) (hx) ?_
  refine pw_astore_n (ls1 := [some (.inr (some (e))), some (.inl (d)), some (.inr (some (x)))]) rfl (Nat.le_of_ble_eq_true rfl) rfl ?_
  refine pw_aload_n rfl rfl ?_
  refine pw_iload_n rfl rfl ?_
  refine px_put rfl rfl hsx rfl rfl ?_
  refine pw_aload_n rfl rfl ?_
  refine pw_dup rfl ?_
  refine px_getv (x := nI (sz)) rfl rfl hP.1 rfl ((up2_ne (by omega)).trans (hsz)) ?_
  refine pw_iconst (v := nI (1)) rfl (by decide) ?_
  refine pw_iadd (z := nI (sz + 1)) rfl (nI_add _ _) ?_
  refine px_put rfl rfl hP.1 rfl rfl ?_
  refine pw_aload_n rfl rfl ?_
  exact pw_aret rfl rfl (Nat.zero_le _) (Nat.zero_le _) rfl k
theorem t_append_no {L e : Nat} {d : Int32} {F G : FN} {R : RN} (hP : pipeok L e R) (hsz : F e 1 = nI 6) {Q : Option PV → PH → Prop} (k : Q (some (.inr none)) (hb (sL L) F G R sO)) : pz pP mPipe_append [.inr (some e), .inl d] (hb (sL L) F G R sO) Q := by
  show pw pP mPipe_append (0, [some (.inr (some (e))), some (.inl (d)), none], [], 0, 0, hb (sL L) F G R sO) _
  refine pw_aload_n rfl rfl ?_
  refine px_getv (x := nI (6)) rfl rfl hP.1 rfl (hsz) ?_
  refine pw_bipush (v := nI (6)) rfl (by decide) ?_
  refine pw_if2 (t := 11) rfl rfl (fun q => absurd q (by decide)) (fun _ => ?_)
  refine pw_null rfl ?_
  exact pw_aret rfl rfl (Nat.zero_le _) (Nat.zero_le _) rfl k
/-- Pipe_empty -/
def empty_F (F : FN) (e : Nat) : FN := (up2 F (e) (1) (nI (0)))
theorem t_empty {L e : Nat} {F G : FN} {R : RN} (hP : pipeok L e R) {Q : Option PV → PH → Prop} (k : Q none (hb (sL L) (empty_F F e) G R sO)) : pz pP mPipe_empty [.inr (some (e))] (hb (sL L) F G R sO) Q := by
  show pw pP mPipe_empty (0, [some (.inr (some (e)))], [], 0, 0, hb (sL L) F G R sO) _
  refine pw_aload_n rfl rfl ?_
  refine pw_iconst (v := nI (0)) rfl (by decide) ?_
  refine px_put rfl rfl hP.1 rfl rfl ?_
  exact pw_vret rfl rfl (Nat.zero_le _) (Nat.zero_le _) k
def cro (e : Nat) : Nat → Nat → RN → RN
  | 0, _, R => R
  | n + 1, j, R => cro e n (j + 1) (up2 R (e + 1) (j - 1) (R (e + 1) j))
theorem cro_ok {L e : Nat} : ∀ (n j : Nat) (R : RN), j + n ≤ 6 → pipeok L e R → pipeok L e (cro e n j R)
  | 0, _, _, _, h => h
  | n + 1, j, R, hn, h => by
    obtain ⟨x, h1, h2⟩ := h.2.2.2 j (by omega)
    refine cro_ok n (j + 1) _ (by omega) ?_
    rw [h1]
    exact pipeok_up h h2
theorem t_takeOut_lp {L e sz kk x0 : Nat} {F G : FN} {Q : Option PV → PH → Prop} (hsz : F e 1 = nI sz) (hs6 : sz ≤ 6) : ∀ (n j : Nat) (R : RN), j + n = sz → 1 ≤ j → pipeok L e R → pw pP mPipe_takeOut (44, [some (.inr (some (e))), some (.inl (nI (kk))), some (.inr (some (x0))), some (.inl (nI (sz)))], [], 0, 0, hb (sL L) F G (cro e n j R) sO) Q → pw pP mPipe_takeOut (16, [some (.inr (some (e))), some (.inl (nI (kk))), some (.inr (some (x0))), some (.inl (nI (j)))], [], 0, 0, hb (sL L) F G R sO) Q := by
  intro n
  induction n with
  | zero =>
    intro j R hn hj hP k
    have e1 : sz = j := by omega
    subst e1
    refine pw_iload_n rfl rfl ?_
    refine pw_aload_n rfl rfl ?_
    refine px_getv (x := nI (sz)) rfl rfl hP.1 rfl (hsz) ?_
    refine pw_if2p (cn_ge (by omega) (by omega)) rfl (t := 44) rfl (fun c1 => ?_) (fun c1 => ?_)
    · -- 44
      exact k
    · -- 24
      exact absurd c1 (by omega)
  | succ n ih =>
    intro j R hn hj hP k
    obtain ⟨x, hx, hsx⟩ := hP.2.2.2 j (by omega)
    refine pw_iload_n rfl rfl ?_
    refine pw_aload_n rfl rfl ?_
    refine px_getv (x := nI (sz)) rfl rfl hP.1 rfl (hsz) ?_
    refine pw_if2p (cn_ge (by omega) (by omega)) rfl (t := 44) rfl (fun c1 => ?_) (fun c1 => ?_)
    · -- 44
      exact absurd c1 (by omega)
    · -- 24
      refine pw_aload_n rfl rfl ?_
      refine px_getr (r := some (e + 1)) rfl rfl hP.1 rfl hP.2.1 ?_
      refine pw_iload_n rfl rfl ?_
      refine pw_iconst (v := nI (1)) rfl (by decide) ?_
      refine pw_isub (z := nI (j - 1)) rfl (pk_sub (by omega)) ?_
      refine pw_aload_n rfl rfl ?_
      refine px_getr (r := some (e + 1)) rfl rfl hP.1 rfl hP.2.1 ?_
      refine pw_iload_n rfl rfl ?_
      refine px_aaldn (r := (some (x))) rfl hP.2.2.1 rfl (by omega) (by decide) (hx) ?_
      refine px_aastn rfl hP.2.2.1 hsx rfl (by omega) (by decide) ?_
      refine pw_iinc (v := nI (j + 1)) (ls1 := [some (.inr (some (e))), some (.inl (nI (kk))), some (.inr (some (x0))), some (.inl (nI (j + 1)))]) rfl rfl (iinc_n _) rfl ?_
      refine pw_goto (t := 16) rfl rfl ?_
      exact ih (j + 1) _ (by omega) (by omega) (pipeok_up hP hsx) (by simp only [cro, hx] at k; exact k)
def tout_F (F : FN) (e sz : Nat) : FN := up2 F e 1 (nI (sz - 1))
def tout_R (R : RN) (e sz kk x0 : Nat) : RN := up2 (cro e (sz - 1 - kk) (kk + 1) R) (e + 1) (sz - 1) (some x0)
theorem t_takeOut {L e sz kk x0 : Nat} {F G : FN} {R : RN} (hP : pipeok L e R) (hsz : F e 1 = nI sz) (hs6 : sz ≤ 6) (hk : kk < sz) (hx : R (e + 1) kk = some x0) (hs0 : (sL L)[x0]? = some (2, 1, [0, 0, 0, 0, 0, 0], 0)) {Q : Option PV → PH → Prop} (k : Q (some (.inr (some x0))) (hb (sL L) (tout_F F e sz) G (tout_R R e sz kk x0) sO)) : pz pP mPipe_takeOut [.inr (some e), .inl (nI kk)] (hb (sL L) F G R sO) Q := by
  show pw pP mPipe_takeOut (0, [some (.inr (some (e))), some (.inl (nI (kk))), none, none], [], 0, 0, hb (sL L) F G R sO) _
  refine pw_aload_n rfl rfl ?_
  refine pw_iload_n rfl rfl ?_
  refine px_callv (as := [.inr (some (e)), .inl (nI (kk))]) (rest := []) rfl rfl (by decide) rfl (Nat.le_of_ble_eq_true rfl) (Nat.le_of_ble_eq_true rfl) (Nat.le_of_ble_eq_true rfl) (Nat.le_of_ble_eq_true rfl) rfl hP.1 rfl rfl ?_
  refine t_copyAt hP hsz hs6 hk hx hs0 ?_
  show pw pP mPipe_takeOut (5, [some (.inr (some (e))), some (.inl (nI (kk))), none, none], [.inr (some (x0))], 0, 0, hb (sL L) F G R sO) _
  refine pw_astore_n (ls1 := [some (.inr (some (e))), some (.inl (nI (kk))), some (.inr (some (x0))), none]) rfl (Nat.le_of_ble_eq_true rfl) rfl ?_
  refine pw_aload_n rfl rfl ?_
  refine pw_ifnonnull (t := 12) rfl rfl ?_
  refine pw_iload_n rfl rfl ?_
  refine pw_iconst (v := nI (1)) rfl (by decide) ?_
  refine pw_iadd (z := nI (kk + 1)) rfl (nI_add _ _) ?_
  refine pw_istore_n (ls1 := [some (.inr (some (e))), some (.inl (nI (kk))), some (.inr (some (x0))), some (.inl (nI (kk + 1)))]) rfl (Nat.le_of_ble_eq_true rfl) rfl ?_
  refine t_takeOut_lp hsz hs6 (sz - 1 - kk) (kk + 1) R (by omega) (by omega) hP ?_
  have hP := cro_ok (sz - 1 - kk) (kk + 1) R (by omega) hP
  refine pw_aload_n rfl rfl ?_
  refine pw_dup rfl ?_
  refine px_getv (x := nI (sz)) rfl rfl hP.1 rfl (hsz) ?_
  refine pw_iconst (v := nI (1)) rfl (by decide) ?_
  refine pw_isub (z := nI (sz - 1)) rfl (pk_sub (by omega)) ?_
  refine px_put rfl rfl hP.1 rfl rfl ?_
  refine pw_aload_n rfl rfl ?_
  refine px_getr (r := some (e + 1)) rfl rfl hP.1 rfl hP.2.1 ?_
  refine pw_aload_n rfl rfl ?_
  refine px_getv (x := nI (sz - 1)) rfl rfl hP.1 rfl (up2_eq) ?_
  refine pw_aload_n rfl rfl ?_
  refine px_aastn rfl hP.2.2.1 hs0 rfl (by omega) (by decide) ?_
  refine pw_aload_n rfl rfl ?_
  exact pw_aret rfl rfl (Nat.zero_le _) (Nat.zero_le _) rfl k
theorem t_takeOut_out {L e sz : Nat} {F G : FN} {R : RN} (hP : pipeok L e R) (hsz : F e 1 = nI sz) (hs6 : sz ≤ 6) {z : Int32} (hz : z < 0 ∨ nI sz ≤ z) {Q : Option PV → PH → Prop} (k : Q (some (.inr none)) (hb (sL L) F G R sO)) : pz pP mPipe_takeOut [.inr (some e), .inl z] (hb (sL L) F G R sO) Q := by
  show pw pP mPipe_takeOut (0, [some (.inr (some (e))), some (.inl (z)), none, none], [], 0, 0, hb (sL L) F G R sO) _
  refine pw_aload_n rfl rfl ?_
  refine pw_iload_n rfl rfl ?_
  refine px_callv (as := [.inr (some (e)), .inl (z)]) (rest := []) rfl rfl (by decide) rfl (Nat.le_of_ble_eq_true rfl) (Nat.le_of_ble_eq_true rfl) (Nat.le_of_ble_eq_true rfl) (Nat.le_of_ble_eq_true rfl) rfl hP.1 rfl rfl ?_
  refine t_copyAt_out hP hsz hs6 hz ?_
  show pw pP mPipe_takeOut (5, [some (.inr (some (e))), some (.inl (z)), none, none], [.inr none], 0, 0, hb (sL L) F G R sO) _
  refine pw_astore_n (ls1 := [some (.inr (some (e))), some (.inl (z)), some (.inr none), none]) rfl (Nat.le_of_ble_eq_true rfl) rfl ?_
  refine pw_aload_n rfl rfl ?_
  refine pw_ifnonnullN (t := 12) rfl rfl ?_
  refine pw_null rfl ?_
  exact pw_aret rfl rfl (Nat.zero_le _) (Nat.zero_le _) rfl k
def cdu (F : FN) (R : RN) (e : Nat) (d : Int32) : Nat → Nat → Option Nat
  | 0, _ => none
  | n + 1, j => if F (rx R (e + 1) j) 5 = d then some j else cdu F R e d n (j + 1)
def tdu_F (F : FN) (e sz : Nat) (o : Option Nat) : FN := match o with
  | none => F
  | some _ => tout_F F e sz
def tdu_R (R : RN) (e sz : Nat) (o : Option Nat) : RN := match o with
  | none => R
  | some j => tout_R R e sz j (rx R (e + 1) j)
def tdu_r (R : RN) (e : Nat) (o : Option Nat) : Option Nat := match o with
  | none => none
  | some j => some (rx R (e + 1) j)
theorem t_takeDue_lp {L e sz : Nat} {d : Int32} {F G : FN} {R : RN} {Q : Option PV → PH → Prop} (hP : pipeok L e R) (hsz : F e 1 = nI sz) (hs6 : sz ≤ 6) : ∀ (n j : Nat), j + n = sz → Q (some (.inr (tdu_r R e (cdu F R e d n j)))) (hb (sL L) (tdu_F F e sz (cdu F R e d n j)) G (tdu_R R e sz (cdu F R e d n j)) sO) → pw pP mPipe_takeDue (2, [some (.inr (some (e))), some (.inl (d)), some (.inl (nI (j)))], [], 0, 0, hb (sL L) F G R sO) Q := by
  intro n
  induction n with
  | zero =>
    intro j hn k
    refine pw_iload_n rfl rfl ?_
    refine pw_aload_n rfl rfl ?_
    refine px_getv (x := nI (sz)) rfl rfl hP.1 rfl (hsz) ?_
    refine pw_if2p (cn_ge (by omega) (by omega)) rfl (t := 35) rfl (fun c1 => ?_) (fun c1 => ?_)
    · -- 35
      refine pw_null rfl ?_
      exact pw_aret rfl rfl (Nat.zero_le _) (Nat.zero_le _) rfl k
    · -- 10
      exact absurd c1 (by omega)
  | succ n ih =>
    intro j hn k
    obtain ⟨x, hx, hsx⟩ := hP.2.2.2 j (by omega)
    have hr : rx R (e + 1) j = x := by rw [rx, hx]; rfl
    refine pw_iload_n rfl rfl ?_
    refine pw_aload_n rfl rfl ?_
    refine px_getv (x := nI (sz)) rfl rfl hP.1 rfl (hsz) ?_
    refine pw_if2p (cn_ge (by omega) (by omega)) rfl (t := 35) rfl (fun c1 => ?_) (fun c1 => ?_)
    · -- 35
      refine pw_null rfl ?_
      exact absurd c1 (by omega)
    · -- 10
      refine pw_aload_n rfl rfl ?_
      refine px_getr (r := some (e + 1)) rfl rfl hP.1 rfl hP.2.1 ?_
      refine pw_iload_n rfl rfl ?_
      refine px_aaldn (r := (some (x))) rfl hP.2.2.1 rfl (by omega) (by decide) (hx) ?_
      refine px_getv (x := F (x) (5)) rfl rfl hsx rfl (rfl) ?_
      refine pw_iload_n rfl rfl ?_
      refine pw_if2p (A := ¬ F (x) (5) = d) rfl rfl (t := 29) rfl (fun c2 => ?_) (fun c2 => ?_)
      · -- 29
        refine pw_iinc (v := nI (j + 1)) (ls1 := [some (.inr (some (e))), some (.inl (d)), some (.inl (nI (j + 1)))]) rfl rfl (iinc_n _) rfl ?_
        refine pw_goto (t := 2) rfl rfl ?_
        have ec : cdu F R e d (n + 1) j = cdu F R e d n (j + 1) := by simp only [cdu, hr, c2, if_false]
        rw [ec] at k
        exact ih (j + 1) (by omega) k
      · -- 23
        have ec : cdu F R e d (n + 1) j = some j := by simp only [cdu, hr, Decidable.of_not_not c2, if_true]
        simp only [ec, tdu_r, tdu_F, tdu_R, hr] at k
        refine pw_aload_n rfl rfl ?_
        refine pw_iload_n rfl rfl ?_
        refine px_callv (as := [.inr (some (e)), .inl (nI (j))]) (rest := []) rfl rfl (by decide) rfl (Nat.le_of_ble_eq_true rfl) (Nat.le_of_ble_eq_true rfl) (Nat.le_of_ble_eq_true rfl) (Nat.le_of_ble_eq_true rfl) rfl hP.1 rfl rfl ?_
        refine t_takeOut hP hsz hs6 (by omega) hx hsx ?_
        show pw pP mPipe_takeDue (28, [some (.inr (some (e))), some (.inl (d)), some (.inl (nI (j)))], [.inr (some (x))], 0, 0, hb (sL L) (tout_F F e sz) G (tout_R R e sz j x) sO) _
        exact pw_aret rfl rfl (Nat.zero_le _) (Nat.zero_le _) rfl k
theorem t_takeDue {L e sz : Nat} {d : Int32} {F G : FN} {R : RN} {Q : Option PV → PH → Prop} (hP : pipeok L e R) (hsz : F e 1 = nI sz) (hs6 : sz ≤ 6) (k : Q (some (.inr (tdu_r R e (cdu F R e d sz 0)))) (hb (sL L) (tdu_F F e sz (cdu F R e d sz 0)) G (tdu_R R e sz (cdu F R e d sz 0)) sO)) : pz pP mPipe_takeDue [.inr (some e), .inl d] (hb (sL L) F G R sO) Q := by
  show pw pP mPipe_takeDue (0, [some (.inr (some (e))), some (.inl (d)), none], [], 0, 0, hb (sL L) F G R sO) _
  refine pw_iconst (v := nI (0)) rfl (by decide) ?_
  refine pw_istore_n (ls1 := [some (.inr (some (e))), some (.inl (d)), some (.inl (nI (0)))]) rfl (Nat.le_of_ble_eq_true rfl) rfl ?_
  exact t_takeDue_lp hP hsz hs6 sz 0 (by omega) k
