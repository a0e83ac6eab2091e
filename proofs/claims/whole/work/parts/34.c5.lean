/-! THE CLASS, fifth part: host A chooses, and hears. Rows laid by a program (wip/whole/gen/class5.py). -/
def cfu (lz : Nat → Bool) (kn ln ed sc : Nat) : Nat → Nat → Option Nat
  | 0, _ => none
  | n + 1, u => if ed < u then none else if lz u = true then (if u < ed then some u else if u = kn then (if sc = 0 then some u else none) else none) else cfu lz kn ln ed sc n (u + 1)
def cfp (F G : FN) (sc : Nat → Nat) (su sn : Nat → Nat → Nat) (kn ln ed p : Nat) : Option Nat := cfu (fun u => clo F G sc su sn p u kn ln) kn ln ed (sc p) (ln - kn) kn
theorem t_cfu_lp {L p kn ln ed : Nat} {F G : FN} {R : RN} (hR4 : ∀ q, q < 4 → R 4 q = some (5 + 21 * q)) (hPa : ∀ q, q < 4 → pathok L (5 + 21 * q) R) {sc : Nat → Nat} {su sn : Nat → Nat → Nat} (hS : segv F R sc su sn) (hp : p < 4) (hkn : F 89 5 = nI kn) (hk : kn < 2 ^ 30) (hln : F 2 1 = nI ln) (hl : ln ≤ 401) (hed : F 89 6 = nI ed) (he : ed ≤ 500) {Q : Option PV → PH → Prop} : ∀ (n u : Nat) (o3 : Option PV), u + n = ln ∨ (n = 0 ∧ ln ≤ u ∧ u < 2 ^ 30) → Q (some (.inl (oI (cfu (fun u => clo F G sc su sn p u kn ln) kn ln ed (sc p) n u)))) (hb (sL L) F G R sO) → pw pP mHostA_firstUnit (5, [some (.inr (some (89))), some (.inr (some (5 + 21 * p))), some (.inl (nI (u))), o3], [], 0, 0, hb (sL L) F G R sO) Q := by
  intro n
  have hs3 := (hS p hp).2.1
  induction n with
  | zero =>
    intro u o3 hn k
    refine pw_iload_n rfl rfl ?_
    refine pw_aload_n rfl rfl ?_
    refine px_getr (r := some (2)) rfl rfl rfl rfl rfl ?_
    refine px_getv (x := nI (ln)) rfl rfl rfl rfl (hln) ?_
    refine pw_if2p (cn_ge (by omega) (by omega)) rfl (t := 78) rfl (fun _ => ?_) (fun q => absurd (by omega) q)
    refine pw_iconst (v := (-1)) rfl (by decide) ?_
    exact pw_iret rfl rfl (Nat.zero_le _) (Nat.zero_le _) rfl k
  | succ n ih =>
    intro u o3 hn k
    refine pw_iload_n rfl rfl ?_
    refine pw_aload_n rfl rfl ?_
    refine px_getr (r := some (2)) rfl rfl rfl rfl rfl ?_
    refine px_getv (x := nI (ln)) rfl rfl rfl rfl (hln) ?_
    refine pw_if2p (cn_ge (by omega) (by omega)) rfl (t := 78) rfl (fun q => absurd q (by omega)) (fun _ => ?_)
    refine pw_iload_n rfl rfl ?_
    refine pw_aload_n rfl rfl ?_
    refine px_getv (x := nI (ed)) rfl rfl rfl rfl (hed) ?_
    refine pw_if2p (cn_gt (by omega) (by omega)) rfl (t := 78) rfl (fun c1 => ?_) (fun c1 => ?_)
    · -- 78
      refine pw_iconst (v := (-1)) rfl (by decide) ?_
      simp only [cfu, eq_true c1, not_true_eq_false, not_false_eq_true, and_self, and_true, true_and, and_false, false_and, or_true, true_or, or_false, false_or, or_self, if_true, if_false] at k
      exact pw_iret rfl rfl (Nat.zero_le _) (Nat.zero_le _) rfl k
    · -- 24
      refine pw_aload_n rfl rfl ?_
      refine pw_iload_n rfl rfl ?_
      refine pw_aload_n rfl rfl ?_
      refine px_callv (as := [.inr (some (89)), .inl (nI (u)), .inr (some (5 + 21 * p))]) (rest := []) rfl rfl (by decide) rfl (Nat.le_of_ble_eq_true rfl) (Nat.le_of_ble_eq_true rfl) (Nat.le_of_ble_eq_true rfl) (Nat.le_of_ble_eq_true rfl) rfl rfl rfl rfl ?_
      refine t_cloose hR4 hPa hS hp (by omega) hkn hk hln hl ?_
      show pw pP mHostA_firstUnit (30, [some (.inr (some (89))), some (.inr (some (5 + 21 * p))), some (.inl (nI (u))), o3], [.inl (bI (clo F G sc su sn p u kn ln = true))], 0, 0, hb (sL L) F G R sO) _
      refine pw_if1p cb_eq rfl (t := 72) rfl (fun c2 => ?_) (fun c2 => ?_)
      · -- 72
        refine pw_iinc (v := nI (u + 1)) (ls1 := [some (.inr (some (89))), some (.inr (some (5 + 21 * p))), some (.inl (nI (u + 1))), o3]) rfl rfl (iinc_n _) rfl ?_
        refine pw_goto (t := 5) rfl rfl ?_
        simp only [cfu, eq_false c1, eq_false c2, not_true_eq_false, not_false_eq_true, and_self, and_true, true_and, and_false, false_and, or_true, true_or, or_false, false_or, or_self, if_true, if_false] at k
        exact ih (u + 1) _ (by omega) k
      · -- 33
        refine pw_iload_n rfl rfl ?_
        refine pw_aload_n rfl rfl ?_
        refine px_getv (x := nI (kn)) rfl rfl rfl rfl (hkn) ?_
        refine pw_if2p (cn_ne (by omega) (by omega)) rfl (t := 52) rfl (fun c3 => ?_) (fun c3 => ?_)
        · -- 52
          refine pw_iconst (v := nI (0)) rfl (by decide) ?_
          refine pw_istore_n (ls1 := [some (.inr (some (89))), some (.inr (some (5 + 21 * p))), some (.inl (nI (u))), some (.inl (nI (0)))]) rfl (Nat.le_of_ble_eq_true rfl) rfl ?_
          refine pw_iload_n rfl rfl ?_
          refine pw_aload_n rfl rfl ?_
          refine px_getv (x := nI (ed)) rfl rfl rfl rfl (hed) ?_
          refine pw_if2p (cn_lt (by omega) (by omega)) rfl (t := 66) rfl (fun c4 => ?_) (fun c4 => ?_)
          · -- 66
            refine pw_iload_n rfl rfl ?_
            refine pw_goto (t := 71) rfl rfl ?_
            simp only [cfu, eq_false c1, eq_true (Decidable.of_not_not c2), eq_false c3, eq_true c4, not_true_eq_false, not_false_eq_true, and_self, and_true, true_and, and_false, false_and, or_true, true_or, or_false, false_or, or_self, if_true, if_false] at k
            exact pw_iret rfl rfl (Nat.zero_le _) (Nat.zero_le _) rfl k
          · -- 62
            refine pw_iload_n rfl rfl ?_
            refine pw_if1 (t := 70) rfl rfl (fun _ => ?_) (fun q => absurd q (by decide))
            refine pw_iconst (v := (-1)) rfl (by decide) ?_
            simp only [cfu, eq_false c1, eq_true (Decidable.of_not_not c2), eq_false c3, eq_false c4, not_true_eq_false, not_false_eq_true, and_self, and_true, true_and, and_false, false_and, or_true, true_or, or_false, false_or, or_self, if_true, if_false] at k
            exact pw_iret rfl rfl (Nat.zero_le _) (Nat.zero_le _) rfl k
        · -- 41
          refine pw_aload_n rfl rfl ?_
          refine px_getv (x := nI (sc p)) rfl rfl (hPa p (by omega)).1 rfl ((hS p (by omega)).1) ?_
          refine pw_if1p (cz_ne (by omega)) rfl (t := 52) rfl (fun c5 => ?_) (fun c5 => ?_)
          · -- 52
            refine pw_iconst (v := nI (0)) rfl (by decide) ?_
            refine pw_istore_n (ls1 := [some (.inr (some (89))), some (.inr (some (5 + 21 * p))), some (.inl (nI (u))), some (.inl (nI (0)))]) rfl (Nat.le_of_ble_eq_true rfl) rfl ?_
            refine pw_iload_n rfl rfl ?_
            refine pw_aload_n rfl rfl ?_
            refine px_getv (x := nI (ed)) rfl rfl rfl rfl (hed) ?_
            refine pw_if2p (cn_lt (by omega) (by omega)) rfl (t := 66) rfl (fun c6 => ?_) (fun c6 => ?_)
            · -- 66
              refine pw_iload_n rfl rfl ?_
              refine pw_goto (t := 71) rfl rfl ?_
              simp only [cfu, eq_false c1, eq_true (Decidable.of_not_not c2), eq_true (Decidable.of_not_not c3), eq_false c5, eq_true c6, not_true_eq_false, not_false_eq_true, and_self, and_true, true_and, and_false, false_and, or_true, true_or, or_false, false_or, or_self, if_true, if_false] at k
              exact pw_iret rfl rfl (Nat.zero_le _) (Nat.zero_le _) rfl k
            · -- 62
              refine pw_iload_n rfl rfl ?_
              refine pw_if1 (t := 70) rfl rfl (fun _ => ?_) (fun q => absurd q (by decide))
              refine pw_iconst (v := (-1)) rfl (by decide) ?_
              simp only [cfu, eq_false c1, eq_true (Decidable.of_not_not c2), eq_true (Decidable.of_not_not c3), eq_false c5, eq_false c6, not_true_eq_false, not_false_eq_true, and_self, and_true, true_and, and_false, false_and, or_true, true_or, or_false, false_or, or_self, if_true, if_false] at k
              exact pw_iret rfl rfl (Nat.zero_le _) (Nat.zero_le _) rfl k
          · -- 48
            refine pw_iconst (v := nI (1)) rfl (by decide) ?_
            refine pw_goto (t := 53) rfl rfl ?_
            refine pw_istore_n (ls1 := [some (.inr (some (89))), some (.inr (some (5 + 21 * p))), some (.inl (nI (u))), some (.inl (nI (1)))]) rfl (Nat.le_of_ble_eq_true rfl) rfl ?_
            refine pw_iload_n rfl rfl ?_
            refine pw_aload_n rfl rfl ?_
            refine px_getv (x := nI (ed)) rfl rfl rfl rfl (hed) ?_
            refine pw_if2p (cn_lt (by omega) (by omega)) rfl (t := 66) rfl (fun c7 => ?_) (fun c7 => ?_)
            · -- 66
              refine pw_iload_n rfl rfl ?_
              refine pw_goto (t := 71) rfl rfl ?_
              simp only [cfu, eq_false c1, eq_true (Decidable.of_not_not c2), eq_true (Decidable.of_not_not c3), eq_true (Decidable.of_not_not c5), eq_true c7, not_true_eq_false, not_false_eq_true, and_self, and_true, true_and, and_false, false_and, or_true, true_or, or_false, false_or, or_self, if_true, if_false] at k
              exact pw_iret rfl rfl (Nat.zero_le _) (Nat.zero_le _) rfl k
            · -- 62
              refine pw_iload_n rfl rfl ?_
              refine pw_if1 (t := 70) rfl rfl (fun q => absurd q (by decide)) (fun _ => ?_)
              refine pw_iload_n rfl rfl ?_
              refine pw_goto (t := 71) rfl rfl ?_
              simp only [cfu, eq_false c1, eq_true (Decidable.of_not_not c2), eq_true (Decidable.of_not_not c3), eq_true (Decidable.of_not_not c5), eq_false c7, not_true_eq_false, not_false_eq_true, and_self, and_true, true_and, and_false, false_and, or_true, true_or, or_false, false_or, or_self, if_true, if_false] at k
              exact pw_iret rfl rfl (Nat.zero_le _) (Nat.zero_le _) rfl k
theorem t_cfu {L p kn ln ed : Nat} {F G : FN} {R : RN} (hR4 : ∀ q, q < 4 → R 4 q = some (5 + 21 * q)) (hPa : ∀ q, q < 4 → pathok L (5 + 21 * q) R) {sc : Nat → Nat} {su sn : Nat → Nat → Nat} (hS : segv F R sc su sn) (hp : p < 4) (hkn : F 89 5 = nI kn) (hk : kn < 2 ^ 30) (hln : F 2 1 = nI ln) (hl : ln ≤ 401) (hed : F 89 6 = nI ed) (he : ed ≤ 500) {Q : Option PV → PH → Prop} (k : Q (some (.inl (oI (cfp F G sc su sn kn ln ed p)))) (hb (sL L) F G R sO)) : pz pP mHostA_firstUnit [.inr (some 89), .inr (some (5 + 21 * p))] (hb (sL L) F G R sO) Q := by
  show pw pP mHostA_firstUnit (0, [some (.inr (some (89))), some (.inr (some (5 + 21 * p))), none, none], [], 0, 0, hb (sL L) F G R sO) _
  refine pw_aload_n rfl rfl ?_
  refine px_getv (x := nI (kn)) rfl rfl rfl rfl (hkn) ?_
  refine pw_istore_n (ls1 := [some (.inr (some (89))), some (.inr (some (5 + 21 * p))), some (.inl (nI (kn))), none]) rfl (Nat.le_of_ble_eq_true rfl) rfl ?_
  exact t_cfu_lp hR4 hPa hS hp hkn hk hln hl hed he (ln - kn) kn _ (by omega) k
theorem t_croomb {L a sc : Nat} {F G : FN} {R : RN} (hP : pathok L a R) (hsc : F a 3 = nI sc) (hs3 : sc ≤ 3) {Q : Option PV → PH → Prop} (k : Q (some (.inl (bI (sc < 3)))) (hb (sL L) F G R sO)) : pz pP mPath_hasRoom [.inr (some a)] (hb (sL L) F G R sO) Q := by
  refine t_croom hP hsc hs3 ?_
  have e : croom_r sc = bI (sc < 3) := by
    unfold croom_r bI
    by_cases h : 3 ≤ sc
    · rw [if_pos h, if_neg (by omega)]
    · rw [if_neg h, if_pos (by omega)]
  rw [e]
  exact k
def cq1 (F : FN) (w : Int32) (sc : Nat → Nat) (fu : Nat → Option Nat) (p : Nat) (bo : Option Nat) : Option Nat := if F (5 + 21 * p) 5 = w then (if sc p < 3 then (match bo with
  | none => if oI (fu p) = (-1) then none else some p
  | some b => if cquick_r F (5 + 21 * p) (5 + 21 * b) = 0 then some b else if oI (fu p) = (-1) then some b else some p) else bo) else bo
def cqn (F : FN) (w : Int32) (sc : Nat → Nat) (fu : Nat → Option Nat) : Nat → Nat → Option Nat → Option Nat
  | 0, _, bo => bo
  | n + 1, p, bo => cqn F w sc fu n (p + 1) (cq1 F w sc fu p bo)
theorem cq1_lt {F : FN} {w : Int32} {sc : Nat → Nat} {fu : Nat → Option Nat} {p : Nat} {bo : Option Nat} (hp : p < 4) (hb : ∀ b, bo = some b → b < 4) : ∀ b, cq1 F w sc fu p bo = some b → b < 4 := by
  intro b e
  unfold cq1 at e
  split at e
  · split at e
    · split at e
      · split at e
        · cases e
        · cases e; exact hp
      · split at e
        · cases e; exact hb _ rfl
        · split at e
          · cases e; exact hb _ rfl
          · cases e; exact hp
    · exact hb b e
  · exact hb b e
theorem cqn_lt {F : FN} {w : Int32} {sc : Nat → Nat} {fu : Nat → Option Nat} : ∀ (n p : Nat) (bo : Option Nat), p + n ≤ 4 → (∀ b, bo = some b → b < 4) → ∀ b, cqn F w sc fu n p bo = some b → b < 4
  | 0, _, _, _, hb, b, e => hb b e
  | n + 1, p, bo, hn, hb, b, e => cqn_lt n (p + 1) _ (by omega) (cq1_lt (by omega) hb) b e
def oP (o : Option Nat) : Option Nat := match o with
  | none => none
  | some p => some (5 + 21 * p)
theorem t_cqk_lp {L kn ln ed : Nat} {w : Int32} {F G : FN} {R : RN} (hR4 : ∀ q, q < 4 → R 4 q = some (5 + 21 * q)) (hPa : ∀ q, q < 4 → pathok L (5 + 21 * q) R) {sc : Nat → Nat} {su sn : Nat → Nat → Nat} (hS : segv F R sc su sn) (hkn : F 89 5 = nI kn) (hk : kn < 2 ^ 30) (hln : F 2 1 = nI ln) (hl : ln ≤ 401) (hed : F 89 6 = nI ed) (he : ed ≤ 500) {Q : Option PV → PH → Prop} : ∀ (n p : Nat) (bo : Option Nat) (o4 o5 : Option PV), p + n = 4 → (∀ b, bo = some b → b < 4) → Q (some (.inr (oP (cqn F w sc (cfp F G sc su sn kn ln ed) n p bo)))) (hb (sL L) F G R sO) → pw pP mHostA_quickestThatCan (4, [some (.inr (some (89))), some (.inl (w)), some (.inr (oP bo)), some (.inl (nI (p))), o4, o5], [], 0, 0, hb (sL L) F G R sO) Q := by
  intro n
  induction n with
  | zero =>
    intro p bo o4 o5 hn hbo k
    have e : p = 4 := by omega
    subst e
    refine pw_iload_n rfl rfl ?_
    refine pw_iconst (v := nI (4)) rfl (by decide) ?_
    refine pw_if2 (t := 78) rfl rfl (fun _ => ?_) (fun q => absurd q (by decide))
    refine pw_aload_n rfl rfl ?_
    exact pw_aret rfl rfl (Nat.zero_le _) (Nat.zero_le _) rfl k
  | succ n ih =>
    intro p bo o4 o5 hn hbo k
    have hb2 := cq1_lt (F := F) (w := w) (sc := sc) (fu := (cfp F G sc su sn kn ln ed)) (bo := bo) (show p < 4 by omega) hbo
    have hp : p < 4 := by omega
    cases bo with
    | none =>
      show pw pP mHostA_quickestThatCan (4, [some (.inr (some (89))), some (.inl (w)), some (.inr none), some (.inl (nI (p))), o4, o5], [], 0, 0, hb (sL L) F G R sO) Q
      refine pw_iload_n rfl rfl ?_
      refine pw_iconst (v := nI (4)) rfl (by decide) ?_
      refine pw_if2p (cn_ge (by omega) (by omega)) rfl (t := 78) rfl (fun q => absurd q (by omega)) (fun _ => ?_)
      refine pw_aload_n rfl rfl ?_
      refine px_getr (r := some (4)) rfl rfl rfl rfl rfl ?_
      refine pw_iload_n rfl rfl ?_
      refine px_aaldn (r := (some (5 + 21 * p))) rfl rfl rfl (by omega) (by decide) (hR4 p (by omega)) ?_
      refine pw_astore (ls1 := [some (.inr (some (89))), some (.inl (w)), some (.inr none), some (.inl (nI (p))), some (.inr (some (5 + 21 * p))), o5]) rfl (Nat.le_of_ble_eq_true rfl) rfl ?_
      refine pw_aload rfl rfl ?_
      refine px_getv (x := F (5 + 21 * p) (5)) rfl rfl (hPa p (by omega)).1 rfl (rfl) ?_
      refine pw_iload_n rfl rfl ?_
      refine pw_if2p (A := ¬ F (5 + 21 * p) (5) = w) rfl rfl (t := 38) rfl (fun c1 => ?_) (fun c1 => ?_)
      · -- 38
        refine pw_iconst (v := nI (0)) rfl (by decide) ?_
        refine pw_istore (ls1 := [some (.inr (some (89))), some (.inl (w)), some (.inr none), some (.inl (nI (p))), some (.inr (some (5 + 21 * p))), some (.inl (nI (0)))]) rfl (Nat.le_of_ble_eq_true rfl) rfl ?_
        refine pw_iload rfl rfl ?_
        refine pw_if1 (t := 72) rfl rfl (fun _ => ?_) (fun q => absurd q (by decide))
        refine pw_iinc (v := nI (p + 1)) (ls1 := [some (.inr (some (89))), some (.inl (w)), some (.inr none), some (.inl (nI (p + 1))), some (.inr (some (5 + 21 * p))), some (.inl (nI (0)))]) rfl rfl (iinc_n _) rfl ?_
        refine pw_goto (t := 4) rfl rfl ?_
        have eq : cq1 F w sc (cfp F G sc su sn kn ln ed) p (none) = (none) := by simp only [cq1, eq_false c1, not_true_eq_false, not_false_eq_true, and_self, and_true, true_and, and_false, false_and, or_true, true_or, or_false, false_or, or_self, if_true, if_false]
        simp only [cqn, eq] at k
        exact ih (p + 1) (none) _ _ (by omega) (by rw [eq] at hb2; exact hb2) k
      · -- 26
        refine pw_aload rfl rfl ?_
        refine px_callv (as := [.inr (some (5 + 21 * p))]) (rest := []) rfl rfl (by decide) rfl (Nat.le_of_ble_eq_true rfl) (Nat.le_of_ble_eq_true rfl) (Nat.le_of_ble_eq_true rfl) (Nat.le_of_ble_eq_true rfl) rfl (hPa p (by omega)).1 rfl rfl ?_
        refine t_croomb (hPa p (by omega)) (hS p (by omega)).1 (hS p (by omega)).2.1 ?_
        show pw pP mHostA_quickestThatCan (31, [some (.inr (some (89))), some (.inl (w)), some (.inr none), some (.inl (nI (p))), some (.inr (some (5 + 21 * p))), o5], [.inl (bI (sc p < 3))], 0, 0, hb (sL L) F G R sO) _
        refine pw_if1p cb_eq rfl (t := 38) rfl (fun c2 => ?_) (fun c2 => ?_)
        · -- 38
          refine pw_iconst (v := nI (0)) rfl (by decide) ?_
          refine pw_istore (ls1 := [some (.inr (some (89))), some (.inl (w)), some (.inr none), some (.inl (nI (p))), some (.inr (some (5 + 21 * p))), some (.inl (nI (0)))]) rfl (Nat.le_of_ble_eq_true rfl) rfl ?_
          refine pw_iload rfl rfl ?_
          refine pw_if1 (t := 72) rfl rfl (fun _ => ?_) (fun q => absurd q (by decide))
          refine pw_iinc (v := nI (p + 1)) (ls1 := [some (.inr (some (89))), some (.inl (w)), some (.inr none), some (.inl (nI (p + 1))), some (.inr (some (5 + 21 * p))), some (.inl (nI (0)))]) rfl rfl (iinc_n _) rfl ?_
          refine pw_goto (t := 4) rfl rfl ?_
          have eq : cq1 F w sc (cfp F G sc su sn kn ln ed) p (none) = (none) := by simp only [cq1, eq_true (Decidable.of_not_not c1), eq_false c2, not_true_eq_false, not_false_eq_true, and_self, and_true, true_and, and_false, false_and, or_true, true_or, or_false, false_or, or_self, if_true, if_false]
          simp only [cqn, eq] at k
          exact ih (p + 1) (none) _ _ (by omega) (by rw [eq] at hb2; exact hb2) k
        · -- 34
          refine pw_iconst (v := nI (1)) rfl (by decide) ?_
          refine pw_goto (t := 39) rfl rfl ?_
          refine pw_istore (ls1 := [some (.inr (some (89))), some (.inl (w)), some (.inr none), some (.inl (nI (p))), some (.inr (some (5 + 21 * p))), some (.inl (nI (1)))]) rfl (Nat.le_of_ble_eq_true rfl) rfl ?_
          refine pw_iload rfl rfl ?_
          refine pw_if1 (t := 72) rfl rfl (fun q => absurd q (by decide)) (fun _ => ?_)
          refine pw_aload_n rfl rfl ?_
          refine pw_ifnullN (t := 59) rfl rfl ?_
          refine pw_aload_n rfl rfl ?_
          refine pw_aload rfl rfl ?_
          refine px_callv (as := [.inr (some (89)), .inr (some (5 + 21 * p))]) (rest := []) rfl rfl (by decide) rfl (Nat.le_of_ble_eq_true rfl) (Nat.le_of_ble_eq_true rfl) (Nat.le_of_ble_eq_true rfl) (Nat.le_of_ble_eq_true rfl) rfl rfl rfl rfl ?_
          refine t_cfu hR4 hPa hS hp hkn hk hln hl hed he ?_
          show pw pP mHostA_quickestThatCan (65, [some (.inr (some (89))), some (.inl (w)), some (.inr none), some (.inl (nI (p))), some (.inr (some (5 + 21 * p))), some (.inl (nI (1)))], [.inl (oI ((cfp F G sc su sn kn ln ed) p))], 0, 0, hb (sL L) F G R sO) _
          refine pw_iconst (v := (-1)) rfl (by decide) ?_
          refine pw_if2p (A := oI ((cfp F G sc su sn kn ln ed) p) = (-1)) rfl rfl (t := 72) rfl (fun c3 => ?_) (fun c3 => ?_)
          · -- 72
            refine pw_iinc (v := nI (p + 1)) (ls1 := [some (.inr (some (89))), some (.inl (w)), some (.inr none), some (.inl (nI (p + 1))), some (.inr (some (5 + 21 * p))), some (.inl (nI (1)))]) rfl rfl (iinc_n _) rfl ?_
            refine pw_goto (t := 4) rfl rfl ?_
            have eq : cq1 F w sc (cfp F G sc su sn kn ln ed) p (none) = (none) := by simp only [cq1, eq_true (Decidable.of_not_not c1), eq_true (Decidable.of_not_not c2), eq_true c3, not_true_eq_false, not_false_eq_true, and_self, and_true, true_and, and_false, false_and, or_true, true_or, or_false, false_or, or_self, if_true, if_false]
            simp only [cqn, eq] at k
            exact ih (p + 1) (none) _ _ (by omega) (by rw [eq] at hb2; exact hb2) k
          · -- 69
            refine pw_aload rfl rfl ?_
            refine pw_astore_n (ls1 := [some (.inr (some (89))), some (.inl (w)), some (.inr (some (5 + 21 * p))), some (.inl (nI (p))), some (.inr (some (5 + 21 * p))), some (.inl (nI (1)))]) rfl (Nat.le_of_ble_eq_true rfl) rfl ?_
            refine pw_iinc (v := nI (p + 1)) (ls1 := [some (.inr (some (89))), some (.inl (w)), some (.inr (some (5 + 21 * p))), some (.inl (nI (p + 1))), some (.inr (some (5 + 21 * p))), some (.inl (nI (1)))]) rfl rfl (iinc_n _) rfl ?_
            refine pw_goto (t := 4) rfl rfl ?_
            have eq : cq1 F w sc (cfp F G sc su sn kn ln ed) p (none) = (some p) := by simp only [cq1, eq_true (Decidable.of_not_not c1), eq_true (Decidable.of_not_not c2), eq_false c3, not_true_eq_false, not_false_eq_true, and_self, and_true, true_and, and_false, false_and, or_true, true_or, or_false, false_or, or_self, if_true, if_false]
            simp only [cqn, eq] at k
            exact ih (p + 1) (some p) _ _ (by omega) (by rw [eq] at hb2; exact hb2) k
    | some b =>
      have hb4 : b < 4 := hbo b rfl
      show pw pP mHostA_quickestThatCan (4, [some (.inr (some (89))), some (.inl (w)), some (.inr (some (5 + 21 * b))), some (.inl (nI (p))), o4, o5], [], 0, 0, hb (sL L) F G R sO) Q
      refine pw_iload_n rfl rfl ?_
      refine pw_iconst (v := nI (4)) rfl (by decide) ?_
      refine pw_if2p (cn_ge (by omega) (by omega)) rfl (t := 78) rfl (fun q => absurd q (by omega)) (fun _ => ?_)
      refine pw_aload_n rfl rfl ?_
      refine px_getr (r := some (4)) rfl rfl rfl rfl rfl ?_
      refine pw_iload_n rfl rfl ?_
      refine px_aaldn (r := (some (5 + 21 * p))) rfl rfl rfl (by omega) (by decide) (hR4 p (by omega)) ?_
      refine pw_astore (ls1 := [some (.inr (some (89))), some (.inl (w)), some (.inr (some (5 + 21 * b))), some (.inl (nI (p))), some (.inr (some (5 + 21 * p))), o5]) rfl (Nat.le_of_ble_eq_true rfl) rfl ?_
      refine pw_aload rfl rfl ?_
      refine px_getv (x := F (5 + 21 * p) (5)) rfl rfl (hPa p (by omega)).1 rfl (rfl) ?_
      refine pw_iload_n rfl rfl ?_
      refine pw_if2p (A := ¬ F (5 + 21 * p) (5) = w) rfl rfl (t := 38) rfl (fun c1 => ?_) (fun c1 => ?_)
      · -- 38
        refine pw_iconst (v := nI (0)) rfl (by decide) ?_
        refine pw_istore (ls1 := [some (.inr (some (89))), some (.inl (w)), some (.inr (some (5 + 21 * b))), some (.inl (nI (p))), some (.inr (some (5 + 21 * p))), some (.inl (nI (0)))]) rfl (Nat.le_of_ble_eq_true rfl) rfl ?_
        refine pw_iload rfl rfl ?_
        refine pw_if1 (t := 72) rfl rfl (fun _ => ?_) (fun q => absurd q (by decide))
        refine pw_iinc (v := nI (p + 1)) (ls1 := [some (.inr (some (89))), some (.inl (w)), some (.inr (some (5 + 21 * b))), some (.inl (nI (p + 1))), some (.inr (some (5 + 21 * p))), some (.inl (nI (0)))]) rfl rfl (iinc_n _) rfl ?_
        refine pw_goto (t := 4) rfl rfl ?_
        have eq : cq1 F w sc (cfp F G sc su sn kn ln ed) p (some b) = (some b) := by simp only [cq1, eq_false c1, not_true_eq_false, not_false_eq_true, and_self, and_true, true_and, and_false, false_and, or_true, true_or, or_false, false_or, or_self, if_true, if_false]
        simp only [cqn, eq] at k
        exact ih (p + 1) (some b) _ _ (by omega) (by rw [eq] at hb2; exact hb2) k
      · -- 26
        refine pw_aload rfl rfl ?_
        refine px_callv (as := [.inr (some (5 + 21 * p))]) (rest := []) rfl rfl (by decide) rfl (Nat.le_of_ble_eq_true rfl) (Nat.le_of_ble_eq_true rfl) (Nat.le_of_ble_eq_true rfl) (Nat.le_of_ble_eq_true rfl) rfl (hPa p (by omega)).1 rfl rfl ?_
        refine t_croomb (hPa p (by omega)) (hS p (by omega)).1 (hS p (by omega)).2.1 ?_
        show pw pP mHostA_quickestThatCan (31, [some (.inr (some (89))), some (.inl (w)), some (.inr (some (5 + 21 * b))), some (.inl (nI (p))), some (.inr (some (5 + 21 * p))), o5], [.inl (bI (sc p < 3))], 0, 0, hb (sL L) F G R sO) _
        refine pw_if1p cb_eq rfl (t := 38) rfl (fun c2 => ?_) (fun c2 => ?_)
        · -- 38
          refine pw_iconst (v := nI (0)) rfl (by decide) ?_
          refine pw_istore (ls1 := [some (.inr (some (89))), some (.inl (w)), some (.inr (some (5 + 21 * b))), some (.inl (nI (p))), some (.inr (some (5 + 21 * p))), some (.inl (nI (0)))]) rfl (Nat.le_of_ble_eq_true rfl) rfl ?_
          refine pw_iload rfl rfl ?_
          refine pw_if1 (t := 72) rfl rfl (fun _ => ?_) (fun q => absurd q (by decide))
          refine pw_iinc (v := nI (p + 1)) (ls1 := [some (.inr (some (89))), some (.inl (w)), some (.inr (some (5 + 21 * b))), some (.inl (nI (p + 1))), some (.inr (some (5 + 21 * p))), some (.inl (nI (0)))]) rfl rfl (iinc_n _) rfl ?_
          refine pw_goto (t := 4) rfl rfl ?_
          have eq : cq1 F w sc (cfp F G sc su sn kn ln ed) p (some b) = (some b) := by simp only [cq1, eq_true (Decidable.of_not_not c1), eq_false c2, not_true_eq_false, not_false_eq_true, and_self, and_true, true_and, and_false, false_and, or_true, true_or, or_false, false_or, or_self, if_true, if_false]
          simp only [cqn, eq] at k
          exact ih (p + 1) (some b) _ _ (by omega) (by rw [eq] at hb2; exact hb2) k
        · -- 34
          refine pw_iconst (v := nI (1)) rfl (by decide) ?_
          refine pw_goto (t := 39) rfl rfl ?_
          refine pw_istore (ls1 := [some (.inr (some (89))), some (.inl (w)), some (.inr (some (5 + 21 * b))), some (.inl (nI (p))), some (.inr (some (5 + 21 * p))), some (.inl (nI (1)))]) rfl (Nat.le_of_ble_eq_true rfl) rfl ?_
          refine pw_iload rfl rfl ?_
          refine pw_if1 (t := 72) rfl rfl (fun q => absurd q (by decide)) (fun _ => ?_)
          refine pw_aload_n rfl rfl ?_
          refine pw_ifnull (t := 59) rfl rfl ?_
          refine pw_aload rfl rfl ?_
          refine pw_aload_n rfl rfl ?_
          refine px_callv (as := [.inr (some (5 + 21 * p)), .inr (some (5 + 21 * b))]) (rest := []) rfl rfl (by decide) rfl (Nat.le_of_ble_eq_true rfl) (Nat.le_of_ble_eq_true rfl) (Nat.le_of_ble_eq_true rfl) (Nat.le_of_ble_eq_true rfl) rfl (hPa p (by omega)).1 rfl rfl ?_
          refine t_cquick (hPa p (by omega)) (hPa b (by omega)) ?_
          show pw pP mHostA_quickestThatCan (56, [some (.inr (some (89))), some (.inl (w)), some (.inr (some (5 + 21 * b))), some (.inl (nI (p))), some (.inr (some (5 + 21 * p))), some (.inl (nI (1)))], [.inl (cquick_r F (5 + 21 * p) (5 + 21 * b))], 0, 0, hb (sL L) F G R sO) _
          refine pw_if1p (A := cquick_r F (5 + 21 * p) (5 + 21 * b) = 0) rfl rfl (t := 72) rfl (fun c3 => ?_) (fun c3 => ?_)
          · -- 72
            refine pw_iinc (v := nI (p + 1)) (ls1 := [some (.inr (some (89))), some (.inl (w)), some (.inr (some (5 + 21 * b))), some (.inl (nI (p + 1))), some (.inr (some (5 + 21 * p))), some (.inl (nI (1)))]) rfl rfl (iinc_n _) rfl ?_
            refine pw_goto (t := 4) rfl rfl ?_
            have eq : cq1 F w sc (cfp F G sc su sn kn ln ed) p (some b) = (some b) := by simp only [cq1, eq_true (Decidable.of_not_not c1), eq_true (Decidable.of_not_not c2), eq_true c3, not_true_eq_false, not_false_eq_true, and_self, and_true, true_and, and_false, false_and, or_true, true_or, or_false, false_or, or_self, if_true, if_false]
            simp only [cqn, eq] at k
            exact ih (p + 1) (some b) _ _ (by omega) (by rw [eq] at hb2; exact hb2) k
          · -- 59
            refine pw_aload_n rfl rfl ?_
            refine pw_aload rfl rfl ?_
            refine px_callv (as := [.inr (some (89)), .inr (some (5 + 21 * p))]) (rest := []) rfl rfl (by decide) rfl (Nat.le_of_ble_eq_true rfl) (Nat.le_of_ble_eq_true rfl) (Nat.le_of_ble_eq_true rfl) (Nat.le_of_ble_eq_true rfl) rfl rfl rfl rfl ?_
            refine t_cfu hR4 hPa hS hp hkn hk hln hl hed he ?_
            show pw pP mHostA_quickestThatCan (65, [some (.inr (some (89))), some (.inl (w)), some (.inr (some (5 + 21 * b))), some (.inl (nI (p))), some (.inr (some (5 + 21 * p))), some (.inl (nI (1)))], [.inl (oI ((cfp F G sc su sn kn ln ed) p))], 0, 0, hb (sL L) F G R sO) _
            refine pw_iconst (v := (-1)) rfl (by decide) ?_
            refine pw_if2p (A := oI ((cfp F G sc su sn kn ln ed) p) = (-1)) rfl rfl (t := 72) rfl (fun c4 => ?_) (fun c4 => ?_)
            · -- 72
              refine pw_iinc (v := nI (p + 1)) (ls1 := [some (.inr (some (89))), some (.inl (w)), some (.inr (some (5 + 21 * b))), some (.inl (nI (p + 1))), some (.inr (some (5 + 21 * p))), some (.inl (nI (1)))]) rfl rfl (iinc_n _) rfl ?_
              refine pw_goto (t := 4) rfl rfl ?_
              have eq : cq1 F w sc (cfp F G sc su sn kn ln ed) p (some b) = (some b) := by simp only [cq1, eq_true (Decidable.of_not_not c1), eq_true (Decidable.of_not_not c2), eq_false c3, eq_true c4, not_true_eq_false, not_false_eq_true, and_self, and_true, true_and, and_false, false_and, or_true, true_or, or_false, false_or, or_self, if_true, if_false]
              simp only [cqn, eq] at k
              exact ih (p + 1) (some b) _ _ (by omega) (by rw [eq] at hb2; exact hb2) k
            · -- 69
              refine pw_aload rfl rfl ?_
              refine pw_astore_n (ls1 := [some (.inr (some (89))), some (.inl (w)), some (.inr (some (5 + 21 * p))), some (.inl (nI (p))), some (.inr (some (5 + 21 * p))), some (.inl (nI (1)))]) rfl (Nat.le_of_ble_eq_true rfl) rfl ?_
              refine pw_iinc (v := nI (p + 1)) (ls1 := [some (.inr (some (89))), some (.inl (w)), some (.inr (some (5 + 21 * p))), some (.inl (nI (p + 1))), some (.inr (some (5 + 21 * p))), some (.inl (nI (1)))]) rfl rfl (iinc_n _) rfl ?_
              refine pw_goto (t := 4) rfl rfl ?_
              have eq : cq1 F w sc (cfp F G sc su sn kn ln ed) p (some b) = (some p) := by simp only [cq1, eq_true (Decidable.of_not_not c1), eq_true (Decidable.of_not_not c2), eq_false c3, eq_false c4, not_true_eq_false, not_false_eq_true, and_self, and_true, true_and, and_false, false_and, or_true, true_or, or_false, false_or, or_self, if_true, if_false]
              simp only [cqn, eq] at k
              exact ih (p + 1) (some p) _ _ (by omega) (by rw [eq] at hb2; exact hb2) k
theorem t_cqk {L kn ln ed : Nat} {w : Int32} {F G : FN} {R : RN} (hR4 : ∀ q, q < 4 → R 4 q = some (5 + 21 * q)) (hPa : ∀ q, q < 4 → pathok L (5 + 21 * q) R) {sc : Nat → Nat} {su sn : Nat → Nat → Nat} (hS : segv F R sc su sn) (hkn : F 89 5 = nI kn) (hk : kn < 2 ^ 30) (hln : F 2 1 = nI ln) (hl : ln ≤ 401) (hed : F 89 6 = nI ed) (he : ed ≤ 500) {Q : Option PV → PH → Prop} (k : Q (some (.inr (oP (cqn F w sc (cfp F G sc su sn kn ln ed) 4 0 none)))) (hb (sL L) F G R sO)) : pz pP mHostA_quickestThatCan [.inr (some 89), .inl w] (hb (sL L) F G R sO) Q := by
  show pw pP mHostA_quickestThatCan (0, [some (.inr (some (89))), some (.inl (w)), none, none, none, none], [], 0, 0, hb (sL L) F G R sO) _
  refine pw_null rfl ?_
  refine pw_astore_n (ls1 := [some (.inr (some (89))), some (.inl (w)), some (.inr none), none, none, none]) rfl (Nat.le_of_ble_eq_true rfl) rfl ?_
  refine pw_iconst (v := nI (0)) rfl (by decide) ?_
  refine pw_istore_n (ls1 := [some (.inr (some (89))), some (.inl (w)), some (.inr none), some (.inl (nI (0))), none, none]) rfl (Nat.le_of_ble_eq_true rfl) rfl ?_
  exact t_cqk_lp hR4 hPa hS hkn hk hln hl hed he 4 0 none _ _ (by omega) (fun b h => by cases h) k
def cc1 (j : Nat) (X : FN × FN) : FN × FN := (if X.2 91 j = 0 then X.1 else up2 X.1 89 7 (X.1 89 7 + nI 1), up2 X.2 91 j (nI 1))
def ccn : Nat → Nat → FN × FN → FN × FN
  | 0, _, X => X
  | n + 1, j, X => ccn n (j + 1) (cc1 j X)
theorem ccn_F {i k : Nat} (h : ¬ (i = 89 ∧ k = 7)) : ∀ (n j : Nat) (X : FN × FN), (ccn n j X).1 i k = X.1 i k
  | 0, _, _ => rfl
  | n + 1, j, X => by
    rw [ccn, ccn_F h n (j + 1) (cc1 j X)]
    unfold cc1
    show (if X.2 91 j = 0 then X.1 else _ : FN) i k = _
    split
    · rfl
    · exact up2_ne h
theorem ccn_G {i : Nat} (h : ¬ i = 91) : ∀ (n j : Nat) (X : FN × FN), (ccn n j X).2 i = X.2 i
  | 0, _, _ => rfl
  | n + 1, j, X => by
    rw [ccn, ccn_G h n (j + 1) (cc1 j X)]
    exact up2_row h
theorem t_ccc_lp {L u m : Nat} {R : RN} {Q : Option PV → PH → Prop} (hum : u + m ≤ 401) : ∀ (n j : Nat) (X : FN × FN), j + n = u + m → Q none (hb (sL L) (ccn n j X).1 (ccn n j X).2 R sO) → pw pP mHostA_countCarried (2, [some (.inr (some (89))), some (.inl (nI (u))), some (.inl (nI (m))), some (.inl (nI (j)))], [], 0, 0, hb (sL L) X.1 X.2 R sO) Q := by
  intro n
  induction n with
  | zero =>
    intro j X hn k
    have e : j = u + m := by omega
    subst e
    refine pw_iload_n rfl rfl ?_
    refine pw_iload_n rfl rfl ?_
    refine pw_iload_n rfl rfl ?_
    refine pw_iadd (z := nI (u + m)) rfl (nI_add _ _) ?_
    refine pw_if2p (cn_ge (by omega) (by omega)) rfl (t := 48) rfl (fun _ => ?_) (fun q => absurd (Nat.le_refl _) q)
    exact pw_vret rfl rfl (Nat.zero_le _) (Nat.zero_le _) k
  | succ n ih =>
    intro j X hn k
    refine pw_iload_n rfl rfl ?_
    refine pw_iload_n rfl rfl ?_
    refine pw_iload_n rfl rfl ?_
    refine pw_iadd (z := nI (u + m)) rfl (nI_add _ _) ?_
    refine pw_if2p (cn_ge (by omega) (by omega)) rfl (t := 48) rfl (fun q => absurd q (by omega)) (fun _ => ?_)
    refine pw_iload_n rfl rfl ?_
    refine pw_sipush (v := nI (401)) rfl (by decide) ?_
    refine pw_if2p (cn_ge (by omega) (by omega)) rfl (t := 48) rfl (fun q => absurd q (by omega)) (fun _ => ?_)
    refine pw_aload_n rfl rfl ?_
    refine px_getr (r := some (91)) rfl rfl rfl rfl rfl ?_
    refine pw_iload_n rfl rfl ?_
    refine px_zaldn (x := X.2 (91) (j)) rfl rfl (by omega) (by decide) (rfl) ?_
    refine pw_if1p (A := X.2 (91) (j) = 0) rfl rfl (t := 35) rfl (fun c1 => ?_) (fun c1 => ?_)
    · -- 35
      refine pw_aload_n rfl rfl ?_
      refine px_getr (r := some (91)) rfl rfl rfl rfl rfl ?_
      refine pw_iload_n rfl rfl ?_
      refine pw_iconst (v := nI (1)) rfl (by decide) ?_
      refine px_zastn (x1 := nI (1)) rfl rfl (by omega) (by decide) (by decide) ?_
      refine pw_iinc (v := nI (j + 1)) (ls1 := [some (.inr (some (89))), some (.inl (nI (u))), some (.inl (nI (m))), some (.inl (nI (j + 1)))]) rfl rfl (iinc_n _) rfl ?_
      refine pw_goto (t := 2) rfl rfl ?_
      have e : cc1 j X = (X.1, (up2 X.2 (91) (j) (nI (1)))) := by simp only [cc1, eq_true c1, if_true, if_false]
      simp only [ccn, e] at k
      exact ih (j + 1) (X.1, (up2 X.2 (91) (j) (nI (1)))) (by omega) k
    · -- 25
      refine pw_aload_n rfl rfl ?_
      refine pw_dup rfl ?_
      refine px_getv (x := X.1 (89) (7)) rfl rfl rfl rfl (rfl) ?_
      refine pw_iconst (v := nI (1)) rfl (by decide) ?_
      refine pw_iadd (z := (X.1 (89) (7)) + (nI (1))) rfl rfl ?_
      refine px_put rfl rfl rfl rfl rfl ?_
      refine pw_aload_n rfl rfl ?_
      refine px_getr (r := some (91)) rfl rfl rfl rfl rfl ?_
      refine pw_iload_n rfl rfl ?_
      refine pw_iconst (v := nI (1)) rfl (by decide) ?_
      refine px_zastn (x1 := nI (1)) rfl rfl (by omega) (by decide) (by decide) ?_
      refine pw_iinc (v := nI (j + 1)) (ls1 := [some (.inr (some (89))), some (.inl (nI (u))), some (.inl (nI (m))), some (.inl (nI (j + 1)))]) rfl rfl (iinc_n _) rfl ?_
      refine pw_goto (t := 2) rfl rfl ?_
      have e : cc1 j X = ((up2 X.1 (89) (7) ((X.1 (89) (7)) + (nI (1)))), (up2 X.2 (91) (j) (nI (1)))) := by simp only [cc1, eq_false c1, if_true, if_false]
      simp only [ccn, e] at k
      exact ih (j + 1) ((up2 X.1 (89) (7) ((X.1 (89) (7)) + (nI (1)))), (up2 X.2 (91) (j) (nI (1)))) (by omega) k
theorem t_ccc {L u m : Nat} {F G : FN} {R : RN} {Q : Option PV → PH → Prop} (hum : u + m ≤ 401) (k : Q none (hb (sL L) (ccn m u (F, G)).1 (ccn m u (F, G)).2 R sO)) : pz pP mHostA_countCarried [.inr (some 89), .inl (nI u), .inl (nI m)] (hb (sL L) F G R sO) Q := by
  show pw pP mHostA_countCarried (0, [some (.inr (some (89))), some (.inl (nI (u))), some (.inl (nI (m))), none], [], 0, 0, hb (sL L) F G R sO) _
  refine pw_iload_n rfl rfl ?_
  refine pw_istore_n (ls1 := [some (.inr (some (89))), some (.inl (nI (u))), some (.inl (nI (m))), some (.inl (nI (u)))]) rfl (Nat.le_of_ble_eq_true rfl) rfl ?_
  exact t_ccc_lp hum m u (F, G) (by omega) k
def cnu (lz : Nat → Bool) (u ed : Nat) : Nat → Nat → Nat
  | 0, m => m
  | n + 1, m => if ed ≤ u + m then m else if lz (u + m) = true then cnu lz u ed n (m + 1) else m
def cns_F (F G : FN) (a s sc hi u m : Nat) : FN := cadd_F (ccn m u (F, G)).1 a s sc hi m u m
def cns_G (F G : FN) (u m : Nat) : FN := (ccn m u (F, G)).2
theorem t_cnu_lp {L p u kn ln ed ms : Nat} {F G : FN} {R : RN} (hR4 : ∀ q, q < 4 → R 4 q = some (5 + 21 * q)) (hPa : ∀ q, q < 4 → pathok L (5 + 21 * q) R) {sc : Nat → Nat} {su sn : Nat → Nat → Nat} (hS : segv F R sc su sn) (hp : p < 4) (hkn : F 89 5 = nI kn) (hk : kn < 2 ^ 30) (hln : F 2 1 = nI ln) (hl : ln ≤ 401) (hed : F 89 6 = nI ed) (he : ed ≤ 500) (hms : F 89 2 = nI ms) (hm7 : ms ≤ 7) (hm1 : 1 ≤ ms) (hu : u ≤ 401) {Q : Option PV → PH → Prop} : ∀ (n m : Nat), m + n = ms → pw pP mHostA_nextSegment (50, [some (.inr (some (89))), some (.inr (some (5 + 21 * p))), some (.inl (nI (u))), some (.inl (nI (cnu (fun u => clo F G sc su sn p u kn ln) u ed n m)))], [], 0, 0, hb (sL L) F G R sO) Q → pw pP mHostA_nextSegment (15, [some (.inr (some (89))), some (.inr (some (5 + 21 * p))), some (.inl (nI (u))), some (.inl (nI (m)))], [], 0, 0, hb (sL L) F G R sO) Q := by
  intro n
  induction n with
  | zero =>
    intro m hn k
    have e : ms = m := by omega
    subst e
    refine pw_iload_n rfl rfl ?_
    refine pw_aload_n rfl rfl ?_
    refine px_getv (x := nI (ms)) rfl rfl rfl rfl (hms) ?_
    refine pw_if2p (cn_ge (by omega) (by omega)) rfl (t := 50) rfl (fun _ => ?_) (fun q => absurd (Nat.le_refl _) q)
    exact k
  | succ n ih =>
    intro m hn k
    refine pw_iload_n rfl rfl ?_
    refine pw_aload_n rfl rfl ?_
    refine px_getv (x := nI (ms)) rfl rfl rfl rfl (hms) ?_
    refine pw_if2p (cn_ge (by omega) (by omega)) rfl (t := 50) rfl (fun q => absurd q (by omega)) (fun _ => ?_)
    refine pw_iload_n rfl rfl ?_
    refine pw_iload_n rfl rfl ?_
    refine pw_iadd (z := nI (u + m)) rfl (nI_add _ _) ?_
    refine pw_aload_n rfl rfl ?_
    refine px_getv (x := nI (ed)) rfl rfl rfl rfl (hed) ?_
    refine pw_if2p (cn_ge (by omega) (by omega)) rfl (t := 50) rfl (fun c1 => ?_) (fun c1 => ?_)
    · -- 50
      simp only [cnu, eq_true c1, not_true_eq_false, not_false_eq_true, and_self, and_true, true_and, and_false, false_and, or_true, true_or, or_false, false_or, or_self, if_true, if_false] at k
      exact k
    · -- 33
      refine pw_aload_n rfl rfl ?_
      refine pw_iload_n rfl rfl ?_
      refine pw_iload_n rfl rfl ?_
      refine pw_iadd (z := nI (u + m)) rfl (nI_add _ _) ?_
      refine pw_aload_n rfl rfl ?_
      refine px_callv (as := [.inr (some (89)), .inl (nI (u + m)), .inr (some (5 + 21 * p))]) (rest := []) rfl rfl (by decide) rfl (Nat.le_of_ble_eq_true rfl) (Nat.le_of_ble_eq_true rfl) (Nat.le_of_ble_eq_true rfl) (Nat.le_of_ble_eq_true rfl) rfl rfl rfl rfl ?_
      refine t_cloose hR4 hPa hS hp (by omega) hkn hk hln hl ?_
      show pw pP mHostA_nextSegment (41, [some (.inr (some (89))), some (.inr (some (5 + 21 * p))), some (.inl (nI (u))), some (.inl (nI (m)))], [.inl (bI (clo F G sc su sn p (u + m) kn ln = true))], 0, 0, hb (sL L) F G R sO) _
      refine pw_if1p cb_eq rfl (t := 50) rfl (fun c2 => ?_) (fun c2 => ?_)
      · -- 50
        simp only [cnu, eq_false c1, eq_false c2, not_true_eq_false, not_false_eq_true, and_self, and_true, true_and, and_false, false_and, or_true, true_or, or_false, false_or, or_self, if_true, if_false] at k
        exact k
      · -- 44
        refine pw_iinc (v := nI (m + 1)) (ls1 := [some (.inr (some (89))), some (.inr (some (5 + 21 * p))), some (.inl (nI (u))), some (.inl (nI (m + 1)))]) rfl rfl (iinc_n _) rfl ?_
        refine pw_goto (t := 15) rfl rfl ?_
        simp only [cnu, eq_false c1, eq_true (Decidable.of_not_not c2), not_true_eq_false, not_false_eq_true, and_self, and_true, true_and, and_false, false_and, or_true, true_or, or_false, false_or, or_self, if_true, if_false] at k
        exact ih (m + 1) (by omega) k
theorem nI_nm1 {u : Nat} (h : u < 2 ^ 31) : ¬ nI u = (-1) := by
  intro e
  have h0 : ¬ nI u < 0 := nI_pos h
  rw [e] at h0
  exact h0 (by decide)
theorem t_cns {L p u m s kn ln ed ms hi : Nat} {F G : FN} {R : RN} (hR4 : ∀ q, q < 4 → R 4 q = some (5 + 21 * q)) (hPa : ∀ q, q < 4 → pathok L (5 + 21 * q) R) {sc : Nat → Nat} {su sn : Nat → Nat → Nat} (hS : segv F R sc su sn) (hp : p < 4) (hkn : F 89 5 = nI kn) (hk : kn < 2 ^ 30) (hln : F 2 1 = nI ln) (hl : ln ≤ 401) (hed : F 89 6 = nI ed) (he : ed ≤ 500) (hms : F 89 2 = nI ms) (hm7 : ms ≤ 7) (hm1 : 1 ≤ ms) (hu : u ≤ 401) (hf : cfp F G sc su sn kn ln ed p = some u) (hm : cnu (fun u => clo F G sc su sn p u kn ln) u ed (ms - 1) 1 = m) (hum : u + m ≤ 401) (hs3 : sc p < 3) (hhi : F (5 + 21 * p) 4 = nI hi) (hx : R (5 + 21 * p + 17) (sc p) = some s) (hss : (sL L)[s]? = some (2, 6, [0, 0, 0, 0, 0, 0], 0)) (hsr : 5 + 21 * p + 18 ≤ s ∧ s ≤ 5 + 21 * p + 20) {Q : Option PV → PH → Prop} (k : Q (some (.inr (some s))) (hb (sL L) (cns_F F G (5 + 21 * p) s (sc p) hi u m) (cns_G F G u m) R sO)) : pz pP mHostA_nextSegment [.inr (some 89), .inr (some (5 + 21 * p))] (hb (sL L) F G R sO) Q := by
  show pw pP mHostA_nextSegment (0, [some (.inr (some (89))), some (.inr (some (5 + 21 * p))), none, none], [], 0, 0, hb (sL L) F G R sO) _
  refine pw_aload_n rfl rfl ?_
  refine pw_aload_n rfl rfl ?_
  refine px_callv (as := [.inr (some (89)), .inr (some (5 + 21 * p))]) (rest := []) rfl rfl (by decide) rfl (Nat.le_of_ble_eq_true rfl) (Nat.le_of_ble_eq_true rfl) (Nat.le_of_ble_eq_true rfl) (Nat.le_of_ble_eq_true rfl) rfl rfl rfl rfl ?_
  refine t_cfu hR4 hPa hS hp hkn hk hln hl hed he ?_
  rw [hf]
  show pw pP mHostA_nextSegment (5, [some (.inr (some (89))), some (.inr (some (5 + 21 * p))), none, none], [.inl (nI (u))], 0, 0, hb (sL L) F G R sO) _
  refine pw_istore_n (ls1 := [some (.inr (some (89))), some (.inr (some (5 + 21 * p))), some (.inl (nI (u))), none]) rfl (Nat.le_of_ble_eq_true rfl) rfl ?_
  refine pw_iload_n rfl rfl ?_
  refine pw_iconst (v := (-1)) rfl (by decide) ?_
  refine pw_if2p (A := ¬ nI (u) = (-1)) rfl rfl (t := 13) rfl (fun _ => ?_) (fun q => absurd (nI_nm1 (by omega)) q)
  refine pw_iconst (v := nI (1)) rfl (by decide) ?_
  refine pw_istore_n (ls1 := [some (.inr (some (89))), some (.inr (some (5 + 21 * p))), some (.inl (nI (u))), some (.inl (nI (1)))]) rfl (Nat.le_of_ble_eq_true rfl) rfl ?_
  refine t_cnu_lp hR4 hPa hS hp hkn hk hln hl hed he hms hm7 hm1 hu (ms - 1) 1 (by omega) ?_
  rw [hm]
  refine pw_aload_n rfl rfl ?_
  refine pw_iload_n rfl rfl ?_
  refine pw_iload_n rfl rfl ?_
  refine px_callv (as := [.inr (some (89)), .inl (nI (u)), .inl (nI (m))]) (rest := []) rfl rfl (by decide) rfl (Nat.le_of_ble_eq_true rfl) (Nat.le_of_ble_eq_true rfl) (Nat.le_of_ble_eq_true rfl) (Nat.le_of_ble_eq_true rfl) rfl rfl rfl rfl ?_
  refine t_ccc hum ?_
  show pw pP mHostA_nextSegment (56, [some (.inr (some (89))), some (.inr (some (5 + 21 * p))), some (.inl (nI (u))), some (.inl (nI (m)))], [], 0, 0, hb (sL L) (ccn m u (F, G)).1 (ccn m u (F, G)).2 R sO) _
  refine pw_aload_n rfl rfl ?_
  refine pw_iload_n rfl rfl ?_
  refine pw_iload_n rfl rfl ?_
  refine pw_iload_n rfl rfl ?_
  refine px_callv (as := [.inr (some (5 + 21 * p)), .inl (nI (m)), .inl (nI (u)), .inl (nI (m))]) (rest := []) rfl rfl (by decide) rfl (Nat.le_of_ble_eq_true rfl) (Nat.le_of_ble_eq_true rfl) (Nat.le_of_ble_eq_true rfl) (Nat.le_of_ble_eq_true rfl) rfl (hPa p (by omega)).1 rfl rfl ?_
  refine t_cadd (m := m) (u := u) (un := m) (hPa p (by omega)) ((ccn_F (by omega) _ _ _).trans (hS p hp).1) hs3 ((ccn_F (by omega) _ _ _).trans hhi) hx hss hsr ?_
  show pw pP mHostA_nextSegment (63, [some (.inr (some (89))), some (.inr (some (5 + 21 * p))), some (.inl (nI (u))), some (.inl (nI (m)))], [.inr (some (s))], 0, 0, hb (sL L) (cns_F F G (5 + 21 * p) s (sc p) hi u m) (ccn m u (F, G)).2 R sO) _
  exact pw_aret rfl rfl (Nat.zero_le _) (Nat.zero_le _) rfl k
