/-! THE REFERENCE, ninth part: open, load. Rows laid by a program (wip/whole/gen/twin8.py). -/
/-- does a path wait for its SYN while none was ever open -/
def tow (F G : FN) : Nat → Nat → Nat → Nat
  | 0, _, w => w
  | n + 1, q, w => tow F G n (q + 1) (if w = 0 then (if G 107 q = nI 1 then (if F 103 25 = 0 then 1 else 0) else 0) else 1)
theorem t_open_lp {L : Nat} {x d tk : Int32} {F G : FN} {R : RN} {Q : Option PV → PH → Prop} : ∀ (n q w : Nat), q + n = 4 → w ≤ 1 → pw pP mSBModel_open (48, [some (.inr (some (103))), some (.inl (x)), some (.inl (d)), some (.inl (tk)), some (.inl (nI (tow F G n q w))), some (.inl (nI (4)))], [], 0, 0, hb (sL L) F G R sO) Q → pw pP mSBModel_open (6, [some (.inr (some (103))), some (.inl (x)), some (.inl (d)), some (.inl (tk)), some (.inl (nI (w))), some (.inl (nI (q)))], [], 0, 0, hb (sL L) F G R sO) Q := by
  intro n
  induction n with
  | zero =>
    intro q w hn hw k
    have e : q = 4 := by omega
    subst e
    refine pw_iload rfl rfl ?_
    refine pw_iconst (v := nI (4)) rfl (by decide) ?_
    refine pw_if2 (t := 48) rfl rfl (fun _ => ?_) (fun q => absurd q (by decide))
    exact k
  | succ n ih =>
    intro q w hn hw k
    refine pw_iload rfl rfl ?_
    refine pw_iconst (v := nI (4)) rfl (by decide) ?_
    refine pw_if2p (cn_ge (by omega) (by omega)) rfl (t := 48) rfl (fun c1 => ?_) (fun c1 => ?_)
    · -- 48
      exact absurd c1 (by omega)
    · -- 12
      refine pw_iload rfl rfl ?_
      refine pw_if1p (cz_ne (by omega)) rfl (t := 35) rfl (fun c2 => ?_) (fun c2 => ?_)
      · -- 35
        refine pw_iconst (v := nI (1)) rfl (by decide) ?_
        refine pw_goto (t := 40) rfl rfl ?_
        refine pw_istore (ls1 := [some (.inr (some (103))), some (.inl (x)), some (.inl (d)), some (.inl (tk)), some (.inl (nI (1))), some (.inl (nI (q)))]) rfl (Nat.le_of_ble_eq_true rfl) rfl ?_
        refine pw_iinc (v := nI (q + 1)) (ls1 := [some (.inr (some (103))), some (.inl (x)), some (.inl (d)), some (.inl (tk)), some (.inl (nI (1))), some (.inl (nI (q + 1)))]) rfl rfl (iinc_n _) rfl ?_
        refine pw_goto (t := 6) rfl rfl ?_
        exact ih (q + 1) _ (by omega) (by omega) (by simp only [tow, eq_false c2, if_true, if_false] at k; exact k)
      · -- 17
        refine pw_aload_n rfl rfl ?_
        refine px_getr (r := some (107)) rfl rfl rfl rfl rfl ?_
        refine pw_iload rfl rfl ?_
        refine px_ialdn (x := G (107) (q)) rfl rfl (by omega) (by decide) (rfl) ?_
        refine pw_iconst (v := nI (1)) rfl (by decide) ?_
        refine pw_if2p (A := ¬ G (107) (q) = nI (1)) rfl rfl (t := 39) rfl (fun c3 => ?_) (fun c3 => ?_)
        · -- 39
          refine pw_iconst (v := nI (0)) rfl (by decide) ?_
          refine pw_istore (ls1 := [some (.inr (some (103))), some (.inl (x)), some (.inl (d)), some (.inl (tk)), some (.inl (nI (0))), some (.inl (nI (q)))]) rfl (Nat.le_of_ble_eq_true rfl) rfl ?_
          refine pw_iinc (v := nI (q + 1)) (ls1 := [some (.inr (some (103))), some (.inl (x)), some (.inl (d)), some (.inl (tk)), some (.inl (nI (0))), some (.inl (nI (q + 1)))]) rfl rfl (iinc_n _) rfl ?_
          refine pw_goto (t := 6) rfl rfl ?_
          exact ih (q + 1) _ (by omega) (by omega) (by simp only [tow, eq_true (Decidable.of_not_not c2), eq_false c3, if_true, if_false] at k; exact k)
        · -- 28
          refine pw_aload_n rfl rfl ?_
          refine px_getv (x := F (103) (25)) rfl rfl rfl rfl (rfl) ?_
          refine pw_if1p (A := ¬ F (103) (25) = 0) rfl rfl (t := 39) rfl (fun c4 => ?_) (fun c4 => ?_)
          · -- 39
            refine pw_iconst (v := nI (0)) rfl (by decide) ?_
            refine pw_istore (ls1 := [some (.inr (some (103))), some (.inl (x)), some (.inl (d)), some (.inl (tk)), some (.inl (nI (0))), some (.inl (nI (q)))]) rfl (Nat.le_of_ble_eq_true rfl) rfl ?_
            refine pw_iinc (v := nI (q + 1)) (ls1 := [some (.inr (some (103))), some (.inl (x)), some (.inl (d)), some (.inl (tk)), some (.inl (nI (0))), some (.inl (nI (q + 1)))]) rfl rfl (iinc_n _) rfl ?_
            refine pw_goto (t := 6) rfl rfl ?_
            exact ih (q + 1) _ (by omega) (by omega) (by simp only [tow, eq_true (Decidable.of_not_not c2), eq_true (Decidable.of_not_not c3), eq_false c4, if_true, if_false] at k; exact k)
          · -- 35
            refine pw_iconst (v := nI (1)) rfl (by decide) ?_
            refine pw_goto (t := 40) rfl rfl ?_
            refine pw_istore (ls1 := [some (.inr (some (103))), some (.inl (x)), some (.inl (d)), some (.inl (tk)), some (.inl (nI (1))), some (.inl (nI (q)))]) rfl (Nat.le_of_ble_eq_true rfl) rfl ?_
            refine pw_iinc (v := nI (q + 1)) (ls1 := [some (.inr (some (103))), some (.inl (x)), some (.inl (d)), some (.inl (tk)), some (.inl (nI (1))), some (.inl (nI (q + 1)))]) rfl rfl (iinc_n _) rfl ?_
            refine pw_goto (t := 6) rfl rfl ?_
            exact ih (q + 1) _ (by omega) (by omega) (by simp only [tow, eq_true (Decidable.of_not_not c2), eq_true (Decidable.of_not_not c3), eq_true (Decidable.of_not_not c4), if_true, if_false] at k; exact k)
def open_r (G : FN) (p w : Nat) (d : Int32) : Int32 := (if ¬ w = 0 then nI (0) else (if d < nI (1) then nI (0) else (if d ≤ nI (40) then (if G (107) (p) = 0 then nI (1) else nI (0)) else nI (0))))
def open_G (F G : FN) (p hi fl w : Nat) (d tk : Int32) : FN := (if ¬ w = 0 then G else (if d < nI (1) then G else (if d ≤ nI (40) then (if G (107) (p) = 0 then (bendS F (up2 (tb0 F (up2 (up2 (up2 G (107) (p) (nI (1))) (108) (p) (d)) (109) (p) (tk)) p 1 hi) 118 (402 * p + hi + 0) ((-1) + nI 0)) p hi fl) else G) else G)))
theorem tow_le {F G : FN} : ∀ (n q w : Nat), w ≤ 1 → tow F G n q w ≤ 1
  | 0, _, _, h => h
  | n + 1, q, w, h => by
    refine tow_le n (q + 1) _ ?_
    split
    · split
      · split <;> decide
      · decide
    · decide
theorem t_open_48 {L p hi fl : Nat} {d tk : Int32} {F G : FN} {R : RN} (hp : p < 4) (hhi : G 116 p = nI hi) (hh : G 107 p = 0 → hi < 402) (hfl : G 124 (2 * p) = nI fl) (hf6 : fl ≤ 6) {w : Nat} (hw : w ≤ 1) {Q : Option PV → PH → Prop} (k : Q (some (.inl (open_r G p w d))) (hb (sL L) F (open_G F G p hi fl w d tk) R sO)) : pw pP mSBModel_open (48, [some (.inr (some (103))), some (.inl (nI (p))), some (.inl (d)), some (.inl (tk)), some (.inl (nI (w))), some (.inl (nI (4)))], [], 0, 0, hb (sL L) F G R sO) Q := by
  refine pw_iload_n rfl rfl ?_
  refine pw_calls (as := [.inl (nI (p))]) (rest := []) rfl rfl (by decide) rfl (Nat.le_of_ble_eq_true rfl) (Nat.le_of_ble_eq_true rfl) (Nat.le_of_ble_eq_true rfl) (Nat.le_of_ble_eq_true rfl) rfl rfl ?_
  refine t_path_in hp ?_
  show pw pP mSBModel_open (52, [some (.inr (some (103))), some (.inl (nI (p))), some (.inl (d)), some (.inl (tk)), some (.inl (nI (w))), some (.inl (nI (4)))], [.inl (nI (1))], 0, 0, hb (sL L) F G R sO) _
  refine pw_if1 (t := 71) rfl rfl (fun q => absurd q (by decide)) (fun _ => ?_)
  refine pw_iload rfl rfl ?_
  refine pw_if1p (cz_ne (by omega)) rfl (t := 71) rfl (fun c1 => ?_) (fun c1 => ?_)
  · -- 71
    refine pw_iconst (v := nI (0)) rfl (by decide) ?_
    exact pw_iret rfl rfl (Nat.zero_le _) (Nat.zero_le _) rfl (by simp only [open_r, open_G, c1, if_true, if_false] at k; exact k)
  · -- 60
    refine pw_iload_n rfl rfl ?_
    refine pw_iconst (v := nI (1)) rfl (by decide) ?_
    refine pw_if2p (A := d < nI (1)) rfl rfl (t := 71) rfl (fun c2 => ?_) (fun c2 => ?_)
    · -- 71
      refine pw_iconst (v := nI (0)) rfl (by decide) ?_
      exact pw_iret rfl rfl (Nat.zero_le _) (Nat.zero_le _) rfl (by simp only [open_r, open_G, c1, c2, if_true, if_false] at k; exact k)
    · -- 65
      refine pw_iload_n rfl rfl ?_
      refine pw_bipush (v := nI (40)) rfl (by decide) ?_
      refine pw_if2p (A := d ≤ nI (40)) rfl rfl (t := 73) rfl (fun c3 => ?_) (fun c3 => ?_)
      · -- 73
        refine pw_aload_n rfl rfl ?_
        refine px_getr (r := some (107)) rfl rfl rfl rfl rfl ?_
        refine pw_iload_n rfl rfl ?_
        refine px_ialdn (x := G (107) (p)) rfl rfl (by omega) (by decide) (rfl) ?_
        refine pw_if1p (A := G (107) (p) = 0) rfl rfl (t := 84) rfl (fun c4 => ?_) (fun c4 => ?_)
        · -- 84
          refine pw_aload_n rfl rfl ?_
          refine px_getr (r := some (107)) rfl rfl rfl rfl rfl ?_
          refine pw_iload_n rfl rfl ?_
          refine pw_iconst (v := nI (1)) rfl (by decide) ?_
          refine px_iastn rfl rfl (by omega) (by decide) ?_
          refine pw_aload_n rfl rfl ?_
          refine px_getr (r := some (108)) rfl rfl rfl rfl rfl ?_
          refine pw_iload_n rfl rfl ?_
          refine pw_iload_n rfl rfl ?_
          refine px_iastn rfl rfl (by omega) (by decide) ?_
          refine pw_aload_n rfl rfl ?_
          refine px_getr (r := some (109)) rfl rfl rfl rfl rfl ?_
          refine pw_iload_n rfl rfl ?_
          refine pw_iload_n rfl rfl ?_
          refine px_iastn rfl rfl (by omega) (by decide) ?_
          refine pw_aload_n rfl rfl ?_
          refine pw_iload_n rfl rfl ?_
          refine pw_iconst (v := (-1)) rfl (by decide) ?_
          refine pw_iconst (v := nI (1)) rfl (by decide) ?_
          refine px_callv (as := [.inr (some (103)), .inl (nI (p)), .inl ((-1)), .inl (nI (1))]) (rest := []) rfl rfl (by decide) rfl (Nat.le_of_ble_eq_true rfl) (Nat.le_of_ble_eq_true rfl) (Nat.le_of_ble_eq_true rfl) (Nat.le_of_ble_eq_true rfl) rfl rfl rfl rfl ?_
          refine t_beginS hp (hh c4) (((up2_ne1 (by decide)).trans ((up2_ne1 (by decide)).trans (up2_ne1 (by decide)))).trans (hhi)) (((up2_ne1 (by decide)).trans ((up2_ne1 (by decide)).trans (up2_ne1 (by decide)))).trans (hfl)) hf6 ?_
          show pw pP mSBModel_open (112, [some (.inr (some (103))), some (.inl (nI (p))), some (.inl (d)), some (.inl (tk)), some (.inl (nI (w))), some (.inl (nI (4)))], [], 0, 0, hb (sL L) F (bendS F (up2 (tb0 F (up2 (up2 (up2 G (107) (p) (nI (1))) (108) (p) (d)) (109) (p) (tk)) p 1 hi) 118 (402 * p + hi + 0) ((-1) + nI 0)) p hi fl) R sO) _
          refine pw_iconst (v := nI (1)) rfl (by decide) ?_
          exact pw_iret rfl rfl (Nat.zero_le _) (Nat.zero_le _) rfl (by simp only [open_r, open_G, c1, c2, c3, c4, if_true, if_false] at k; exact k)
        · -- 82
          refine pw_iconst (v := nI (0)) rfl (by decide) ?_
          exact pw_iret rfl rfl (Nat.zero_le _) (Nat.zero_le _) rfl (by simp only [open_r, open_G, c1, c2, c3, c4, if_true, if_false] at k; exact k)
      · -- 71
        refine pw_iconst (v := nI (0)) rfl (by decide) ?_
        exact pw_iret rfl rfl (Nat.zero_le _) (Nat.zero_le _) rfl (by simp only [open_r, open_G, c1, c2, c3, if_true, if_false] at k; exact k)
theorem t_open {L p hi fl : Nat} {d tk : Int32} {F G : FN} {R : RN} (hp : p < 4) (hhi : G 116 p = nI hi) (hh : G 107 p = 0 → hi < 402) (hfl : G 124 (2 * p) = nI fl) (hf6 : fl ≤ 6) {Q : Option PV → PH → Prop} (k : Q (some (.inl (open_r G p (tow F G 4 0 0) d))) (hb (sL L) F (open_G F G p hi fl (tow F G 4 0 0) d tk) R sO)) : pz pP mSBModel_open [.inr (some (103)), .inl (nI (p)), .inl (d), .inl (tk)] (hb (sL L) F G R sO) Q := by
  show pw pP mSBModel_open (0, [some (.inr (some (103))), some (.inl (nI (p))), some (.inl (d)), some (.inl (tk)), none, none], [], 0, 0, hb (sL L) F G R sO) _
  refine pw_iconst (v := nI (0)) rfl (by decide) ?_
  refine pw_istore (ls1 := [some (.inr (some (103))), some (.inl (nI (p))), some (.inl (d)), some (.inl (tk)), some (.inl (nI (0))), none]) rfl (Nat.le_of_ble_eq_true rfl) rfl ?_
  refine pw_iconst (v := nI (0)) rfl (by decide) ?_
  refine pw_istore (ls1 := [some (.inr (some (103))), some (.inl (nI (p))), some (.inl (d)), some (.inl (tk)), some (.inl (nI (0))), some (.inl (nI (0)))]) rfl (Nat.le_of_ble_eq_true rfl) rfl ?_
  exact t_open_lp 4 0 0 rfl (by decide) (t_open_48 hp hhi hh hfl hf6 (tow_le 4 0 0 (by decide)) k)
theorem t_open_no_48 {L : Nat} {p d tk : Int32} {F G : FN} {R : RN} (hp : p < 0 ∨ nI 4 ≤ p) {w : Nat} (hw : w ≤ 1) {Q : Option PV → PH → Prop} (k : Q (some (.inl (nI 0))) (hb (sL L) F G R sO)) : pw pP mSBModel_open (48, [some (.inr (some (103))), some (.inl (p)), some (.inl (d)), some (.inl (tk)), some (.inl (nI (w))), some (.inl (nI (4)))], [], 0, 0, hb (sL L) F G R sO) Q := by
  refine pw_iload_n rfl rfl ?_
  refine pw_calls (as := [.inl (p)]) (rest := []) rfl rfl (by decide) rfl (Nat.le_of_ble_eq_true rfl) (Nat.le_of_ble_eq_true rfl) (Nat.le_of_ble_eq_true rfl) (Nat.le_of_ble_eq_true rfl) rfl rfl ?_
  refine t_path_out hp ?_
  show pw pP mSBModel_open (52, [some (.inr (some (103))), some (.inl (p)), some (.inl (d)), some (.inl (tk)), some (.inl (nI (w))), some (.inl (nI (4)))], [.inl (nI (0))], 0, 0, hb (sL L) F G R sO) _
  refine pw_if1 (t := 71) rfl rfl (fun _ => ?_) (fun q => absurd q (by decide))
  refine pw_iconst (v := nI (0)) rfl (by decide) ?_
  exact pw_iret rfl rfl (Nat.zero_le _) (Nat.zero_le _) rfl k
theorem t_open_no {L : Nat} {p d tk : Int32} {F G : FN} {R : RN} (hp : p < 0 ∨ nI 4 ≤ p) {Q : Option PV → PH → Prop} (k : Q (some (.inl (nI 0))) (hb (sL L) F G R sO)) : pz pP mSBModel_open [.inr (some (103)), .inl (p), .inl (d), .inl (tk)] (hb (sL L) F G R sO) Q := by
  show pw pP mSBModel_open (0, [some (.inr (some (103))), some (.inl (p)), some (.inl (d)), some (.inl (tk)), none, none], [], 0, 0, hb (sL L) F G R sO) _
  refine pw_iconst (v := nI (0)) rfl (by decide) ?_
  refine pw_istore (ls1 := [some (.inr (some (103))), some (.inl (p)), some (.inl (d)), some (.inl (tk)), some (.inl (nI (0))), none]) rfl (Nat.le_of_ble_eq_true rfl) rfl ?_
  refine pw_iconst (v := nI (0)) rfl (by decide) ?_
  refine pw_istore (ls1 := [some (.inr (some (103))), some (.inl (p)), some (.inl (d)), some (.inl (tk)), some (.inl (nI (0))), some (.inl (nI (0)))]) rfl (Nat.le_of_ble_eq_true rfl) rfl ?_
  exact t_open_lp 4 0 0 rfl (by decide) (t_open_no_48 hp (tow_le 4 0 0 (by decide)) k)
