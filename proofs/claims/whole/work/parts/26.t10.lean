/-! THE REFERENCE, tenth part: load. Rows laid by a program (wip/whole/gen/twin8.py). -/
/-- the first loose unit of the n from u on -/
def tl1 (F G : FN) (p kn ln : Nat) : Nat → Nat → Nat
  | 0, u => u
  | n + 1, u => if tloose F G p u kn ln = 0 then tl1 F G p kn ln n (u + 1) else u
/-- how many units go together -/
def tl2 (F G : FN) (p u kn ln ed : Nat) : Nat → Nat → Nat
  | 0, m => m
  | n + 1, m => if ed ≤ u + m then m else if tloose F G p (u + m) kn ln = 0 then m else tl2 F G p u kn ln ed n (m + 1)
theorem t_load_1 {L p kn ln : Nat} {F G : FN} {R : RN} {Q : Option PV → PH → Prop} (hp : p < 4) (hkn : F 103 22 = nI kn) (hln : tlen F = nI ln) (hl2 : ln ≤ 401) (hkl : kn ≤ ln) : ∀ (n u : Nat), u + n = ln → pw pP mSBModel_load (30, [some (.inr (some (103))), some (.inl (nI (p))), some (.inl (nI (tl1 F G p kn ln n u))), some (.inl (nI (ln))), none], [], 0, 0, hb (sL L) F G R sO) Q → pw pP mSBModel_load (10, [some (.inr (some (103))), some (.inl (nI (p))), some (.inl (nI (u))), some (.inl (nI (ln))), none], [], 0, 0, hb (sL L) F G R sO) Q := by
  intro n
  induction n with
  | zero =>
    intro u hn k
    refine pw_iload_n rfl rfl ?_
    refine pw_iload_n rfl rfl ?_
    refine pw_if2p (cn_ge (by omega) (by omega)) rfl (t := 30) rfl (fun c1 => ?_) (fun c1 => ?_)
    · -- 30
      exact k
    · -- 15
      exact absurd c1 (by omega)
  | succ n ih =>
    intro u hn k
    refine pw_iload_n rfl rfl ?_
    refine pw_iload_n rfl rfl ?_
    refine pw_if2p (cn_ge (by omega) (by omega)) rfl (t := 30) rfl (fun c1 => ?_) (fun c1 => ?_)
    · -- 30
      exact absurd c1 (by omega)
    · -- 15
      refine pw_aload_n rfl rfl ?_
      refine pw_iload_n rfl rfl ?_
      refine pw_iload_n rfl rfl ?_
      refine px_callv (as := [.inr (some (103)), .inl (nI (p)), .inl (nI (u))]) (rest := []) rfl rfl (by decide) rfl (Nat.le_of_ble_eq_true rfl) (Nat.le_of_ble_eq_true rfl) (Nat.le_of_ble_eq_true rfl) (Nat.le_of_ble_eq_true rfl) rfl rfl rfl rfl ?_
      refine t_loose hp (by omega) hkn (by omega) hln hl2 ?_
      show pw pP mSBModel_load (21, [some (.inr (some (103))), some (.inl (nI (p))), some (.inl (nI (u))), some (.inl (nI (ln))), none], [.inl (tloose F G p (u) kn ln)], 0, 0, hb (sL L) F G R sO) _
      refine pw_if1p (A := ¬ tloose F G p (u) kn ln = 0) rfl rfl (t := 30) rfl (fun c2 => ?_) (fun c2 => ?_)
      · -- 30
        simp only [tl1, eq_false c2, if_true, if_false] at k
        exact k
      · -- 24
        refine pw_iinc (v := nI (u + 1)) (ls1 := [some (.inr (some (103))), some (.inl (nI (p))), some (.inl (nI (u + 1))), some (.inl (nI (ln))), none]) rfl rfl (iinc_n _) rfl ?_
        refine pw_goto (t := 10) rfl rfl ?_
        simp only [tl1, eq_true (Decidable.of_not_not c2), if_true, if_false] at k
        exact ih (u + 1) (by omega) k
theorem t_load_2 {L p kn ln : Nat} {F G : FN} {R : RN} {Q : Option PV → PH → Prop} (hp : p < 4) (hkn : F 103 22 = nI kn) (hln : tlen F = nI ln) (hl2 : ln ≤ 401) (hkl : kn ≤ ln) {ed ms u : Nat} (hed : F 103 23 = nI ed) (hed2 : ed ≤ 500) (hms : F 103 0 = nI ms) (hms2 : ms ≤ 7) (hu : u ≤ 401) : ∀ (n m : Nat), m + n = ms ∨ (n = 0 ∧ ms ≤ m) → m ≤ 7 → pw pP mSBModel_load (117, [some (.inr (some (103))), some (.inl (nI (p))), some (.inl (nI (u))), some (.inl (nI (ln))), some (.inl (nI (tl2 F G p u kn ln ed n m)))], [], 0, 0, hb (sL L) F G R sO) Q → pw pP mSBModel_load (79, [some (.inr (some (103))), some (.inl (nI (p))), some (.inl (nI (u))), some (.inl (nI (ln))), some (.inl (nI (m)))], [], 0, 0, hb (sL L) F G R sO) Q := by
  intro n
  induction n with
  | zero =>
    intro m hn hm k
    refine pw_iload rfl rfl ?_
    refine pw_aload_n rfl rfl ?_
    refine px_getv (x := nI (ms)) rfl rfl rfl rfl (hms) ?_
    refine pw_if2p (cn_ge (by omega) (by omega)) rfl (t := 117) rfl (fun c1 => ?_) (fun c1 => ?_)
    · -- 117
      exact k
    · -- 88
      exact absurd c1 (by omega)
  | succ n ih =>
    intro m hn hm k
    refine pw_iload rfl rfl ?_
    refine pw_aload_n rfl rfl ?_
    refine px_getv (x := nI (ms)) rfl rfl rfl rfl (hms) ?_
    refine pw_if2p (cn_ge (by omega) (by omega)) rfl (t := 117) rfl (fun c1 => ?_) (fun c1 => ?_)
    · -- 117
      exact absurd c1 (by omega)
    · -- 88
      refine pw_iload_n rfl rfl ?_
      refine pw_iload rfl rfl ?_
      refine pw_iadd (z := nI (u + m)) rfl (nI_add _ _) ?_
      refine pw_aload_n rfl rfl ?_
      refine px_getv (x := nI (ed)) rfl rfl rfl rfl (hed) ?_
      refine pw_if2p (cn_ge (by omega) (by omega)) rfl (t := 117) rfl (fun c2 => ?_) (fun c2 => ?_)
      · -- 117
        simp only [tl2, eq_true c2, if_true, if_false] at k
        exact k
      · -- 99
        refine pw_aload_n rfl rfl ?_
        refine pw_iload_n rfl rfl ?_
        refine pw_iload_n rfl rfl ?_
        refine pw_iload rfl rfl ?_
        refine pw_iadd (z := nI (u + m)) rfl (nI_add _ _) ?_
        refine px_callv (as := [.inr (some (103)), .inl (nI (p)), .inl (nI (u + m))]) (rest := []) rfl rfl (by decide) rfl (Nat.le_of_ble_eq_true rfl) (Nat.le_of_ble_eq_true rfl) (Nat.le_of_ble_eq_true rfl) (Nat.le_of_ble_eq_true rfl) rfl rfl rfl rfl ?_
        refine t_loose hp (by omega) hkn (by omega) hln hl2 ?_
        show pw pP mSBModel_load (108, [some (.inr (some (103))), some (.inl (nI (p))), some (.inl (nI (u))), some (.inl (nI (ln))), some (.inl (nI (m)))], [.inl (tloose F G p (u + m) kn ln)], 0, 0, hb (sL L) F G R sO) _
        refine pw_if1p (A := tloose F G p (u + m) kn ln = 0) rfl rfl (t := 117) rfl (fun c3 => ?_) (fun c3 => ?_)
        · -- 117
          simp only [tl2, eq_false c2, eq_true c3, if_true, if_false] at k
          exact k
        · -- 111
          refine pw_iinc (v := nI (m + 1)) (ls1 := [some (.inr (some (103))), some (.inl (nI (p))), some (.inl (nI (u))), some (.inl (nI (ln))), some (.inl (nI (m + 1)))]) rfl rfl (iinc_n _) rfl ?_
          refine pw_goto (t := 79) rfl rfl ?_
          simp only [tl2, eq_false c2, eq_false c3, if_true, if_false] at k
          exact ih (m + 1) (by omega) (by omega) k
abbrev tcan (kn ln ed lw hi u : Nat) : Prop := ¬ ln ≤ u ∧ ¬ ed < u ∧ (¬ u = ed ∨ (u = kn ∧ hi ≤ lw))
def lu (F G : FN) (p kn ln : Nat) : Nat := tl1 F G p kn ln (ln - kn) kn
def lm (F G : FN) (p kn ln ed ms : Nat) : Nat := tl2 F G p (lu F G p kn ln) kn ln ed (ms - 1) 1
theorem tl1_le {F G : FN} {p kn ln m : Nat} : ∀ (n u : Nat), u + n ≤ m → tl1 F G p kn ln n u ≤ m
  | 0, u, h => h
  | n + 1, u, h => by
    simp only [tl1]
    split
    · exact tl1_le n (u + 1) (by omega)
    · omega
theorem t_load_no {L p kn ln ed ms lw hi fl : Nat} {F G : FN} {R : RN} (hp : p < 4) (hkn : F 103 22 = nI kn) (hln : tlen F = nI ln) (hl2 : ln ≤ 401) (hkl : kn ≤ ln) (hed : F 103 23 = nI ed) (hed2 : ed ≤ 500) (hms : F 103 0 = nI ms) (hms2 : ms ≤ 7) (hms1 : 1 ≤ ms) (hlw : G 115 p = nI lw) (hl4 : lw ≤ 402) (hhi : G 116 p = nI hi) (hh : hi ≤ 402) (hfl : G 124 (2 * p) = nI fl) (hf6 : fl ≤ 6) (hc : ¬ tcan kn ln ed lw hi (lu F G p kn ln)) {Q : Option PV → PH → Prop} (k : Q (some (.inl (nI (0)))) (hb (sL L) F G R sO)) : pz pP mSBModel_load [.inr (some (103)), .inl (nI (p))] (hb (sL L) F G R sO) Q := by
  show pw pP mSBModel_load (0, [some (.inr (some (103))), some (.inl (nI (p))), none, none, none], [], 0, 0, hb (sL L) F G R sO) _
  refine pw_aload_n rfl rfl ?_
  refine px_getv (x := nI (kn)) rfl rfl rfl rfl (hkn) ?_
  refine pw_istore_n (ls1 := [some (.inr (some (103))), some (.inl (nI (p))), some (.inl (nI (kn))), none, none]) rfl (Nat.le_of_ble_eq_true rfl) rfl ?_
  refine pw_aload_n rfl rfl ?_
  refine px_callv (as := [.inr (some (103))]) (rest := []) rfl rfl (by decide) rfl (Nat.le_of_ble_eq_true rfl) (Nat.le_of_ble_eq_true rfl) (Nat.le_of_ble_eq_true rfl) (Nat.le_of_ble_eq_true rfl) rfl rfl rfl rfl ?_
  refine t_length ?_
  rw [hln]
  show pw pP mSBModel_load (9, [some (.inr (some (103))), some (.inl (nI (p))), some (.inl (nI (kn))), none, none], [.inl (nI (ln))], 0, 0, hb (sL L) F G R sO) _
  refine pw_istore_n (ls1 := [some (.inr (some (103))), some (.inl (nI (p))), some (.inl (nI (kn))), some (.inl (nI (ln))), none]) rfl (Nat.le_of_ble_eq_true rfl) rfl ?_
  refine t_load_1 hp hkn hln hl2 hkl (ln - kn) kn (by omega) ?_
  have hu : lu F G p kn ln ≤ ln := tl1_le (m := ln) (ln - kn) kn (by omega)
  show pw pP mSBModel_load (30, [some (.inr (some (103))), some (.inl (nI (p))), some (.inl (nI (lu F G p kn ln))), some (.inl (nI (ln))), none], [], 0, 0, hb (sL L) F G R sO) Q
  refine pw_iload_n rfl rfl ?_
  refine pw_iload_n rfl rfl ?_
  refine pw_if2p (cn_ge (by omega) (by omega)) rfl (t := 74) rfl (fun c1 => ?_) (fun c1 => ?_)
  · -- 74
    refine pw_iconst (v := nI (0)) rfl (by decide) ?_
    exact pw_iret rfl rfl (Nat.zero_le _) (Nat.zero_le _) rfl k
  · -- 35
    refine pw_iload_n rfl rfl ?_
    refine pw_aload_n rfl rfl ?_
    refine px_getv (x := nI (ed)) rfl rfl rfl rfl (hed) ?_
    refine pw_if2p (cn_gt (by omega) (by omega)) rfl (t := 74) rfl (fun c2 => ?_) (fun c2 => ?_)
    · -- 74
      refine pw_iconst (v := nI (0)) rfl (by decide) ?_
      exact pw_iret rfl rfl (Nat.zero_le _) (Nat.zero_le _) rfl k
    · -- 43
      refine pw_iload_n rfl rfl ?_
      refine pw_aload_n rfl rfl ?_
      refine px_getv (x := nI (ed)) rfl rfl rfl rfl (hed) ?_
      refine pw_if2p (cn_ne (by omega) (by omega)) rfl (t := 76) rfl (fun c3 => ?_) (fun c3 => ?_)
      · -- 76
        exact absurd (show tcan kn ln ed lw hi (lu F G p kn ln) by simp only [tcan, eq_false c1, eq_false c2, eq_false c3, not_true_eq_false, not_false_eq_true, and_self, and_true, true_and, and_false, false_and, or_true, true_or, or_false, false_or, or_self]) hc
      · -- 51
        refine pw_iload_n rfl rfl ?_
        refine pw_aload_n rfl rfl ?_
        refine px_getv (x := nI (kn)) rfl rfl rfl rfl (hkn) ?_
        refine pw_if2p (cn_ne (by omega) (by omega)) rfl (t := 74) rfl (fun c4 => ?_) (fun c4 => ?_)
        · -- 74
          refine pw_iconst (v := nI (0)) rfl (by decide) ?_
          exact pw_iret rfl rfl (Nat.zero_le _) (Nat.zero_le _) rfl k
        · -- 59
          refine pw_aload_n rfl rfl ?_
          refine px_getr (r := some (115)) rfl rfl rfl rfl rfl ?_
          refine pw_iload_n rfl rfl ?_
          refine px_ialdn (x := nI (lw)) rfl rfl (by omega) (by decide) (hlw) ?_
          refine pw_aload_n rfl rfl ?_
          refine px_getr (r := some (116)) rfl rfl rfl rfl rfl ?_
          refine pw_iload_n rfl rfl ?_
          refine px_ialdn (x := nI (hi)) rfl rfl (by omega) (by decide) (hhi) ?_
          refine pw_if2p (cn_ge (by omega) (by omega)) rfl (t := 76) rfl (fun c5 => ?_) (fun c5 => ?_)
          · -- 76
            exact absurd (show tcan kn ln ed lw hi (lu F G p kn ln) by simp only [tcan, eq_false c1, eq_false c2, eq_true (Decidable.of_not_not c3), eq_true (Decidable.of_not_not c4), eq_true c5, not_true_eq_false, not_false_eq_true, and_self, and_true, true_and, and_false, false_and, or_true, true_or, or_false, false_or, or_self]) hc
          · -- 74
            refine pw_iconst (v := nI (0)) rfl (by decide) ?_
            exact pw_iret rfl rfl (Nat.zero_le _) (Nat.zero_le _) rfl k
theorem t_load_yes {L p kn ln ed ms lw hi fl : Nat} {F G : FN} {R : RN} (hp : p < 4) (hkn : F 103 22 = nI kn) (hln : tlen F = nI ln) (hl2 : ln ≤ 401) (hkl : kn ≤ ln) (hed : F 103 23 = nI ed) (hed2 : ed ≤ 500) (hms : F 103 0 = nI ms) (hms2 : ms ≤ 7) (hms1 : 1 ≤ ms) (hlw : G 115 p = nI lw) (hl4 : lw ≤ 402) (hhi : G 116 p = nI hi) (hh : hi ≤ 402) (hfl : G 124 (2 * p) = nI fl) (hf6 : fl ≤ 6) (hc : tcan kn ln ed lw hi (lu F G p kn ln)) (h4 : lu F G p kn ln + lm F G p kn ln ed ms ≤ 401) (hm0 : 0 < lm F G p kn ln ed ms) (hm7 : hi + lm F G p kn ln ed ms ≤ 402) {Q : Option PV → PH → Prop} (k : Q (some (.inl (nI (1)))) (hb (sL L) (tbegin F G p (lu F G p kn ln) (lm F G p kn ln ed ms) hi fl).1 (tbegin F G p (lu F G p kn ln) (lm F G p kn ln ed ms) hi fl).2 R sO)) : pz pP mSBModel_load [.inr (some (103)), .inl (nI (p))] (hb (sL L) F G R sO) Q := by
  show pw pP mSBModel_load (0, [some (.inr (some (103))), some (.inl (nI (p))), none, none, none], [], 0, 0, hb (sL L) F G R sO) _
  refine pw_aload_n rfl rfl ?_
  refine px_getv (x := nI (kn)) rfl rfl rfl rfl (hkn) ?_
  refine pw_istore_n (ls1 := [some (.inr (some (103))), some (.inl (nI (p))), some (.inl (nI (kn))), none, none]) rfl (Nat.le_of_ble_eq_true rfl) rfl ?_
  refine pw_aload_n rfl rfl ?_
  refine px_callv (as := [.inr (some (103))]) (rest := []) rfl rfl (by decide) rfl (Nat.le_of_ble_eq_true rfl) (Nat.le_of_ble_eq_true rfl) (Nat.le_of_ble_eq_true rfl) (Nat.le_of_ble_eq_true rfl) rfl rfl rfl rfl ?_
  refine t_length ?_
  rw [hln]
  show pw pP mSBModel_load (9, [some (.inr (some (103))), some (.inl (nI (p))), some (.inl (nI (kn))), none, none], [.inl (nI (ln))], 0, 0, hb (sL L) F G R sO) _
  refine pw_istore_n (ls1 := [some (.inr (some (103))), some (.inl (nI (p))), some (.inl (nI (kn))), some (.inl (nI (ln))), none]) rfl (Nat.le_of_ble_eq_true rfl) rfl ?_
  refine t_load_1 hp hkn hln hl2 hkl (ln - kn) kn (by omega) ?_
  have hu : lu F G p kn ln ≤ ln := tl1_le (m := ln) (ln - kn) kn (by omega)
  show pw pP mSBModel_load (30, [some (.inr (some (103))), some (.inl (nI (p))), some (.inl (nI (lu F G p kn ln))), some (.inl (nI (ln))), none], [], 0, 0, hb (sL L) F G R sO) Q
  refine pw_iload_n rfl rfl ?_
  refine pw_iload_n rfl rfl ?_
  refine pw_if2p (cn_ge (by omega) (by omega)) rfl (t := 74) rfl (fun c1 => ?_) (fun c1 => ?_)
  · -- 74
    refine pw_iconst (v := nI (0)) rfl (by decide) ?_
    exact absurd hc (by simp only [tcan, eq_true c1, not_true_eq_false, not_false_eq_true, and_self, and_true, true_and, and_false, false_and, or_true, true_or, or_false, false_or, or_self])
  · -- 35
    refine pw_iload_n rfl rfl ?_
    refine pw_aload_n rfl rfl ?_
    refine px_getv (x := nI (ed)) rfl rfl rfl rfl (hed) ?_
    refine pw_if2p (cn_gt (by omega) (by omega)) rfl (t := 74) rfl (fun c2 => ?_) (fun c2 => ?_)
    · -- 74
      refine pw_iconst (v := nI (0)) rfl (by decide) ?_
      exact absurd hc (by simp only [tcan, eq_false c1, eq_true c2, not_true_eq_false, not_false_eq_true, and_self, and_true, true_and, and_false, false_and, or_true, true_or, or_false, false_or, or_self])
    · -- 43
      refine pw_iload_n rfl rfl ?_
      refine pw_aload_n rfl rfl ?_
      refine px_getv (x := nI (ed)) rfl rfl rfl rfl (hed) ?_
      refine pw_if2p (cn_ne (by omega) (by omega)) rfl (t := 76) rfl (fun c3 => ?_) (fun c3 => ?_)
      · -- 76
        refine pw_iconst (v := nI (1)) rfl (by decide) ?_
        refine pw_istore (ls1 := [some (.inr (some (103))), some (.inl (nI (p))), some (.inl (nI (lu F G p kn ln))), some (.inl (nI (ln))), some (.inl (nI (1)))]) rfl (Nat.le_of_ble_eq_true rfl) rfl ?_
        refine t_load_2 hp hkn hln hl2 hkl hed hed2 hms hms2 (by omega) (ms - 1) 1 (by omega) (by omega) ?_
        show pw pP mSBModel_load (117, [some (.inr (some (103))), some (.inl (nI (p))), some (.inl (nI (lu F G p kn ln))), some (.inl (nI (ln))), some (.inl (nI (lm F G p kn ln ed ms)))], [], 0, 0, hb (sL L) F G R sO) Q
        refine pw_aload_n rfl rfl ?_
        refine pw_iload_n rfl rfl ?_
        refine pw_iload_n rfl rfl ?_
        refine pw_iload rfl rfl ?_
        refine px_callv (as := [.inr (some (103)), .inl (nI (p)), .inl (nI (lu F G p kn ln)), .inl (nI (lm F G p kn ln ed ms))]) (rest := []) rfl rfl (by decide) rfl (Nat.le_of_ble_eq_true rfl) (Nat.le_of_ble_eq_true rfl) (Nat.le_of_ble_eq_true rfl) (Nat.le_of_ble_eq_true rfl) rfl rfl rfl rfl ?_
        refine t_begin hp h4 hm0 hm7 hhi hfl hf6 ?_
        show pw pP mSBModel_load (125, [some (.inr (some (103))), some (.inl (nI (p))), some (.inl (nI (lu F G p kn ln))), some (.inl (nI (ln))), some (.inl (nI (lm F G p kn ln ed ms)))], [], 0, 0, hb (sL L) (tbegin F G p (lu F G p kn ln) (lm F G p kn ln ed ms) hi fl).1 (tbegin F G p (lu F G p kn ln) (lm F G p kn ln ed ms) hi fl).2 R sO) _
        refine pw_iconst (v := nI (1)) rfl (by decide) ?_
        exact pw_iret rfl rfl (Nat.zero_le _) (Nat.zero_le _) rfl k
      · -- 51
        refine pw_iload_n rfl rfl ?_
        refine pw_aload_n rfl rfl ?_
        refine px_getv (x := nI (kn)) rfl rfl rfl rfl (hkn) ?_
        refine pw_if2p (cn_ne (by omega) (by omega)) rfl (t := 74) rfl (fun c4 => ?_) (fun c4 => ?_)
        · -- 74
          refine pw_iconst (v := nI (0)) rfl (by decide) ?_
          exact absurd hc (by simp only [tcan, eq_false c1, eq_false c2, eq_true (Decidable.of_not_not c3), eq_false c4, not_true_eq_false, not_false_eq_true, and_self, and_true, true_and, and_false, false_and, or_true, true_or, or_false, false_or, or_self])
        · -- 59
          refine pw_aload_n rfl rfl ?_
          refine px_getr (r := some (115)) rfl rfl rfl rfl rfl ?_
          refine pw_iload_n rfl rfl ?_
          refine px_ialdn (x := nI (lw)) rfl rfl (by omega) (by decide) (hlw) ?_
          refine pw_aload_n rfl rfl ?_
          refine px_getr (r := some (116)) rfl rfl rfl rfl rfl ?_
          refine pw_iload_n rfl rfl ?_
          refine px_ialdn (x := nI (hi)) rfl rfl (by omega) (by decide) (hhi) ?_
          refine pw_if2p (cn_ge (by omega) (by omega)) rfl (t := 76) rfl (fun c5 => ?_) (fun c5 => ?_)
          · -- 76
            refine pw_iconst (v := nI (1)) rfl (by decide) ?_
            refine pw_istore (ls1 := [some (.inr (some (103))), some (.inl (nI (p))), some (.inl (nI (lu F G p kn ln))), some (.inl (nI (ln))), some (.inl (nI (1)))]) rfl (Nat.le_of_ble_eq_true rfl) rfl ?_
            refine t_load_2 hp hkn hln hl2 hkl hed hed2 hms hms2 (by omega) (ms - 1) 1 (by omega) (by omega) ?_
            show pw pP mSBModel_load (117, [some (.inr (some (103))), some (.inl (nI (p))), some (.inl (nI (lu F G p kn ln))), some (.inl (nI (ln))), some (.inl (nI (lm F G p kn ln ed ms)))], [], 0, 0, hb (sL L) F G R sO) Q
            refine pw_aload_n rfl rfl ?_
            refine pw_iload_n rfl rfl ?_
            refine pw_iload_n rfl rfl ?_
            refine pw_iload rfl rfl ?_
            refine px_callv (as := [.inr (some (103)), .inl (nI (p)), .inl (nI (lu F G p kn ln)), .inl (nI (lm F G p kn ln ed ms))]) (rest := []) rfl rfl (by decide) rfl (Nat.le_of_ble_eq_true rfl) (Nat.le_of_ble_eq_true rfl) (Nat.le_of_ble_eq_true rfl) (Nat.le_of_ble_eq_true rfl) rfl rfl rfl rfl ?_
            refine t_begin hp h4 hm0 hm7 hhi hfl hf6 ?_
            show pw pP mSBModel_load (125, [some (.inr (some (103))), some (.inl (nI (p))), some (.inl (nI (lu F G p kn ln))), some (.inl (nI (ln))), some (.inl (nI (lm F G p kn ln ed ms)))], [], 0, 0, hb (sL L) (tbegin F G p (lu F G p kn ln) (lm F G p kn ln ed ms) hi fl).1 (tbegin F G p (lu F G p kn ln) (lm F G p kn ln ed ms) hi fl).2 R sO) _
            refine pw_iconst (v := nI (1)) rfl (by decide) ?_
            exact pw_iret rfl rfl (Nat.zero_le _) (Nat.zero_le _) rfl k
          · -- 74
            refine pw_iconst (v := nI (0)) rfl (by decide) ?_
            exact absurd hc (by simp only [tcan, eq_false c1, eq_false c2, eq_true (Decidable.of_not_not c3), eq_true (Decidable.of_not_not c4), eq_false c5, not_true_eq_false, not_false_eq_true, and_self, and_true, true_and, and_false, false_and, or_true, true_or, or_false, false_or, or_self])
