/-! THE CLASS, fourth part: host A sends. Rows laid by a program (wip/whole/gen/class4.py). -/
/-- the counts of a sending -/
def ctr (F : FN) (a s : Nat) (t : Int32) : FN := up2 (up2 (up2 F s 5 (F s 5 + nI 1)) s 4 t) a 13 (F a 13 + nI 1)
theorem ctr_ne {F : FN} {a s i k : Nat} {t : Int32} (h1 : ¬ (i = s ∧ k = 5)) (h2 : ¬ (i = s ∧ k = 4)) (h3 : ¬ (i = a ∧ k = 13)) : ctr F a s t i k = F i k := by
  unfold ctr
  rw [up2_ne h3, up2_ne h2, up2_ne h1]
def ctr0_F (F : FN) (a s x sz : Nat) (t : Int32) : FN := cship (ctr F a s t) a (a + 1) x sz t (nI 0) (nI 0) (nI 0) (F a 7) (nI 0)
def clast (G : FN) (v ln : Nat) : Int32 := if ¬ cval_r G v ln = nI 256 then nI 0 else nI 1
def ctr1_F (F G : FN) (a s x sz : Nat) (t : Int32) (c u m ln : Nat) : FN := cship (ctr F a s t) a (a + 1) x sz t (nI 1) (nI m) (nI c) (nI u) (clast G (u + m - 1) ln)
theorem t_ctr0 {L a s x sz : Nat} {t : Int32} {F G : FN} {R : RN} (hP : pathok L a R) (ha : 4 < a ∧ a + 20 < 89) (hss : (sL L)[s]? = some (2, 6, [0, 0, 0, 0, 0, 0], 0)) (hsr : a + 18 ≤ s ∧ s ≤ a + 20) (hsz : F (a + 1) 1 = nI sz) (hs6 : sz ≤ 6) (hx : sz < 6 → R (a + 1 + 1) sz = some x ∧ (sL L)[x]? = some (2, 1, [0, 0, 0, 0, 0, 0], 0) ∧ a + 3 ≤ x ∧ x ≤ a + 8) (hun : F s 3 = nI 0) {Q : Option PV → PH → Prop} (k : Q none (hb (sL L) (ctr0_F F a s x sz t) G R sO)) : pz pP mHostA_transmit [.inr (some (89)), .inr (some (a)), .inr (some (s)), .inl (t)] (hb (sL L) F G R sO) Q := by
  show pw pP mHostA_transmit (0, [some (.inr (some (89))), some (.inr (some (a))), some (.inr (some (s))), some (.inl (t)), none, none], [], 0, 0, hb (sL L) F G R sO) _
  have h6 : (ctr F a s t) a 6 = F a 6 := ctr_ne (by omega) (by omega) (by omega)
  have hz : (ctr F a s t) (a + 1) 1 = nI sz := (ctr_ne (by omega) (by omega) (by omega)).trans hsz
  by_cases hd : (ctr F a s t) a 6 = 0
  · rw [ctr0_F, cship_0 hd] at k
    refine pw_aload_n rfl rfl ?_
    refine pw_dup rfl ?_
    refine px_getv (x := F (s) (5)) rfl rfl hss rfl (rfl) ?_
    refine pw_iconst (v := nI (1)) rfl (by decide) ?_
    refine pw_iadd (z := (F (s) (5)) + (nI (1))) rfl rfl ?_
    refine px_put rfl rfl hss rfl rfl ?_
    refine pw_aload_n rfl rfl ?_
    refine pw_iload_n rfl rfl ?_
    refine px_put rfl rfl hss rfl rfl ?_
    refine pw_aload_n rfl rfl ?_
    refine pw_dup rfl ?_
    refine px_getv (x := F (a) (13)) rfl rfl hP.1 rfl ((up2_ne (by omega)).trans (up2_ne (by omega))) ?_
    refine pw_iconst (v := nI (1)) rfl (by decide) ?_
    refine pw_iadd (z := (F (a) (13)) + (nI (1))) rfl rfl ?_
    refine px_put rfl rfl hP.1 rfl rfl ?_
    refine pw_aload_n rfl rfl ?_
    refine pw_iconst (v := nI (0)) rfl (by decide) ?_
    refine pw_iload_n rfl rfl ?_
    refine px_callv (as := [.inr (some (a)), .inl (nI (0)), .inl (t)]) (rest := []) rfl rfl (by decide) rfl (Nat.le_of_ble_eq_true rfl) (Nat.le_of_ble_eq_true rfl) (Nat.le_of_ble_eq_true rfl) (Nat.le_of_ble_eq_true rfl) rfl hP.1 rfl rfl ?_
    refine t_cdisp0_0 hP hd ?_
    show pw pP mHostA_transmit (31, [some (.inr (some (89))), some (.inr (some (a))), some (.inr (some (s))), some (.inl (t)), none, none], [.inr none], 0, 0, hb (sL L) (up2 (up2 (up2 F (s) (5) ((F (s) (5)) + (nI (1)))) (s) (4) (t)) (a) (13) ((F (a) (13)) + (nI (1)))) G R sO) _
    refine pw_astore (ls1 := [some (.inr (some (89))), some (.inr (some (a))), some (.inr (some (s))), some (.inl (t)), some (.inr none), none]) rfl (Nat.le_of_ble_eq_true rfl) rfl ?_
    refine pw_aload rfl rfl ?_
    refine pw_ifnonnullN (t := 39) rfl rfl ?_
    exact pw_vret rfl rfl (Nat.zero_le _) (Nat.zero_le _) k
  by_cases h66 : 6 ≤ sz
  · rw [ctr0_F, cship_6 h66] at k
    have e6 : sz = 6 := by omega
    subst e6
    refine pw_aload_n rfl rfl ?_
    refine pw_dup rfl ?_
    refine px_getv (x := F (s) (5)) rfl rfl hss rfl (rfl) ?_
    refine pw_iconst (v := nI (1)) rfl (by decide) ?_
    refine pw_iadd (z := (F (s) (5)) + (nI (1))) rfl rfl ?_
    refine px_put rfl rfl hss rfl rfl ?_
    refine pw_aload_n rfl rfl ?_
    refine pw_iload_n rfl rfl ?_
    refine px_put rfl rfl hss rfl rfl ?_
    refine pw_aload_n rfl rfl ?_
    refine pw_dup rfl ?_
    refine px_getv (x := F (a) (13)) rfl rfl hP.1 rfl ((up2_ne (by omega)).trans (up2_ne (by omega))) ?_
    refine pw_iconst (v := nI (1)) rfl (by decide) ?_
    refine pw_iadd (z := (F (a) (13)) + (nI (1))) rfl rfl ?_
    refine px_put rfl rfl hP.1 rfl rfl ?_
    refine pw_aload_n rfl rfl ?_
    refine pw_iconst (v := nI (0)) rfl (by decide) ?_
    refine pw_iload_n rfl rfl ?_
    refine px_callv (as := [.inr (some (a)), .inl (nI (0)), .inl (t)]) (rest := []) rfl rfl (by decide) rfl (Nat.le_of_ble_eq_true rfl) (Nat.le_of_ble_eq_true rfl) (Nat.le_of_ble_eq_true rfl) (Nat.le_of_ble_eq_true rfl) rfl hP.1 rfl rfl ?_
    refine t_cdisp0_6 hP hd hz ?_
    show pw pP mHostA_transmit (31, [some (.inr (some (89))), some (.inr (some (a))), some (.inr (some (s))), some (.inl (t)), none, none], [.inr none], 0, 0, hb (sL L) (up2 (up2 (up2 F (s) (5) ((F (s) (5)) + (nI (1)))) (s) (4) (t)) (a) (13) ((F (a) (13)) + (nI (1)))) G R sO) _
    refine pw_astore (ls1 := [some (.inr (some (89))), some (.inr (some (a))), some (.inr (some (s))), some (.inl (t)), some (.inr none), none]) rfl (Nat.le_of_ble_eq_true rfl) rfl ?_
    refine pw_aload rfl rfl ?_
    refine pw_ifnonnullN (t := 39) rfl rfl ?_
    exact pw_vret rfl rfl (Nat.zero_le _) (Nat.zero_le _) k
  obtain ⟨hx1, hsx, hxr⟩ := hx (by omega)
  rw [ctr0_F, cship_y hd (by omega)] at k
  refine pw_aload_n rfl rfl ?_
  refine pw_dup rfl ?_
  refine px_getv (x := F (s) (5)) rfl rfl hss rfl (rfl) ?_
  refine pw_iconst (v := nI (1)) rfl (by decide) ?_
  refine pw_iadd (z := (F (s) (5)) + (nI (1))) rfl rfl ?_
  refine px_put rfl rfl hss rfl rfl ?_
  refine pw_aload_n rfl rfl ?_
  refine pw_iload_n rfl rfl ?_
  refine px_put rfl rfl hss rfl rfl ?_
  refine pw_aload_n rfl rfl ?_
  refine pw_dup rfl ?_
  refine px_getv (x := F (a) (13)) rfl rfl hP.1 rfl ((up2_ne (by omega)).trans (up2_ne (by omega))) ?_
  refine pw_iconst (v := nI (1)) rfl (by decide) ?_
  refine pw_iadd (z := (F (a) (13)) + (nI (1))) rfl rfl ?_
  refine px_put rfl rfl hP.1 rfl rfl ?_
  refine pw_aload_n rfl rfl ?_
  refine pw_iconst (v := nI (0)) rfl (by decide) ?_
  refine pw_iload_n rfl rfl ?_
  refine px_callv (as := [.inr (some (a)), .inl (nI (0)), .inl (t)]) (rest := []) rfl rfl (by decide) rfl (Nat.le_of_ble_eq_true rfl) (Nat.le_of_ble_eq_true rfl) (Nat.le_of_ble_eq_true rfl) (Nat.le_of_ble_eq_true rfl) rfl hP.1 rfl rfl ?_
  refine t_cdisp0 hP hd hz (by omega) hx1 hsx ?_
  show pw pP mHostA_transmit (31, [some (.inr (some (89))), some (.inr (some (a))), some (.inr (some (s))), some (.inl (t)), none, none], [.inr (some (x))], 0, 0, hb (sL L) (up2 (up2 (up2 (up2 (up2 F (s) (5) ((F (s) (5)) + (nI (1)))) (s) (4) (t)) (a) (13) ((F (a) (13)) + (nI (1)))) (x) (5) (t + (ctr F a s t) a 6)) (a + 1) (1) (nI (sz + 1))) G R sO) _
  refine pw_astore (ls1 := [some (.inr (some (89))), some (.inr (some (a))), some (.inr (some (s))), some (.inl (t)), some (.inr (some (x))), none]) rfl (Nat.le_of_ble_eq_true rfl) rfl ?_
  refine pw_aload rfl rfl ?_
  refine pw_ifnonnull (t := 39) rfl rfl ?_
  refine pw_aload_n rfl rfl ?_
  refine px_getv (x := nI (0)) rfl rfl hss rfl (((up2_ne (by omega)).trans ((up2_ne (by omega)).trans ((up2_ne (by omega)).trans ((up2_ne2 (by decide)).trans (up2_ne2 (by decide)))))).trans (hun)) ?_
  refine pw_if1 (t := 62) rfl rfl (fun q => absurd q (by decide)) (fun _ => ?_)
  refine pw_aload rfl rfl ?_
  refine pw_iconst (v := nI (0)) rfl (by decide) ?_
  refine pw_iconst (v := nI (0)) rfl (by decide) ?_
  refine pw_iconst (v := nI (0)) rfl (by decide) ?_
  refine pw_aload_n rfl rfl ?_
  refine px_getv (x := F (a) (7)) rfl rfl hP.1 rfl ((up2_ne (by omega)).trans ((up2_ne (by omega)).trans ((up2_ne2 (by decide)).trans ((up2_ne (by omega)).trans (up2_ne (by omega)))))) ?_
  refine pw_iconst (v := nI (0)) rfl (by decide) ?_
  refine px_callv (as := [.inr (some (x)), .inl (nI (0)), .inl (nI (0)), .inl (nI (0)), .inl (F (a) (7)), .inl (nI (0))]) (rest := []) rfl rfl (by decide) rfl (Nat.le_of_ble_eq_true rfl) (Nat.le_of_ble_eq_true rfl) (Nat.le_of_ble_eq_true rfl) (Nat.le_of_ble_eq_true rfl) rfl hsx rfl rfl ?_
  refine t_cfill hsx ?_
  show pw pP mHostA_transmit (59, [some (.inr (some (89))), some (.inr (some (a))), some (.inr (some (s))), some (.inl (t)), some (.inr (some (x))), none], [], 0, 0, hb (sL L) (up2 (up2 (up2 (up2 (up2 (up2 (up2 (up2 (up2 (up2 F (s) (5) ((F (s) (5)) + (nI (1)))) (s) (4) (t)) (a) (13) ((F (a) (13)) + (nI (1)))) (x) (5) (t + (ctr F a s t) a 6)) (a + 1) (1) (nI (sz + 1))) (x) (0) (nI (0))) (x) (1) (nI (0))) (x) (2) (nI (0))) (x) (3) (F (a) (7))) (x) (4) (nI (0))) G R sO) _
  refine pw_goto (t := 113) rfl rfl ?_
  exact pw_vret rfl rfl (Nat.zero_le _) (Nat.zero_le _) k
theorem t_ctr1 {L a s x sz c u m ln : Nat} {t : Int32} {F G : FN} {R : RN} (hP : pathok L a R) (ha : 4 < a ∧ a + 20 < 89) (hss : (sL L)[s]? = some (2, 6, [0, 0, 0, 0, 0, 0], 0)) (hsr : a + 18 ≤ s ∧ s ≤ a + 20) (hsz : F (a + 1) 1 = nI sz) (hs6 : sz ≤ 6) (hx : sz < 6 → R (a + 1 + 1) sz = some x ∧ (sL L)[x]? = some (2, 1, [0, 0, 0, 0, 0, 0], 0) ∧ a + 3 ≤ x ∧ x ≤ a + 8) (hc : F s 0 = nI c) (hu : F s 2 = nI u) (hm : F s 3 = nI m) (hm0 : ¬ m = 0) (hum : u + m ≤ 500) (hln : F 2 1 = nI ln) (hl : ln ≤ 401) {Q : Option PV → PH → Prop} (k : Q none (hb (sL L) (ctr1_F F G a s x sz t c u m ln) G R sO)) : pz pP mHostA_transmit [.inr (some (89)), .inr (some (a)), .inr (some (s)), .inl (t)] (hb (sL L) F G R sO) Q := by
  show pw pP mHostA_transmit (0, [some (.inr (some (89))), some (.inr (some (a))), some (.inr (some (s))), some (.inl (t)), none, none], [], 0, 0, hb (sL L) F G R sO) _
  have h6 : (ctr F a s t) a 6 = F a 6 := ctr_ne (by omega) (by omega) (by omega)
  have hz : (ctr F a s t) (a + 1) 1 = nI sz := (ctr_ne (by omega) (by omega) (by omega)).trans hsz
  by_cases hd : (ctr F a s t) a 6 = 0
  · rw [ctr1_F, cship_0 hd] at k
    refine pw_aload_n rfl rfl ?_
    refine pw_dup rfl ?_
    refine px_getv (x := F (s) (5)) rfl rfl hss rfl (rfl) ?_
    refine pw_iconst (v := nI (1)) rfl (by decide) ?_
    refine pw_iadd (z := (F (s) (5)) + (nI (1))) rfl rfl ?_
    refine px_put rfl rfl hss rfl rfl ?_
    refine pw_aload_n rfl rfl ?_
    refine pw_iload_n rfl rfl ?_
    refine px_put rfl rfl hss rfl rfl ?_
    refine pw_aload_n rfl rfl ?_
    refine pw_dup rfl ?_
    refine px_getv (x := F (a) (13)) rfl rfl hP.1 rfl ((up2_ne (by omega)).trans (up2_ne (by omega))) ?_
    refine pw_iconst (v := nI (1)) rfl (by decide) ?_
    refine pw_iadd (z := (F (a) (13)) + (nI (1))) rfl rfl ?_
    refine px_put rfl rfl hP.1 rfl rfl ?_
    refine pw_aload_n rfl rfl ?_
    refine pw_iconst (v := nI (0)) rfl (by decide) ?_
    refine pw_iload_n rfl rfl ?_
    refine px_callv (as := [.inr (some (a)), .inl (nI (0)), .inl (t)]) (rest := []) rfl rfl (by decide) rfl (Nat.le_of_ble_eq_true rfl) (Nat.le_of_ble_eq_true rfl) (Nat.le_of_ble_eq_true rfl) (Nat.le_of_ble_eq_true rfl) rfl hP.1 rfl rfl ?_
    refine t_cdisp0_0 hP hd ?_
    show pw pP mHostA_transmit (31, [some (.inr (some (89))), some (.inr (some (a))), some (.inr (some (s))), some (.inl (t)), none, none], [.inr none], 0, 0, hb (sL L) (up2 (up2 (up2 F (s) (5) ((F (s) (5)) + (nI (1)))) (s) (4) (t)) (a) (13) ((F (a) (13)) + (nI (1)))) G R sO) _
    refine pw_astore (ls1 := [some (.inr (some (89))), some (.inr (some (a))), some (.inr (some (s))), some (.inl (t)), some (.inr none), none]) rfl (Nat.le_of_ble_eq_true rfl) rfl ?_
    refine pw_aload rfl rfl ?_
    refine pw_ifnonnullN (t := 39) rfl rfl ?_
    exact pw_vret rfl rfl (Nat.zero_le _) (Nat.zero_le _) k
  by_cases h66 : 6 ≤ sz
  · rw [ctr1_F, cship_6 h66] at k
    have e6 : sz = 6 := by omega
    subst e6
    refine pw_aload_n rfl rfl ?_
    refine pw_dup rfl ?_
    refine px_getv (x := F (s) (5)) rfl rfl hss rfl (rfl) ?_
    refine pw_iconst (v := nI (1)) rfl (by decide) ?_
    refine pw_iadd (z := (F (s) (5)) + (nI (1))) rfl rfl ?_
    refine px_put rfl rfl hss rfl rfl ?_
    refine pw_aload_n rfl rfl ?_
    refine pw_iload_n rfl rfl ?_
    refine px_put rfl rfl hss rfl rfl ?_
    refine pw_aload_n rfl rfl ?_
    refine pw_dup rfl ?_
    refine px_getv (x := F (a) (13)) rfl rfl hP.1 rfl ((up2_ne (by omega)).trans (up2_ne (by omega))) ?_
    refine pw_iconst (v := nI (1)) rfl (by decide) ?_
    refine pw_iadd (z := (F (a) (13)) + (nI (1))) rfl rfl ?_
    refine px_put rfl rfl hP.1 rfl rfl ?_
    refine pw_aload_n rfl rfl ?_
    refine pw_iconst (v := nI (0)) rfl (by decide) ?_
    refine pw_iload_n rfl rfl ?_
    refine px_callv (as := [.inr (some (a)), .inl (nI (0)), .inl (t)]) (rest := []) rfl rfl (by decide) rfl (Nat.le_of_ble_eq_true rfl) (Nat.le_of_ble_eq_true rfl) (Nat.le_of_ble_eq_true rfl) (Nat.le_of_ble_eq_true rfl) rfl hP.1 rfl rfl ?_
    refine t_cdisp0_6 hP hd hz ?_
    show pw pP mHostA_transmit (31, [some (.inr (some (89))), some (.inr (some (a))), some (.inr (some (s))), some (.inl (t)), none, none], [.inr none], 0, 0, hb (sL L) (up2 (up2 (up2 F (s) (5) ((F (s) (5)) + (nI (1)))) (s) (4) (t)) (a) (13) ((F (a) (13)) + (nI (1)))) G R sO) _
    refine pw_astore (ls1 := [some (.inr (some (89))), some (.inr (some (a))), some (.inr (some (s))), some (.inl (t)), some (.inr none), none]) rfl (Nat.le_of_ble_eq_true rfl) rfl ?_
    refine pw_aload rfl rfl ?_
    refine pw_ifnonnullN (t := 39) rfl rfl ?_
    exact pw_vret rfl rfl (Nat.zero_le _) (Nat.zero_le _) k
  obtain ⟨hx1, hsx, hxr⟩ := hx (by omega)
  rw [ctr1_F, cship_y hd (by omega)] at k
  refine pw_aload_n rfl rfl ?_
  refine pw_dup rfl ?_
  refine px_getv (x := F (s) (5)) rfl rfl hss rfl (rfl) ?_
  refine pw_iconst (v := nI (1)) rfl (by decide) ?_
  refine pw_iadd (z := (F (s) (5)) + (nI (1))) rfl rfl ?_
  refine px_put rfl rfl hss rfl rfl ?_
  refine pw_aload_n rfl rfl ?_
  refine pw_iload_n rfl rfl ?_
  refine px_put rfl rfl hss rfl rfl ?_
  refine pw_aload_n rfl rfl ?_
  refine pw_dup rfl ?_
  refine px_getv (x := F (a) (13)) rfl rfl hP.1 rfl ((up2_ne (by omega)).trans (up2_ne (by omega))) ?_
  refine pw_iconst (v := nI (1)) rfl (by decide) ?_
  refine pw_iadd (z := (F (a) (13)) + (nI (1))) rfl rfl ?_
  refine px_put rfl rfl hP.1 rfl rfl ?_
  refine pw_aload_n rfl rfl ?_
  refine pw_iconst (v := nI (0)) rfl (by decide) ?_
  refine pw_iload_n rfl rfl ?_
  refine px_callv (as := [.inr (some (a)), .inl (nI (0)), .inl (t)]) (rest := []) rfl rfl (by decide) rfl (Nat.le_of_ble_eq_true rfl) (Nat.le_of_ble_eq_true rfl) (Nat.le_of_ble_eq_true rfl) (Nat.le_of_ble_eq_true rfl) rfl hP.1 rfl rfl ?_
  refine t_cdisp0 hP hd hz (by omega) hx1 hsx ?_
  show pw pP mHostA_transmit (31, [some (.inr (some (89))), some (.inr (some (a))), some (.inr (some (s))), some (.inl (t)), none, none], [.inr (some (x))], 0, 0, hb (sL L) (up2 (up2 (up2 (up2 (up2 F (s) (5) ((F (s) (5)) + (nI (1)))) (s) (4) (t)) (a) (13) ((F (a) (13)) + (nI (1)))) (x) (5) (t + (ctr F a s t) a 6)) (a + 1) (1) (nI (sz + 1))) G R sO) _
  refine pw_astore (ls1 := [some (.inr (some (89))), some (.inr (some (a))), some (.inr (some (s))), some (.inl (t)), some (.inr (some (x))), none]) rfl (Nat.le_of_ble_eq_true rfl) rfl ?_
  refine pw_aload rfl rfl ?_
  refine pw_ifnonnull (t := 39) rfl rfl ?_
  refine pw_aload_n rfl rfl ?_
  refine px_getv (x := nI (m)) rfl rfl hss rfl (((up2_ne (by omega)).trans ((up2_ne (by omega)).trans ((up2_ne (by omega)).trans ((up2_ne2 (by decide)).trans (up2_ne2 (by decide)))))).trans (hm)) ?_
  refine pw_if1p (cz_ne (by omega)) rfl (t := 62) rfl (fun _ => ?_) (fun q => absurd hm0 q)
  refine pw_aload_n rfl rfl ?_
  refine px_getr (r := some (2)) rfl rfl rfl rfl rfl ?_
  refine pw_aload_n rfl rfl ?_
  refine px_getv (x := nI (u)) rfl rfl hss rfl (((up2_ne (by omega)).trans ((up2_ne (by omega)).trans ((up2_ne (by omega)).trans ((up2_ne2 (by decide)).trans (up2_ne2 (by decide)))))).trans (hu)) ?_
  refine pw_aload_n rfl rfl ?_
  refine px_getv (x := nI (m)) rfl rfl hss rfl (((up2_ne (by omega)).trans ((up2_ne (by omega)).trans ((up2_ne (by omega)).trans ((up2_ne2 (by decide)).trans (up2_ne2 (by decide)))))).trans (hm)) ?_
  refine pw_iadd (z := nI (u + m)) rfl (nI_add _ _) ?_
  refine pw_iconst (v := nI (1)) rfl (by decide) ?_
  refine pw_isub (z := nI (u + m - 1)) rfl (pk_sub (by omega)) ?_
  refine px_callv (as := [.inr (some (2)), .inl (nI (u + m - 1))]) (rest := []) rfl rfl (by decide) rfl (Nat.le_of_ble_eq_true rfl) (Nat.le_of_ble_eq_true rfl) (Nat.le_of_ble_eq_true rfl) (Nat.le_of_ble_eq_true rfl) rfl rfl rfl rfl ?_
  refine t_cval (u := u + m - 1) ((up2_ne (by omega)).trans ((up2_ne (by omega)).trans ((ctr_ne (by omega) (by omega) (by omega)).trans hln))) hl (by omega) ?_
  show pw pP mHostA_transmit (80, [some (.inr (some (89))), some (.inr (some (a))), some (.inr (some (s))), some (.inl (t)), some (.inr (some (x))), none], [.inl (cval_r G (u + m - 1) ln)], 0, 0, hb (sL L) (up2 (up2 (up2 (up2 (up2 F (s) (5) ((F (s) (5)) + (nI (1)))) (s) (4) (t)) (a) (13) ((F (a) (13)) + (nI (1)))) (x) (5) (t + (ctr F a s t) a 6)) (a + 1) (1) (nI (sz + 1))) G R sO) _
  refine pw_istore (ls1 := [some (.inr (some (89))), some (.inr (some (a))), some (.inr (some (s))), some (.inl (t)), some (.inr (some (x))), some (.inl (cval_r G (u + m - 1) ln))]) rfl (Nat.le_of_ble_eq_true rfl) rfl ?_
  refine pw_aload rfl rfl ?_
  refine pw_iconst (v := nI (1)) rfl (by decide) ?_
  refine pw_aload_n rfl rfl ?_
  refine px_getv (x := nI (m)) rfl rfl hss rfl (((up2_ne (by omega)).trans ((up2_ne (by omega)).trans ((up2_ne (by omega)).trans ((up2_ne2 (by decide)).trans (up2_ne2 (by decide)))))).trans (hm)) ?_
  refine pw_aload_n rfl rfl ?_
  refine px_getv (x := nI (c)) rfl rfl hss rfl (((up2_ne (by omega)).trans ((up2_ne (by omega)).trans ((up2_ne (by omega)).trans ((up2_ne2 (by decide)).trans (up2_ne2 (by decide)))))).trans (hc)) ?_
  refine pw_aload_n rfl rfl ?_
  refine px_getv (x := nI (u)) rfl rfl hss rfl (((up2_ne (by omega)).trans ((up2_ne (by omega)).trans ((up2_ne (by omega)).trans ((up2_ne2 (by decide)).trans (up2_ne2 (by decide)))))).trans (hu)) ?_
  refine pw_iload rfl rfl ?_
  refine pw_sipush (v := nI (256)) rfl (by decide) ?_
  refine pw_if2p (A := ¬ cval_r G (u + m - 1) ln = nI (256)) rfl rfl (t := 109) rfl (fun c1 => ?_) (fun c1 => ?_)
  · -- 109
    refine pw_iconst (v := nI (0)) rfl (by decide) ?_
    refine px_callv (as := [.inr (some (x)), .inl (nI (1)), .inl (nI (m)), .inl (nI (c)), .inl (nI (u)), .inl (nI (0))]) (rest := []) rfl rfl (by decide) rfl (Nat.le_of_ble_eq_true rfl) (Nat.le_of_ble_eq_true rfl) (Nat.le_of_ble_eq_true rfl) (Nat.le_of_ble_eq_true rfl) rfl hsx rfl rfl ?_
    refine t_cfill hsx ?_
    show pw pP mHostA_transmit (113, [some (.inr (some (89))), some (.inr (some (a))), some (.inr (some (s))), some (.inl (t)), some (.inr (some (x))), some (.inl (cval_r G (u + m - 1) ln))], [], 0, 0, hb (sL L) (up2 (up2 (up2 (up2 (up2 (up2 (up2 (up2 (up2 (up2 F (s) (5) ((F (s) (5)) + (nI (1)))) (s) (4) (t)) (a) (13) ((F (a) (13)) + (nI (1)))) (x) (5) (t + (ctr F a s t) a 6)) (a + 1) (1) (nI (sz + 1))) (x) (0) (nI (1))) (x) (1) (nI (m))) (x) (2) (nI (c))) (x) (3) (nI (u))) (x) (4) (nI (0))) G R sO) _
    simp only [clast, eq_false c1, if_true, if_false] at k
    exact pw_vret rfl rfl (Nat.zero_le _) (Nat.zero_le _) k
  · -- 105
    refine pw_iconst (v := nI (1)) rfl (by decide) ?_
    refine pw_goto (t := 110) rfl rfl ?_
    refine px_callv (as := [.inr (some (x)), .inl (nI (1)), .inl (nI (m)), .inl (nI (c)), .inl (nI (u)), .inl (nI (1))]) (rest := []) rfl rfl (by decide) rfl (Nat.le_of_ble_eq_true rfl) (Nat.le_of_ble_eq_true rfl) (Nat.le_of_ble_eq_true rfl) (Nat.le_of_ble_eq_true rfl) rfl hsx rfl rfl ?_
    refine t_cfill hsx ?_
    show pw pP mHostA_transmit (113, [some (.inr (some (89))), some (.inr (some (a))), some (.inr (some (s))), some (.inl (t)), some (.inr (some (x))), some (.inl (cval_r G (u + m - 1) ln))], [], 0, 0, hb (sL L) (up2 (up2 (up2 (up2 (up2 (up2 (up2 (up2 (up2 (up2 F (s) (5) ((F (s) (5)) + (nI (1)))) (s) (4) (t)) (a) (13) ((F (a) (13)) + (nI (1)))) (x) (5) (t + (ctr F a s t) a 6)) (a + 1) (1) (nI (sz + 1))) (x) (0) (nI (1))) (x) (1) (nI (m))) (x) (2) (nI (c))) (x) (3) (nI (u))) (x) (4) (nI (1))) G R sO) _
    simp only [clast, eq_true (Decidable.of_not_not c1), if_true, if_false] at k
    exact pw_vret rfl rfl (Nat.zero_le _) (Nat.zero_le _) k
def csf (F : FN) (a : Nat) (t : Int32) : FN := if F a 9 = -1 then up2 F a 9 (t + F a 8) else F
theorem csf_ne {F : FN} {a i k : Nat} {t : Int32} (h : ¬ (i = a ∧ k = 9)) : csf F a t i k = F i k := by
  unfold csf
  split
  · exact up2_ne h
  · rfl
theorem t_csf0 {L a s x sz : Nat} {t : Int32} {F G : FN} {R : RN} (hP : pathok L a R) (ha : 4 < a ∧ a + 20 < 89) (hss : (sL L)[s]? = some (2, 6, [0, 0, 0, 0, 0, 0], 0)) (hsr : a + 18 ≤ s ∧ s ≤ a + 20) (hsz : F (a + 1) 1 = nI sz) (hs6 : sz ≤ 6) (hx : sz < 6 → R (a + 1 + 1) sz = some x ∧ (sL L)[x]? = some (2, 1, [0, 0, 0, 0, 0, 0], 0) ∧ a + 3 ≤ x ∧ x ≤ a + 8) (hun : F s 3 = nI 0) {Q : Option PV → PH → Prop} (k : Q none (hb (sL L) (ctr0_F (csf F a t) a s x sz t) G R sO)) : pz pP mHostA_sendFirst [.inr (some (89)), .inr (some (a)), .inr (some (s)), .inl (t)] (hb (sL L) F G R sO) Q := by
  show pw pP mHostA_sendFirst (0, [some (.inr (some (89))), some (.inr (some (a))), some (.inr (some (s))), some (.inl (t))], [], 0, 0, hb (sL L) F G R sO) _
  refine pw_aload_n rfl rfl ?_
  refine pw_ifnonnull (t := 5) rfl rfl ?_
  refine pw_aload_n rfl rfl ?_
  refine px_getv (x := F (a) (9)) rfl rfl hP.1 rfl (rfl) ?_
  refine pw_iconst (v := (-1)) rfl (by decide) ?_
  refine pw_if2p (A := ¬ F (a) (9) = (-1)) rfl rfl (t := 23) rfl (fun c1 => ?_) (fun c1 => ?_)
  · -- 23
    have ef : csf F a t = F := by simp only [csf, eq_false c1, if_true, if_false]
    rw [← ef]
    refine pw_aload_n rfl rfl ?_
    refine pw_aload_n rfl rfl ?_
    refine pw_aload_n rfl rfl ?_
    refine pw_iload_n rfl rfl ?_
    refine px_callv (as := [.inr (some (89)), .inr (some (a)), .inr (some (s)), .inl (t)]) (rest := []) rfl rfl (by decide) rfl (Nat.le_of_ble_eq_true rfl) (Nat.le_of_ble_eq_true rfl) (Nat.le_of_ble_eq_true rfl) (Nat.le_of_ble_eq_true rfl) rfl rfl rfl rfl ?_
    refine t_ctr0 (F := csf F a t) hP ha hss hsr ((csf_ne (F := F) (a := a) (t := t) (by omega)).trans hsz) hs6 hx ((csf_ne (F := F) (a := a) (t := t) (by omega)).trans hun) ?_
    show pw pP mHostA_sendFirst (30, [some (.inr (some (89))), some (.inr (some (a))), some (.inr (some (s))), some (.inl (t))], [], 0, 0, hb (sL L) (ctr0_F (csf F a t) a s x sz t) G R sO) _
    exact pw_vret rfl rfl (Nat.zero_le _) (Nat.zero_le _) k
  · -- 13
    refine pw_aload_n rfl rfl ?_
    refine pw_iload_n rfl rfl ?_
    refine pw_aload_n rfl rfl ?_
    refine px_getv (x := F (a) (8)) rfl rfl hP.1 rfl (rfl) ?_
    refine pw_iadd (z := t + (F (a) (8))) rfl rfl ?_
    refine px_put rfl rfl hP.1 rfl rfl ?_
    have ef : csf F a t = (up2 F (a) (9) (t + (F (a) (8)))) := by simp only [csf, eq_true (Decidable.of_not_not c1), if_true, if_false]
    rw [← ef]
    refine pw_aload_n rfl rfl ?_
    refine pw_aload_n rfl rfl ?_
    refine pw_aload_n rfl rfl ?_
    refine pw_iload_n rfl rfl ?_
    refine px_callv (as := [.inr (some (89)), .inr (some (a)), .inr (some (s)), .inl (t)]) (rest := []) rfl rfl (by decide) rfl (Nat.le_of_ble_eq_true rfl) (Nat.le_of_ble_eq_true rfl) (Nat.le_of_ble_eq_true rfl) (Nat.le_of_ble_eq_true rfl) rfl rfl rfl rfl ?_
    refine t_ctr0 (F := csf F a t) hP ha hss hsr ((csf_ne (F := F) (a := a) (t := t) (by omega)).trans hsz) hs6 hx ((csf_ne (F := F) (a := a) (t := t) (by omega)).trans hun) ?_
    show pw pP mHostA_sendFirst (30, [some (.inr (some (89))), some (.inr (some (a))), some (.inr (some (s))), some (.inl (t))], [], 0, 0, hb (sL L) (ctr0_F (csf F a t) a s x sz t) G R sO) _
    exact pw_vret rfl rfl (Nat.zero_le _) (Nat.zero_le _) k
theorem t_csf1 {L a s x sz c u m ln : Nat} {t : Int32} {F G : FN} {R : RN} (hP : pathok L a R) (ha : 4 < a ∧ a + 20 < 89) (hss : (sL L)[s]? = some (2, 6, [0, 0, 0, 0, 0, 0], 0)) (hsr : a + 18 ≤ s ∧ s ≤ a + 20) (hsz : F (a + 1) 1 = nI sz) (hs6 : sz ≤ 6) (hx : sz < 6 → R (a + 1 + 1) sz = some x ∧ (sL L)[x]? = some (2, 1, [0, 0, 0, 0, 0, 0], 0) ∧ a + 3 ≤ x ∧ x ≤ a + 8) (hc : F s 0 = nI c) (hu : F s 2 = nI u) (hm : F s 3 = nI m) (hm0 : ¬ m = 0) (hum : u + m ≤ 500) (hln : F 2 1 = nI ln) (hl : ln ≤ 401) {Q : Option PV → PH → Prop} (k : Q none (hb (sL L) (ctr1_F (csf F a t) G a s x sz t c u m ln) G R sO)) : pz pP mHostA_sendFirst [.inr (some (89)), .inr (some (a)), .inr (some (s)), .inl (t)] (hb (sL L) F G R sO) Q := by
  show pw pP mHostA_sendFirst (0, [some (.inr (some (89))), some (.inr (some (a))), some (.inr (some (s))), some (.inl (t))], [], 0, 0, hb (sL L) F G R sO) _
  refine pw_aload_n rfl rfl ?_
  refine pw_ifnonnull (t := 5) rfl rfl ?_
  refine pw_aload_n rfl rfl ?_
  refine px_getv (x := F (a) (9)) rfl rfl hP.1 rfl (rfl) ?_
  refine pw_iconst (v := (-1)) rfl (by decide) ?_
  refine pw_if2p (A := ¬ F (a) (9) = (-1)) rfl rfl (t := 23) rfl (fun c1 => ?_) (fun c1 => ?_)
  · -- 23
    have ef : csf F a t = F := by simp only [csf, eq_false c1, if_true, if_false]
    rw [← ef]
    refine pw_aload_n rfl rfl ?_
    refine pw_aload_n rfl rfl ?_
    refine pw_aload_n rfl rfl ?_
    refine pw_iload_n rfl rfl ?_
    refine px_callv (as := [.inr (some (89)), .inr (some (a)), .inr (some (s)), .inl (t)]) (rest := []) rfl rfl (by decide) rfl (Nat.le_of_ble_eq_true rfl) (Nat.le_of_ble_eq_true rfl) (Nat.le_of_ble_eq_true rfl) (Nat.le_of_ble_eq_true rfl) rfl rfl rfl rfl ?_
    refine t_ctr1 (F := csf F a t) hP ha hss hsr ((csf_ne (F := F) (a := a) (t := t) (by omega)).trans hsz) hs6 hx ((csf_ne (F := F) (a := a) (t := t) (by omega)).trans hc) ((csf_ne (F := F) (a := a) (t := t) (by omega)).trans hu) ((csf_ne (F := F) (a := a) (t := t) (by omega)).trans hm) hm0 hum ((csf_ne (F := F) (a := a) (t := t) (by omega)).trans hln) hl ?_
    show pw pP mHostA_sendFirst (30, [some (.inr (some (89))), some (.inr (some (a))), some (.inr (some (s))), some (.inl (t))], [], 0, 0, hb (sL L) (ctr1_F (csf F a t) G a s x sz t c u m ln) G R sO) _
    exact pw_vret rfl rfl (Nat.zero_le _) (Nat.zero_le _) k
  · -- 13
    refine pw_aload_n rfl rfl ?_
    refine pw_iload_n rfl rfl ?_
    refine pw_aload_n rfl rfl ?_
    refine px_getv (x := F (a) (8)) rfl rfl hP.1 rfl (rfl) ?_
    refine pw_iadd (z := t + (F (a) (8))) rfl rfl ?_
    refine px_put rfl rfl hP.1 rfl rfl ?_
    have ef : csf F a t = (up2 F (a) (9) (t + (F (a) (8)))) := by simp only [csf, eq_true (Decidable.of_not_not c1), if_true, if_false]
    rw [← ef]
    refine pw_aload_n rfl rfl ?_
    refine pw_aload_n rfl rfl ?_
    refine pw_aload_n rfl rfl ?_
    refine pw_iload_n rfl rfl ?_
    refine px_callv (as := [.inr (some (89)), .inr (some (a)), .inr (some (s)), .inl (t)]) (rest := []) rfl rfl (by decide) rfl (Nat.le_of_ble_eq_true rfl) (Nat.le_of_ble_eq_true rfl) (Nat.le_of_ble_eq_true rfl) (Nat.le_of_ble_eq_true rfl) rfl rfl rfl rfl ?_
    refine t_ctr1 (F := csf F a t) hP ha hss hsr ((csf_ne (F := F) (a := a) (t := t) (by omega)).trans hsz) hs6 hx ((csf_ne (F := F) (a := a) (t := t) (by omega)).trans hc) ((csf_ne (F := F) (a := a) (t := t) (by omega)).trans hu) ((csf_ne (F := F) (a := a) (t := t) (by omega)).trans hm) hm0 hum ((csf_ne (F := F) (a := a) (t := t) (by omega)).trans hln) hl ?_
    show pw pP mHostA_sendFirst (30, [some (.inr (some (89))), some (.inr (some (a))), some (.inr (some (s))), some (.inl (t))], [], 0, 0, hb (sL L) (ctr1_F (csf F a t) G a s x sz t c u m ln) G R sO) _
    exact pw_vret rfl rfl (Nat.zero_le _) (Nat.zero_le _) k
def csyn (F : FN) (a s sc hi : Nat) (tk : Int32) : FN := cadd_F (up2 (up2 F a 5 (nI 1)) a 7 tk) a s sc hi 1 0 0
theorem t_csyn {L a s x sz sc hi : Nat} {t tk : Int32} {F G : FN} {R : RN} (hP : pathok L a R) (ha : 4 < a ∧ a + 20 < 89) (hss : (sL L)[s]? = some (2, 6, [0, 0, 0, 0, 0, 0], 0)) (hsr : a + 18 ≤ s ∧ s ≤ a + 20) (hsz : F (a + 1) 1 = nI sz) (hs6 : sz ≤ 6) (hx : sz < 6 → R (a + 1 + 1) sz = some x ∧ (sL L)[x]? = some (2, 1, [0, 0, 0, 0, 0, 0], 0) ∧ a + 3 ≤ x ∧ x ≤ a + 8) (hsc : F a 3 = nI sc) (hs3 : sc < 3) (hhi : F a 4 = nI hi) (hR : R (a + 17) sc = some s) {Q : Option PV → PH → Prop} (k : Q none (hb (sL L) (ctr0_F (csf (csyn F a s sc hi tk) a t) a s x sz t) G R sO)) : pz pP mHostA_sendSyn [.inr (some 89), .inr (some a), .inl tk, .inl t] (hb (sL L) F G R sO) Q := by
  show pw pP mHostA_sendSyn (0, [some (.inr (some (89))), some (.inr (some (a))), some (.inl (tk)), some (.inl (t))], [], 0, 0, hb (sL L) F G R sO) _
  refine pw_aload_n rfl rfl ?_
  refine pw_iconst (v := nI (1)) rfl (by decide) ?_
  refine px_put rfl rfl hP.1 rfl rfl ?_
  refine pw_aload_n rfl rfl ?_
  refine pw_iload_n rfl rfl ?_
  refine px_put rfl rfl hP.1 rfl rfl ?_
  refine pw_aload_n rfl rfl ?_
  refine pw_aload_n rfl rfl ?_
  refine pw_aload_n rfl rfl ?_
  refine pw_iconst (v := nI (1)) rfl (by decide) ?_
  refine pw_iconst (v := nI (0)) rfl (by decide) ?_
  refine pw_iconst (v := nI (0)) rfl (by decide) ?_
  refine px_callv (as := [.inr (some (a)), .inl (nI (1)), .inl (nI (0)), .inl (nI (0))]) (rest := [.inr (some (a)), .inr (some (89))]) rfl rfl (by decide) rfl (Nat.le_of_ble_eq_true rfl) (Nat.le_of_ble_eq_true rfl) (Nat.le_of_ble_eq_true rfl) (Nat.le_of_ble_eq_true rfl) rfl hP.1 rfl rfl ?_
  refine t_cadd (m := 1) (u := 0) (un := 0) hP ((up2_ne (by omega)).trans ((up2_ne (by omega)).trans hsc)) hs3 ((up2_ne (by omega)).trans ((up2_ne (by omega)).trans hhi)) hR hss hsr ?_
  show pw pP mHostA_sendSyn (19, [some (.inr (some (89))), some (.inr (some (a))), some (.inl (tk)), some (.inl (t))], [.inr (some (s)), .inr (some (a)), .inr (some (89))], 0, 0, hb (sL L) (csyn F a s sc hi tk) G R sO) _
  refine pw_iload_n rfl rfl ?_
  refine px_callv (as := [.inr (some (89)), .inr (some (a)), .inr (some (s)), .inl (t)]) (rest := []) rfl rfl (by decide) rfl (Nat.le_of_ble_eq_true rfl) (Nat.le_of_ble_eq_true rfl) (Nat.le_of_ble_eq_true rfl) (Nat.le_of_ble_eq_true rfl) rfl rfl rfl rfl ?_
  refine t_csf0 hP ha hss hsr (by unfold csyn cadd_F; rw [up2_ne (by omega), up2_ne (by omega), up2_ne (by omega), up2_ne (by omega), up2_ne (by omega), up2_ne (by omega), up2_ne (by omega), up2_ne (by omega), up2_ne (by omega)]; exact hsz) hs6 hx (by unfold csyn cadd_F; rw [up2_ne (by omega), up2_ne (by omega), up2_ne (by omega)]; exact up2_eq) ?_
  show pw pP mHostA_sendSyn (23, [some (.inr (some (89))), some (.inr (some (a))), some (.inl (tk)), some (.inl (t))], [], 0, 0, hb (sL L) (ctr0_F (csf (csyn F a s sc hi tk) a t) a s x sz t) G R sO) _
  exact pw_vret rfl rfl (Nat.zero_le _) (Nat.zero_le _) k
def cri (F : FN) (a : Nat) (t : Int32) : FN := (fun F1 : FN => if F a 5 = nI 2 then up2 F1 a 5 (nI 3) else F1) (up2 (up2 F a 8 (if nI 120 < nI 2 * F a 8 then nI 120 else nI 2 * F a 8)) a 9 (t + (if nI 120 < nI 2 * F a 8 then nI 120 else nI 2 * F a 8)))
theorem cri_ne {F : FN} {a i k : Nat} {t : Int32} (h1 : ¬ (i = a ∧ k = 8)) (h2 : ¬ (i = a ∧ k = 9)) (h3 : ¬ (i = a ∧ k = 5)) : cri F a t i k = F i k := by
  unfold cri
  show (if F a 5 = nI 2 then _ else _ : FN) i k = _
  split
  · rw [up2_ne h3, up2_ne h2, up2_ne h1]
  · rw [up2_ne h2, up2_ne h1]
theorem t_cri0 {L a s x sz sc : Nat} {t : Int32} {F G : FN} {R : RN} (hP : pathok L a R) (ha : 4 < a ∧ a + 20 < 89) (hss : (sL L)[s]? = some (2, 6, [0, 0, 0, 0, 0, 0], 0)) (hsr : a + 18 ≤ s ∧ s ≤ a + 20) (hsz : F (a + 1) 1 = nI sz) (hs6 : sz ≤ 6) (hx : sz < 6 → R (a + 1 + 1) sz = some x ∧ (sL L)[x]? = some (2, 1, [0, 0, 0, 0, 0, 0], 0) ∧ a + 3 ≤ x ∧ x ≤ a + 8) (hsc : F a 3 = nI sc) (hs3 : sc ≤ 3) (hs1 : 0 < sc) (hR : R (a + 17) 0 = some s) (hun : F s 3 = nI 0) {Q : Option PV → PH → Prop} (k : Q none (hb (sL L) (ctr0_F (cri F a t) a s x sz t) G R sO)) : pz pP mHostA_ring [.inr (some 89), .inr (some a), .inl t] (hb (sL L) F G R sO) Q := by
  show pw pP mHostA_ring (0, [some (.inr (some (89))), some (.inr (some (a))), some (.inl (t))], [], 0, 0, hb (sL L) F G R sO) _
  refine pw_aload_n rfl rfl ?_
  refine pw_iconst (v := nI (2)) rfl (by decide) ?_
  refine pw_aload_n rfl rfl ?_
  refine px_getv (x := F (a) (8)) rfl rfl hP.1 rfl (rfl) ?_
  refine pw_imul (z := (nI (2)) * (F (a) (8))) rfl rfl ?_
  refine pw_bipush (v := nI (120)) rfl (by decide) ?_
  refine pw_math (st1 := [.inl ((if (nI (120)) < ((nI (2)) * (F (a) (8))) then (nI (120)) else ((nI (2)) * (F (a) (8))))), .inr (some (a))]) rfl rfl (by decide) (Nat.zero_le _) (Nat.zero_le _) rfl (Nat.le_of_ble_eq_true rfl) ?_
  refine px_put rfl rfl hP.1 rfl rfl ?_
  refine pw_aload_n rfl rfl ?_
  refine pw_iload_n rfl rfl ?_
  refine pw_aload_n rfl rfl ?_
  refine px_getv (x := (if (nI (120)) < ((nI (2)) * (F (a) (8))) then (nI (120)) else ((nI (2)) * (F (a) (8))))) rfl rfl hP.1 rfl (up2_eq) ?_
  refine pw_iadd (z := t + (if (nI (120)) < ((nI (2)) * (F (a) (8))) then (nI (120)) else ((nI (2)) * (F (a) (8))))) rfl rfl ?_
  refine px_put rfl rfl hP.1 rfl rfl ?_
  refine pw_aload_n rfl rfl ?_
  refine px_getv (x := F (a) (5)) rfl rfl hP.1 rfl ((up2_ne2 (by decide)).trans (up2_ne2 (by decide))) ?_
  refine pw_iconst (v := nI (2)) rfl (by decide) ?_
  refine pw_if2p (A := ¬ F (a) (5) = nI (2)) rfl rfl (t := 38) rfl (fun c1 => ?_) (fun c1 => ?_)
  · -- 38
    have ef : cri F a t = (up2 (up2 F (a) (8) ((if (nI (120)) < ((nI (2)) * (F (a) (8))) then (nI (120)) else ((nI (2)) * (F (a) (8)))))) (a) (9) (t + (if (nI (120)) < ((nI (2)) * (F (a) (8))) then (nI (120)) else ((nI (2)) * (F (a) (8)))))) := by simp only [cri, eq_false c1, if_true, if_false]
    rw [← ef]
    refine pw_aload_n rfl rfl ?_
    refine px_getv (x := nI (sc)) rfl rfl hP.1 rfl (((cri_ne (by omega) (by omega) (by omega)).trans hsc)) ?_
    refine pw_if1p (cz_le (by omega)) rfl (t := 57) rfl (fun q => absurd q (by omega)) (fun _ => ?_)
    refine pw_aload_n rfl rfl ?_
    refine pw_aload_n rfl rfl ?_
    refine pw_aload_n rfl rfl ?_
    refine px_getr (r := some (a + 17)) rfl rfl hP.1 rfl hP.2.1.2.2 ?_
    refine pw_iconst (v := nI (0)) rfl (by decide) ?_
    refine px_aaldn (r := (some (s))) rfl hP.2.2.2.2.1 rfl (by omega) (by decide) (hR) ?_
    refine pw_iload_n rfl rfl ?_
    refine px_callv (as := [.inr (some (89)), .inr (some (a)), .inr (some (s)), .inl (t)]) (rest := []) rfl rfl (by decide) rfl (Nat.le_of_ble_eq_true rfl) (Nat.le_of_ble_eq_true rfl) (Nat.le_of_ble_eq_true rfl) (Nat.le_of_ble_eq_true rfl) rfl rfl rfl rfl ?_
    refine t_ctr0 (F := cri F a t) hP ha hss hsr ((cri_ne (F := F) (a := a) (t := t) (by omega) (by omega) (by omega)).trans hsz) hs6 hx ((cri_ne (F := F) (a := a) (t := t) (by omega) (by omega) (by omega)).trans hun) ?_
    show pw pP mHostA_ring (57, [some (.inr (some (89))), some (.inr (some (a))), some (.inl (t))], [], 0, 0, hb (sL L) (ctr0_F (cri F a t) a s x sz t) G R sO) _
    exact pw_vret rfl rfl (Nat.zero_le _) (Nat.zero_le _) k
  · -- 33
    refine pw_aload_n rfl rfl ?_
    refine pw_iconst (v := nI (3)) rfl (by decide) ?_
    refine px_put rfl rfl hP.1 rfl rfl ?_
    have ef : cri F a t = (up2 (up2 (up2 F (a) (8) ((if (nI (120)) < ((nI (2)) * (F (a) (8))) then (nI (120)) else ((nI (2)) * (F (a) (8)))))) (a) (9) (t + (if (nI (120)) < ((nI (2)) * (F (a) (8))) then (nI (120)) else ((nI (2)) * (F (a) (8)))))) (a) (5) (nI (3))) := by simp only [cri, eq_true (Decidable.of_not_not c1), if_true, if_false]
    rw [← ef]
    refine pw_aload_n rfl rfl ?_
    refine px_getv (x := nI (sc)) rfl rfl hP.1 rfl (((cri_ne (by omega) (by omega) (by omega)).trans hsc)) ?_
    refine pw_if1p (cz_le (by omega)) rfl (t := 57) rfl (fun q => absurd q (by omega)) (fun _ => ?_)
    refine pw_aload_n rfl rfl ?_
    refine pw_aload_n rfl rfl ?_
    refine pw_aload_n rfl rfl ?_
    refine px_getr (r := some (a + 17)) rfl rfl hP.1 rfl hP.2.1.2.2 ?_
    refine pw_iconst (v := nI (0)) rfl (by decide) ?_
    refine px_aaldn (r := (some (s))) rfl hP.2.2.2.2.1 rfl (by omega) (by decide) (hR) ?_
    refine pw_iload_n rfl rfl ?_
    refine px_callv (as := [.inr (some (89)), .inr (some (a)), .inr (some (s)), .inl (t)]) (rest := []) rfl rfl (by decide) rfl (Nat.le_of_ble_eq_true rfl) (Nat.le_of_ble_eq_true rfl) (Nat.le_of_ble_eq_true rfl) (Nat.le_of_ble_eq_true rfl) rfl rfl rfl rfl ?_
    refine t_ctr0 (F := cri F a t) hP ha hss hsr ((cri_ne (F := F) (a := a) (t := t) (by omega) (by omega) (by omega)).trans hsz) hs6 hx ((cri_ne (F := F) (a := a) (t := t) (by omega) (by omega) (by omega)).trans hun) ?_
    show pw pP mHostA_ring (57, [some (.inr (some (89))), some (.inr (some (a))), some (.inl (t))], [], 0, 0, hb (sL L) (ctr0_F (cri F a t) a s x sz t) G R sO) _
    exact pw_vret rfl rfl (Nat.zero_le _) (Nat.zero_le _) k
theorem t_cri1 {L a s x sz sc c u m ln : Nat} {t : Int32} {F G : FN} {R : RN} (hP : pathok L a R) (ha : 4 < a ∧ a + 20 < 89) (hss : (sL L)[s]? = some (2, 6, [0, 0, 0, 0, 0, 0], 0)) (hsr : a + 18 ≤ s ∧ s ≤ a + 20) (hsz : F (a + 1) 1 = nI sz) (hs6 : sz ≤ 6) (hx : sz < 6 → R (a + 1 + 1) sz = some x ∧ (sL L)[x]? = some (2, 1, [0, 0, 0, 0, 0, 0], 0) ∧ a + 3 ≤ x ∧ x ≤ a + 8) (hsc : F a 3 = nI sc) (hs3 : sc ≤ 3) (hs1 : 0 < sc) (hR : R (a + 17) 0 = some s) (hc : F s 0 = nI c) (hu : F s 2 = nI u) (hm : F s 3 = nI m) (hm0 : ¬ m = 0) (hum : u + m ≤ 500) (hln : F 2 1 = nI ln) (hl : ln ≤ 401) {Q : Option PV → PH → Prop} (k : Q none (hb (sL L) (ctr1_F (cri F a t) G a s x sz t c u m ln) G R sO)) : pz pP mHostA_ring [.inr (some 89), .inr (some a), .inl t] (hb (sL L) F G R sO) Q := by
  show pw pP mHostA_ring (0, [some (.inr (some (89))), some (.inr (some (a))), some (.inl (t))], [], 0, 0, hb (sL L) F G R sO) _
  refine pw_aload_n rfl rfl ?_
  refine pw_iconst (v := nI (2)) rfl (by decide) ?_
  refine pw_aload_n rfl rfl ?_
  refine px_getv (x := F (a) (8)) rfl rfl hP.1 rfl (rfl) ?_
  refine pw_imul (z := (nI (2)) * (F (a) (8))) rfl rfl ?_
  refine pw_bipush (v := nI (120)) rfl (by decide) ?_
  refine pw_math (st1 := [.inl ((if (nI (120)) < ((nI (2)) * (F (a) (8))) then (nI (120)) else ((nI (2)) * (F (a) (8))))), .inr (some (a))]) rfl rfl (by decide) (Nat.zero_le _) (Nat.zero_le _) rfl (Nat.le_of_ble_eq_true rfl) ?_
  refine px_put rfl rfl hP.1 rfl rfl ?_
  refine pw_aload_n rfl rfl ?_
  refine pw_iload_n rfl rfl ?_
  refine pw_aload_n rfl rfl ?_
  refine px_getv (x := (if (nI (120)) < ((nI (2)) * (F (a) (8))) then (nI (120)) else ((nI (2)) * (F (a) (8))))) rfl rfl hP.1 rfl (up2_eq) ?_
  refine pw_iadd (z := t + (if (nI (120)) < ((nI (2)) * (F (a) (8))) then (nI (120)) else ((nI (2)) * (F (a) (8))))) rfl rfl ?_
  refine px_put rfl rfl hP.1 rfl rfl ?_
  refine pw_aload_n rfl rfl ?_
  refine px_getv (x := F (a) (5)) rfl rfl hP.1 rfl ((up2_ne2 (by decide)).trans (up2_ne2 (by decide))) ?_
  refine pw_iconst (v := nI (2)) rfl (by decide) ?_
  refine pw_if2p (A := ¬ F (a) (5) = nI (2)) rfl rfl (t := 38) rfl (fun c1 => ?_) (fun c1 => ?_)
  · -- 38
    have ef : cri F a t = (up2 (up2 F (a) (8) ((if (nI (120)) < ((nI (2)) * (F (a) (8))) then (nI (120)) else ((nI (2)) * (F (a) (8)))))) (a) (9) (t + (if (nI (120)) < ((nI (2)) * (F (a) (8))) then (nI (120)) else ((nI (2)) * (F (a) (8)))))) := by simp only [cri, eq_false c1, if_true, if_false]
    rw [← ef]
    refine pw_aload_n rfl rfl ?_
    refine px_getv (x := nI (sc)) rfl rfl hP.1 rfl (((cri_ne (by omega) (by omega) (by omega)).trans hsc)) ?_
    refine pw_if1p (cz_le (by omega)) rfl (t := 57) rfl (fun q => absurd q (by omega)) (fun _ => ?_)
    refine pw_aload_n rfl rfl ?_
    refine pw_aload_n rfl rfl ?_
    refine pw_aload_n rfl rfl ?_
    refine px_getr (r := some (a + 17)) rfl rfl hP.1 rfl hP.2.1.2.2 ?_
    refine pw_iconst (v := nI (0)) rfl (by decide) ?_
    refine px_aaldn (r := (some (s))) rfl hP.2.2.2.2.1 rfl (by omega) (by decide) (hR) ?_
    refine pw_iload_n rfl rfl ?_
    refine px_callv (as := [.inr (some (89)), .inr (some (a)), .inr (some (s)), .inl (t)]) (rest := []) rfl rfl (by decide) rfl (Nat.le_of_ble_eq_true rfl) (Nat.le_of_ble_eq_true rfl) (Nat.le_of_ble_eq_true rfl) (Nat.le_of_ble_eq_true rfl) rfl rfl rfl rfl ?_
    refine t_ctr1 (F := cri F a t) hP ha hss hsr ((cri_ne (F := F) (a := a) (t := t) (by omega) (by omega) (by omega)).trans hsz) hs6 hx ((cri_ne (F := F) (a := a) (t := t) (by omega) (by omega) (by omega)).trans hc) ((cri_ne (F := F) (a := a) (t := t) (by omega) (by omega) (by omega)).trans hu) ((cri_ne (F := F) (a := a) (t := t) (by omega) (by omega) (by omega)).trans hm) hm0 hum ((cri_ne (F := F) (a := a) (t := t) (by omega) (by omega) (by omega)).trans hln) hl ?_
    show pw pP mHostA_ring (57, [some (.inr (some (89))), some (.inr (some (a))), some (.inl (t))], [], 0, 0, hb (sL L) (ctr1_F (cri F a t) G a s x sz t c u m ln) G R sO) _
    exact pw_vret rfl rfl (Nat.zero_le _) (Nat.zero_le _) k
  · -- 33
    refine pw_aload_n rfl rfl ?_
    refine pw_iconst (v := nI (3)) rfl (by decide) ?_
    refine px_put rfl rfl hP.1 rfl rfl ?_
    have ef : cri F a t = (up2 (up2 (up2 F (a) (8) ((if (nI (120)) < ((nI (2)) * (F (a) (8))) then (nI (120)) else ((nI (2)) * (F (a) (8)))))) (a) (9) (t + (if (nI (120)) < ((nI (2)) * (F (a) (8))) then (nI (120)) else ((nI (2)) * (F (a) (8)))))) (a) (5) (nI (3))) := by simp only [cri, eq_true (Decidable.of_not_not c1), if_true, if_false]
    rw [← ef]
    refine pw_aload_n rfl rfl ?_
    refine px_getv (x := nI (sc)) rfl rfl hP.1 rfl (((cri_ne (by omega) (by omega) (by omega)).trans hsc)) ?_
    refine pw_if1p (cz_le (by omega)) rfl (t := 57) rfl (fun q => absurd q (by omega)) (fun _ => ?_)
    refine pw_aload_n rfl rfl ?_
    refine pw_aload_n rfl rfl ?_
    refine pw_aload_n rfl rfl ?_
    refine px_getr (r := some (a + 17)) rfl rfl hP.1 rfl hP.2.1.2.2 ?_
    refine pw_iconst (v := nI (0)) rfl (by decide) ?_
    refine px_aaldn (r := (some (s))) rfl hP.2.2.2.2.1 rfl (by omega) (by decide) (hR) ?_
    refine pw_iload_n rfl rfl ?_
    refine px_callv (as := [.inr (some (89)), .inr (some (a)), .inr (some (s)), .inl (t)]) (rest := []) rfl rfl (by decide) rfl (Nat.le_of_ble_eq_true rfl) (Nat.le_of_ble_eq_true rfl) (Nat.le_of_ble_eq_true rfl) (Nat.le_of_ble_eq_true rfl) rfl rfl rfl rfl ?_
    refine t_ctr1 (F := cri F a t) hP ha hss hsr ((cri_ne (F := F) (a := a) (t := t) (by omega) (by omega) (by omega)).trans hsz) hs6 hx ((cri_ne (F := F) (a := a) (t := t) (by omega) (by omega) (by omega)).trans hc) ((cri_ne (F := F) (a := a) (t := t) (by omega) (by omega) (by omega)).trans hu) ((cri_ne (F := F) (a := a) (t := t) (by omega) (by omega) (by omega)).trans hm) hm0 hum ((cri_ne (F := F) (a := a) (t := t) (by omega) (by omega) (by omega)).trans hln) hl ?_
    show pw pP mHostA_ring (57, [some (.inr (some (89))), some (.inr (some (a))), some (.inl (t))], [], 0, 0, hb (sL L) (ctr1_F (cri F a t) G a s x sz t c u m ln) G R sO) _
    exact pw_vret rfl rfl (Nat.zero_le _) (Nat.zero_le _) k
def cany (F : FN) : Nat → Nat → Nat
  | 0, _ => 0
  | n + 1, p => if F (5 + 21 * p) 5 = nI 2 then 1 else cany F n (p + 1)
theorem t_cany_lp {L : Nat} {F G : FN} {R : RN} (hR4 : ∀ q, q < 4 → R 4 q = some (5 + 21 * q)) (hPa : ∀ q, q < 4 → pathok L (5 + 21 * q) R) {Q : Option PV → PH → Prop} : ∀ (n p : Nat), p + n = 4 → Q (some (.inl (nI (cany F n p)))) (hb (sL L) F G R sO) → pw pP mHostA_isAnyOpen (2, [some (.inr (some (89))), some (.inl (nI (p)))], [], 0, 0, hb (sL L) F G R sO) Q := by
  intro n
  induction n with
  | zero =>
    intro p hn k
    have e : p = 4 := by omega
    subst e
    refine pw_iload_n rfl rfl ?_
    refine pw_iconst (v := nI (4)) rfl (by decide) ?_
    refine pw_if2 (t := 28) rfl rfl (fun _ => ?_) (fun q => absurd q (by decide))
    refine pw_iconst (v := nI (0)) rfl (by decide) ?_
    exact pw_iret rfl rfl (Nat.zero_le _) (Nat.zero_le _) rfl k
  | succ n ih =>
    intro p hn k
    refine pw_iload_n rfl rfl ?_
    refine pw_iconst (v := nI (4)) rfl (by decide) ?_
    refine pw_if2p (cn_ge (by omega) (by omega)) rfl (t := 28) rfl (fun q => absurd q (by omega)) (fun _ => ?_)
    refine pw_aload_n rfl rfl ?_
    refine px_getr (r := some (4)) rfl rfl rfl rfl rfl ?_
    refine pw_iload_n rfl rfl ?_
    refine px_aaldn (r := (some (5 + 21 * p))) rfl rfl rfl (by omega) (by decide) (hR4 p (by omega)) ?_
    refine px_getv (x := F (5 + 21 * p) (5)) rfl rfl (hPa p (by omega)).1 rfl (rfl) ?_
    refine pw_iconst (v := nI (2)) rfl (by decide) ?_
    refine pw_if2p (A := ¬ F (5 + 21 * p) (5) = nI (2)) rfl rfl (t := 22) rfl (fun c1 => ?_) (fun c1 => ?_)
    · -- 22
      refine pw_iinc (v := nI (p + 1)) (ls1 := [some (.inr (some (89))), some (.inl (nI (p + 1)))]) rfl rfl (iinc_n _) rfl ?_
      refine pw_goto (t := 2) rfl rfl ?_
      simp only [cany, eq_false c1, if_true, if_false] at k
      exact ih (p + 1) (by omega) k
    · -- 20
      refine pw_iconst (v := nI (1)) rfl (by decide) ?_
      simp only [cany, eq_true (Decidable.of_not_not c1), if_true, if_false] at k
      exact pw_iret rfl rfl (Nat.zero_le _) (Nat.zero_le _) rfl k
theorem t_cany {L : Nat} {F G : FN} {R : RN} (hR4 : ∀ q, q < 4 → R 4 q = some (5 + 21 * q)) (hPa : ∀ q, q < 4 → pathok L (5 + 21 * q) R) {Q : Option PV → PH → Prop} (k : Q (some (.inl (nI (cany F 4 0)))) (hb (sL L) F G R sO)) : pz pP mHostA_isAnyOpen [.inr (some 89)] (hb (sL L) F G R sO) Q := by
  show pw pP mHostA_isAnyOpen (0, [some (.inr (some (89))), none], [], 0, 0, hb (sL L) F G R sO) _
  refine pw_iconst (v := nI (0)) rfl (by decide) ?_
  refine pw_istore_n (ls1 := [some (.inr (some (89))), some (.inl (nI (0)))]) rfl (Nat.le_of_ble_eq_true rfl) rfl ?_
  exact t_cany_lp hR4 hPa 4 0 (by omega) k
/-- what the segments of the paths are -/
def segv (F : FN) (R : RN) (sc : Nat → Nat) (su sn : Nat → Nat → Nat) : Prop := ∀ q, q < 4 → F (5 + 21 * q) 3 = nI (sc q) ∧ sc q ≤ 3 ∧ ∀ j, j < sc q → F (rx R (5 + 21 * q + 17) j) 2 = nI (su q j) ∧ F (rx R (5 + 21 * q + 17) j) 3 = nI (sn q j) ∧ su q j + sn q j < 2 ^ 30
def clq (F : FN) (sc : Nat → Nat) (su sn : Nat → Nat → Nat) (p u : Nat) : Nat → Nat → Bool
  | 0, _ => true
  | n + 1, q => if (q = p ∨ F (5 + 21 * q) 5 = nI 2) then (if cov (su q) (sn q) u (sc q) 0 = true then false else clq F sc su sn p u n (q + 1)) else clq F sc su sn p u n (q + 1)
def clo (F G : FN) (sc : Nat → Nat) (su sn : Nat → Nat → Nat) (p u kn ln : Nat) : Bool := if u < kn then false else if ln ≤ u then false else if G 90 u = 0 then clq F sc su sn p u 4 0 else false
theorem pa_inj {p q : Nat} : some (5 + 21 * q) = some (5 + 21 * p) ↔ q = p := by
  constructor
  · intro h
    have := Option.some.inj h
    omega
  · intro h
    rw [h]
theorem t_cloose_lp {L p u : Nat} {F G : FN} {R : RN} (hR4 : ∀ q, q < 4 → R 4 q = some (5 + 21 * q)) (hPa : ∀ q, q < 4 → pathok L (5 + 21 * q) R) {sc : Nat → Nat} {su sn : Nat → Nat → Nat} (hS : segv F R sc su sn) (hp : p < 4) (hu : u < 2 ^ 30) {Q : Option PV → PH → Prop} : ∀ (n q : Nat) (o4 : Option PV), q + n = 4 → Q (some (.inl (bI (clq F sc su sn p u n q = true)))) (hb (sL L) F G R sO) → pw pP mHostA_isLoose (32, [some (.inr (some (89))), some (.inl (nI (u))), some (.inr (some (5 + 21 * p))), some (.inl (nI (q))), o4], [], 0, 0, hb (sL L) F G R sO) Q := by
  intro n
  induction n with
  | zero =>
    intro q o4 hn k
    have e : q = 4 := by omega
    subst e
    rw [bI_t (show clq F sc su sn p u 0 4 = true from rfl)] at k
    refine pw_iload_n rfl rfl ?_
    refine pw_iconst (v := nI (4)) rfl (by decide) ?_
    refine pw_if2 (t := 77) rfl rfl (fun _ => ?_) (fun q => absurd q (by decide))
    refine pw_iconst (v := nI (1)) rfl (by decide) ?_
    exact pw_iret rfl rfl (Nat.zero_le _) (Nat.zero_le _) rfl k
  | succ n ih =>
    intro q o4 hn k
    refine pw_iload_n rfl rfl ?_
    refine pw_iconst (v := nI (4)) rfl (by decide) ?_
    refine pw_if2p (cn_ge (by omega) (by omega)) rfl (t := 77) rfl (fun q => absurd q (by omega)) (fun _ => ?_)
    refine pw_aload_n rfl rfl ?_
    refine px_getr (r := some (4)) rfl rfl rfl rfl rfl ?_
    refine pw_iload_n rfl rfl ?_
    refine px_aaldn (r := (some (5 + 21 * q))) rfl rfl rfl (by omega) (by decide) (hR4 q (by omega)) ?_
    refine pw_astore (ls1 := [some (.inr (some (89))), some (.inl (nI (u))), some (.inr (some (5 + 21 * p))), some (.inl (nI (q))), some (.inr (some (5 + 21 * q)))]) rfl (Nat.le_of_ble_eq_true rfl) rfl ?_
    refine pw_aload rfl rfl ?_
    refine pw_aload_n rfl rfl ?_
    refine pw_aeq (t := 60) rfl rfl (fun c1 => ?_) (fun c1 => ?_)
    · -- 60
      refine pw_aload rfl rfl ?_
      refine pw_iload_n rfl rfl ?_
      refine px_callv (as := [.inr (some (5 + 21 * q)), .inl (nI (u))]) (rest := []) rfl rfl (by decide) rfl (Nat.le_of_ble_eq_true rfl) (Nat.le_of_ble_eq_true rfl) (Nat.le_of_ble_eq_true rfl) (Nat.le_of_ble_eq_true rfl) rfl (hPa q (by omega)).1 rfl rfl ?_
      refine t_cbears (hPa q (by omega)) (hS q (by omega)).1 (hS q (by omega)).2.1 (fun j hj => ((hS q (by omega)).2.2 j hj).1) (fun j hj => ((hS q (by omega)).2.2 j hj).2.1) (fun j hj => ((hS q (by omega)).2.2 j hj).2.2) hu ?_
      show pw pP mHostA_isLoose (66, [some (.inr (some (89))), some (.inl (nI (u))), some (.inr (some (5 + 21 * p))), some (.inl (nI (q))), some (.inr (some (5 + 21 * q)))], [.inl (bI (cov (su q) (sn q) u (sc q) 0 = true))], 0, 0, hb (sL L) F G R sO) _
      refine pw_if1p cb_eq rfl (t := 71) rfl (fun c2 => ?_) (fun c2 => ?_)
      · -- 71
        refine pw_iinc (v := nI (q + 1)) (ls1 := [some (.inr (some (89))), some (.inl (nI (u))), some (.inr (some (5 + 21 * p))), some (.inl (nI (q + 1))), some (.inr (some (5 + 21 * q)))]) rfl rfl (iinc_n _) rfl ?_
        refine pw_goto (t := 32) rfl rfl ?_
        simp only [clq, eq_true (show q = p ∨ F (5 + 21 * q) 5 = nI 2 from Or.inl (pa_inj.mp c1)), eq_false c2, if_true, if_false] at k
        exact ih (q + 1) _ (by omega) k
      · -- 69
        refine pw_iconst (v := nI (0)) rfl (by decide) ?_
        simp only [clq, eq_true (show q = p ∨ F (5 + 21 * q) 5 = nI 2 from Or.inl (pa_inj.mp c1)), eq_true (Decidable.of_not_not c2), if_true, if_false] at k
        rw [bI_f (by decide)] at k
        exact pw_iret rfl rfl (Nat.zero_le _) (Nat.zero_le _) rfl k
    · -- 51
      refine pw_aload rfl rfl ?_
      refine px_getv (x := F (5 + 21 * q) (5)) rfl rfl (hPa q (by omega)).1 rfl (rfl) ?_
      refine pw_iconst (v := nI (2)) rfl (by decide) ?_
      refine pw_if2p (A := ¬ F (5 + 21 * q) (5) = nI (2)) rfl rfl (t := 71) rfl (fun c3 => ?_) (fun c3 => ?_)
      · -- 71
        refine pw_iinc (v := nI (q + 1)) (ls1 := [some (.inr (some (89))), some (.inl (nI (u))), some (.inr (some (5 + 21 * p))), some (.inl (nI (q + 1))), some (.inr (some (5 + 21 * q)))]) rfl rfl (iinc_n _) rfl ?_
        refine pw_goto (t := 32) rfl rfl ?_
        simp only [clq, eq_false (show ¬ (q = p ∨ F (5 + 21 * q) 5 = nI 2) from fun h => h.elim (fun h => c1 (pa_inj.mpr h)) (fun h => c3 h)), if_true, if_false] at k
        exact ih (q + 1) _ (by omega) k
      · -- 60
        refine pw_aload rfl rfl ?_
        refine pw_iload_n rfl rfl ?_
        refine px_callv (as := [.inr (some (5 + 21 * q)), .inl (nI (u))]) (rest := []) rfl rfl (by decide) rfl (Nat.le_of_ble_eq_true rfl) (Nat.le_of_ble_eq_true rfl) (Nat.le_of_ble_eq_true rfl) (Nat.le_of_ble_eq_true rfl) rfl (hPa q (by omega)).1 rfl rfl ?_
        refine t_cbears (hPa q (by omega)) (hS q (by omega)).1 (hS q (by omega)).2.1 (fun j hj => ((hS q (by omega)).2.2 j hj).1) (fun j hj => ((hS q (by omega)).2.2 j hj).2.1) (fun j hj => ((hS q (by omega)).2.2 j hj).2.2) hu ?_
        show pw pP mHostA_isLoose (66, [some (.inr (some (89))), some (.inl (nI (u))), some (.inr (some (5 + 21 * p))), some (.inl (nI (q))), some (.inr (some (5 + 21 * q)))], [.inl (bI (cov (su q) (sn q) u (sc q) 0 = true))], 0, 0, hb (sL L) F G R sO) _
        refine pw_if1p cb_eq rfl (t := 71) rfl (fun c4 => ?_) (fun c4 => ?_)
        · -- 71
          refine pw_iinc (v := nI (q + 1)) (ls1 := [some (.inr (some (89))), some (.inl (nI (u))), some (.inr (some (5 + 21 * p))), some (.inl (nI (q + 1))), some (.inr (some (5 + 21 * q)))]) rfl rfl (iinc_n _) rfl ?_
          refine pw_goto (t := 32) rfl rfl ?_
          simp only [clq, eq_true (show q = p ∨ F (5 + 21 * q) 5 = nI 2 from Or.inr (Decidable.of_not_not c3)), eq_false c4, if_true, if_false] at k
          exact ih (q + 1) _ (by omega) k
        · -- 69
          refine pw_iconst (v := nI (0)) rfl (by decide) ?_
          simp only [clq, eq_true (show q = p ∨ F (5 + 21 * q) 5 = nI 2 from Or.inr (Decidable.of_not_not c3)), eq_true (Decidable.of_not_not c4), if_true, if_false] at k
          rw [bI_f (by decide)] at k
          exact pw_iret rfl rfl (Nat.zero_le _) (Nat.zero_le _) rfl k
theorem t_cloose {L p u kn ln : Nat} {F G : FN} {R : RN} (hR4 : ∀ q, q < 4 → R 4 q = some (5 + 21 * q)) (hPa : ∀ q, q < 4 → pathok L (5 + 21 * q) R) {sc : Nat → Nat} {su sn : Nat → Nat → Nat} (hS : segv F R sc su sn) (hp : p < 4) (hu : u < 2 ^ 30) (hkn : F 89 5 = nI kn) (hk : kn < 2 ^ 30) (hln : F 2 1 = nI ln) (hl : ln ≤ 401) {Q : Option PV → PH → Prop} (k : Q (some (.inl (bI (clo F G sc su sn p u kn ln = true)))) (hb (sL L) F G R sO)) : pz pP mHostA_isLoose [.inr (some 89), .inl (nI u), .inr (some (5 + 21 * p))] (hb (sL L) F G R sO) Q := by
  show pw pP mHostA_isLoose (0, [some (.inr (some (89))), some (.inl (nI (u))), some (.inr (some (5 + 21 * p))), none, none], [], 0, 0, hb (sL L) F G R sO) _
  refine pw_iload_n rfl rfl ?_
  refine pw_aload_n rfl rfl ?_
  refine px_getv (x := nI (kn)) rfl rfl rfl rfl (hkn) ?_
  refine pw_if2p (cn_lt (by omega) (by omega)) rfl (t := 28) rfl (fun c1 => ?_) (fun c1 => ?_)
  · -- 28
    refine pw_iconst (v := nI (0)) rfl (by decide) ?_
    simp only [clo, eq_true c1, if_true, if_false] at k
    rw [bI_f (by decide)] at k
    exact pw_iret rfl rfl (Nat.zero_le _) (Nat.zero_le _) rfl k
  · -- 8
    refine pw_iload_n rfl rfl ?_
    refine pw_aload_n rfl rfl ?_
    refine px_getr (r := some (2)) rfl rfl rfl rfl rfl ?_
    refine px_getv (x := nI (ln)) rfl rfl rfl rfl (hln) ?_
    refine pw_if2p (cn_ge (by omega) (by omega)) rfl (t := 28) rfl (fun c2 => ?_) (fun c2 => ?_)
    · -- 28
      refine pw_iconst (v := nI (0)) rfl (by decide) ?_
      simp only [clo, eq_false c1, eq_true c2, if_true, if_false] at k
      rw [bI_f (by decide)] at k
      exact pw_iret rfl rfl (Nat.zero_le _) (Nat.zero_le _) rfl k
    · -- 19
      refine pw_aload_n rfl rfl ?_
      refine px_getr (r := some (90)) rfl rfl rfl rfl rfl ?_
      refine pw_iload_n rfl rfl ?_
      refine px_zaldn (x := G (90) (u)) rfl rfl (by omega) (by decide) (rfl) ?_
      refine pw_if1p (A := G (90) (u) = 0) rfl rfl (t := 30) rfl (fun c3 => ?_) (fun c3 => ?_)
      · -- 30
        refine pw_iconst (v := nI (0)) rfl (by decide) ?_
        refine pw_istore_n (ls1 := [some (.inr (some (89))), some (.inl (nI (u))), some (.inr (some (5 + 21 * p))), some (.inl (nI (0))), none]) rfl (Nat.le_of_ble_eq_true rfl) rfl ?_
        simp only [clo, eq_false c1, eq_false c2, eq_true c3, if_true, if_false] at k
        exact t_cloose_lp hR4 hPa hS hp hu 4 0 _ (by omega) k
      · -- 28
        refine pw_iconst (v := nI (0)) rfl (by decide) ?_
        simp only [clo, eq_false c1, eq_false c2, eq_false c3, if_true, if_false] at k
        rw [bI_f (by decide)] at k
        exact pw_iret rfl rfl (Nat.zero_le _) (Nat.zero_le _) rfl k
