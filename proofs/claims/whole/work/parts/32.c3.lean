/-! THE CLASS, third part: host B. Rows laid by a program (wip/whole/gen/class3.py). -/
/-- a copy is sent: lost, or filled in -/
def cship (F : FN) (a e x sz : Nat) (t k1 k2 k3 k4 k5 : Int32) : FN := if F a 6 = 0 then F else if 6 ≤ sz then F else cfill_F (append_F F e x sz (t + F a 6)) x k1 k2 k3 k4 k5
theorem cship_0 {F : FN} {a e x sz : Nat} {t k1 k2 k3 k4 k5 : Int32} (h : F a 6 = 0) : cship F a e x sz t k1 k2 k3 k4 k5 = F := if_pos h
theorem cship_6 {F : FN} {a e x sz : Nat} {t k1 k2 k3 k4 k5 : Int32} (h : 6 ≤ sz) : cship F a e x sz t k1 k2 k3 k4 k5 = F := by
  unfold cship
  split
  · rfl
  · rfl
theorem cship_y {F : FN} {a e x sz : Nat} {t k1 k2 k3 k4 k5 : Int32} (h : ¬ F a 6 = 0) (h6 : sz < 6) : cship F a e x sz t k1 k2 k3 k4 k5 = cfill_F (append_F F e x sz (t + F a 6)) x k1 k2 k3 k4 k5 := by
  unfold cship
  rw [if_neg h, if_neg (by omega)]
/-- HostB_limit -/
def climit_r (F : FN) : Int32 := (F (92) (6)) + (F (92) (1))
theorem t_climit {L : Nat} {F G : FN} {R : RN} {Q : Option PV → PH → Prop} (k : Q (some (.inl (climit_r F))) (hb (sL L) F G R sO)) : pz pP mHostB_limit [.inr (some (92))] (hb (sL L) F G R sO) Q := by
  show pw pP mHostB_limit (0, [some (.inr (some (92)))], [], 0, 0, hb (sL L) F G R sO) _
  refine pw_aload_n rfl rfl ?_
  refine px_getv (x := F (92) (6)) rfl rfl rfl rfl (rfl) ?_
  refine pw_aload_n rfl rfl ?_
  refine px_getv (x := F (92) (1)) rfl rfl rfl rfl (rfl) ?_
  refine pw_iadd (z := (F (92) (6)) + (F (92) (1))) rfl rfl ?_
  exact pw_iret rfl rfl (Nat.zero_le _) (Nat.zero_le _) rfl k
theorem t_cans2 {L a e x sz : Nat} {t : Int32} {F G : FN} {R : RN} (hP : pathok L a R) (hA : arrok L e) (he : 95 ≤ e) (ha : a + 20 < 89) (hsz : F (a + 9) 1 = nI sz) (hs6 : sz ≤ 6) (hx : sz < 6 → R (a + 9 + 1) sz = some x ∧ (sL L)[x]? = some (2, 1, [0, 0, 0, 0, 0, 0], 0) ∧ a + 11 ≤ x ∧ x ≤ a + 16) {Q : Option PV → PH → Prop} (k : Q none (hb (sL L) (cship F a (a + 9) x sz t (nI 2) (nI 0) (F e 1) (F 92 5) (F 92 6 + F 92 1)) G R sO)) : pz pP mHostB_answer [.inr (some 92), .inr (some a), .inl (nI 2), .inr (some e), .inl t] (hb (sL L) F G R sO) Q := by
  show pw pP mHostB_answer (0, [some (.inr (some (92))), some (.inr (some (a))), some (.inl (nI (2))), some (.inr (some (e))), some (.inl (t)), none], [], 0, 0, hb (sL L) F G R sO) _
  by_cases hd : F a 6 = 0
  · rw [cship_0 hd] at k
    refine pw_aload_n rfl rfl ?_
    refine pw_iconst (v := nI (1)) rfl (by decide) ?_
    refine pw_iload rfl rfl ?_
    refine px_callv (as := [.inr (some (a)), .inl (nI (1)), .inl (t)]) (rest := []) rfl rfl (by decide) rfl (Nat.le_of_ble_eq_true rfl) (Nat.le_of_ble_eq_true rfl) (Nat.le_of_ble_eq_true rfl) (Nat.le_of_ble_eq_true rfl) rfl hP.1 rfl rfl ?_
    refine t_cdisp1_0 hP hd ?_
    show pw pP mHostB_answer (7, [some (.inr (some (92))), some (.inr (some (a))), some (.inl (nI (2))), some (.inr (some (e))), some (.inl (t)), none], [.inr none], 0, 0, hb (sL L) F G R sO) _
    refine pw_astore (ls1 := [some (.inr (some (92))), some (.inr (some (a))), some (.inl (nI (2))), some (.inr (some (e))), some (.inl (t)), some (.inr none)]) rfl (Nat.le_of_ble_eq_true rfl) rfl ?_
    refine pw_aload rfl rfl ?_
    refine pw_ifnonnullN (t := 15) rfl rfl ?_
    exact pw_vret rfl rfl (Nat.zero_le _) (Nat.zero_le _) k
  by_cases h6 : 6 ≤ sz
  · rw [cship_6 h6] at k
    have e6 : sz = 6 := by omega
    subst e6
    refine pw_aload_n rfl rfl ?_
    refine pw_iconst (v := nI (1)) rfl (by decide) ?_
    refine pw_iload rfl rfl ?_
    refine px_callv (as := [.inr (some (a)), .inl (nI (1)), .inl (t)]) (rest := []) rfl rfl (by decide) rfl (Nat.le_of_ble_eq_true rfl) (Nat.le_of_ble_eq_true rfl) (Nat.le_of_ble_eq_true rfl) (Nat.le_of_ble_eq_true rfl) rfl hP.1 rfl rfl ?_
    refine t_cdisp1_6 hP hd hsz ?_
    show pw pP mHostB_answer (7, [some (.inr (some (92))), some (.inr (some (a))), some (.inl (nI (2))), some (.inr (some (e))), some (.inl (t)), none], [.inr none], 0, 0, hb (sL L) F G R sO) _
    refine pw_astore (ls1 := [some (.inr (some (92))), some (.inr (some (a))), some (.inl (nI (2))), some (.inr (some (e))), some (.inl (t)), some (.inr none)]) rfl (Nat.le_of_ble_eq_true rfl) rfl ?_
    refine pw_aload rfl rfl ?_
    refine pw_ifnonnullN (t := 15) rfl rfl ?_
    exact pw_vret rfl rfl (Nat.zero_le _) (Nat.zero_le _) k
  obtain ⟨hx1, hsx, hxr⟩ := hx (by omega)
  rw [cship_y hd (by omega)] at k
  refine pw_aload_n rfl rfl ?_
  refine pw_iconst (v := nI (1)) rfl (by decide) ?_
  refine pw_iload rfl rfl ?_
  refine px_callv (as := [.inr (some (a)), .inl (nI (1)), .inl (t)]) (rest := []) rfl rfl (by decide) rfl (Nat.le_of_ble_eq_true rfl) (Nat.le_of_ble_eq_true rfl) (Nat.le_of_ble_eq_true rfl) (Nat.le_of_ble_eq_true rfl) rfl hP.1 rfl rfl ?_
  refine t_cdisp1 hP hd hsz (by omega) hx1 hsx ?_
  show pw pP mHostB_answer (7, [some (.inr (some (92))), some (.inr (some (a))), some (.inl (nI (2))), some (.inr (some (e))), some (.inl (t)), none], [.inr (some (x))], 0, 0, hb (sL L) (up2 (up2 F (x) (5) (t + F a 6)) (a + 9) (1) (nI (sz + 1))) G R sO) _
  refine pw_astore (ls1 := [some (.inr (some (92))), some (.inr (some (a))), some (.inl (nI (2))), some (.inr (some (e))), some (.inl (t)), some (.inr (some (x)))]) rfl (Nat.le_of_ble_eq_true rfl) rfl ?_
  refine pw_aload rfl rfl ?_
  refine pw_ifnonnull (t := 15) rfl rfl ?_
  refine pw_iload_n rfl rfl ?_
  refine pw_iconst (v := nI (3)) rfl (by decide) ?_
  refine pw_if2 (t := 33) rfl rfl (fun _ => ?_) (fun q => absurd q (by decide))
  refine pw_aload rfl rfl ?_
  refine pw_iconst (v := nI (2)) rfl (by decide) ?_
  refine pw_iconst (v := nI (0)) rfl (by decide) ?_
  refine pw_aload_n rfl rfl ?_
  refine px_getv (x := F (e) (1)) rfl rfl hA.1 rfl ((up2_ne (by omega)).trans (up2_ne (by omega))) ?_
  refine pw_aload_n rfl rfl ?_
  refine px_getv (x := F (92) (5)) rfl rfl rfl rfl ((up2_ne (by omega)).trans (up2_ne (by omega))) ?_
  refine pw_aload_n rfl rfl ?_
  refine px_callv (as := [.inr (some (92))]) (rest := [.inl (F (92) (5)), .inl (F (e) (1)), .inl (nI (0)), .inl (nI (2)), .inr (some (x))]) rfl rfl (by decide) rfl (Nat.le_of_ble_eq_true rfl) (Nat.le_of_ble_eq_true rfl) (Nat.le_of_ble_eq_true rfl) (Nat.le_of_ble_eq_true rfl) rfl rfl rfl rfl ?_
  refine t_climit ?_
  show pw pP mHostB_answer (49, [some (.inr (some (92))), some (.inr (some (a))), some (.inl (nI (2))), some (.inr (some (e))), some (.inl (t)), some (.inr (some (x)))], [.inl (up2 (up2 F (x) (5) (t + F a 6)) (a + 9) (1) (nI (sz + 1)) 92 6 + up2 (up2 F (x) (5) (t + F a 6)) (a + 9) (1) (nI (sz + 1)) 92 1), .inl (F (92) (5)), .inl (F (e) (1)), .inl (nI (0)), .inl (nI (2)), .inr (some (x))], 0, 0, hb (sL L) (up2 (up2 F (x) (5) (t + F a 6)) (a + 9) (1) (nI (sz + 1))) G R sO) _
  refine px_callv (as := [.inr (some (x)), .inl (nI (2)), .inl (nI (0)), .inl (F (e) (1)), .inl (F (92) (5)), .inl (up2 (up2 F (x) (5) (t + F a 6)) (a + 9) (1) (nI (sz + 1)) 92 6 + up2 (up2 F (x) (5) (t + F a 6)) (a + 9) (1) (nI (sz + 1)) 92 1)]) (rest := []) rfl rfl (by decide) rfl (Nat.le_of_ble_eq_true rfl) (Nat.le_of_ble_eq_true rfl) (Nat.le_of_ble_eq_true rfl) (Nat.le_of_ble_eq_true rfl) rfl hsx rfl rfl ?_
  refine t_cfill hsx ?_
  show pw pP mHostB_answer (52, [some (.inr (some (92))), some (.inr (some (a))), some (.inl (nI (2))), some (.inr (some (e))), some (.inl (t)), some (.inr (some (x)))], [], 0, 0, hb (sL L) (up2 (up2 (up2 (up2 (up2 (up2 (up2 F (x) (5) (t + F a 6)) (a + 9) (1) (nI (sz + 1))) (x) (0) (nI (2))) (x) (1) (nI (0))) (x) (2) (F (e) (1))) (x) (3) (F (92) (5))) (x) (4) (up2 (up2 F (x) (5) (t + F a 6)) (a + 9) (1) (nI (sz + 1)) 92 6 + up2 (up2 F (x) (5) (t + F a 6)) (a + 9) (1) (nI (sz + 1)) 92 1)) G R sO) _
  rw [up2_ne (show ¬ (92 = a + 9 ∧ 6 = 1) by omega), up2_ne (show ¬ (92 = x ∧ 6 = 5) by omega), up2_ne (show ¬ (92 = a + 9 ∧ 1 = 1) by omega), up2_ne (show ¬ (92 = x ∧ 1 = 5) by omega)]
  exact pw_vret rfl rfl (Nat.zero_le _) (Nat.zero_le _) k
theorem t_cans3 {L a e x sz : Nat} {t : Int32} {F G : FN} {R : RN} (hP : pathok L a R) (hA : arrok L e) (he : 95 ≤ e) (ha : a + 20 < 89) (hsz : F (a + 9) 1 = nI sz) (hs6 : sz ≤ 6) (hx : sz < 6 → R (a + 9 + 1) sz = some x ∧ (sL L)[x]? = some (2, 1, [0, 0, 0, 0, 0, 0], 0) ∧ a + 11 ≤ x ∧ x ≤ a + 16) {Q : Option PV → PH → Prop} (k : Q none (hb (sL L) (cship F a (a + 9) x sz t (nI 3) (nI 0) (nI 0) (nI 0) (nI 0)) G R sO)) : pz pP mHostB_answer [.inr (some 92), .inr (some a), .inl (nI 3), .inr (some e), .inl t] (hb (sL L) F G R sO) Q := by
  show pw pP mHostB_answer (0, [some (.inr (some (92))), some (.inr (some (a))), some (.inl (nI (3))), some (.inr (some (e))), some (.inl (t)), none], [], 0, 0, hb (sL L) F G R sO) _
  by_cases hd : F a 6 = 0
  · rw [cship_0 hd] at k
    refine pw_aload_n rfl rfl ?_
    refine pw_iconst (v := nI (1)) rfl (by decide) ?_
    refine pw_iload rfl rfl ?_
    refine px_callv (as := [.inr (some (a)), .inl (nI (1)), .inl (t)]) (rest := []) rfl rfl (by decide) rfl (Nat.le_of_ble_eq_true rfl) (Nat.le_of_ble_eq_true rfl) (Nat.le_of_ble_eq_true rfl) (Nat.le_of_ble_eq_true rfl) rfl hP.1 rfl rfl ?_
    refine t_cdisp1_0 hP hd ?_
    show pw pP mHostB_answer (7, [some (.inr (some (92))), some (.inr (some (a))), some (.inl (nI (3))), some (.inr (some (e))), some (.inl (t)), none], [.inr none], 0, 0, hb (sL L) F G R sO) _
    refine pw_astore (ls1 := [some (.inr (some (92))), some (.inr (some (a))), some (.inl (nI (3))), some (.inr (some (e))), some (.inl (t)), some (.inr none)]) rfl (Nat.le_of_ble_eq_true rfl) rfl ?_
    refine pw_aload rfl rfl ?_
    refine pw_ifnonnullN (t := 15) rfl rfl ?_
    exact pw_vret rfl rfl (Nat.zero_le _) (Nat.zero_le _) k
  by_cases h6 : 6 ≤ sz
  · rw [cship_6 h6] at k
    have e6 : sz = 6 := by omega
    subst e6
    refine pw_aload_n rfl rfl ?_
    refine pw_iconst (v := nI (1)) rfl (by decide) ?_
    refine pw_iload rfl rfl ?_
    refine px_callv (as := [.inr (some (a)), .inl (nI (1)), .inl (t)]) (rest := []) rfl rfl (by decide) rfl (Nat.le_of_ble_eq_true rfl) (Nat.le_of_ble_eq_true rfl) (Nat.le_of_ble_eq_true rfl) (Nat.le_of_ble_eq_true rfl) rfl hP.1 rfl rfl ?_
    refine t_cdisp1_6 hP hd hsz ?_
    show pw pP mHostB_answer (7, [some (.inr (some (92))), some (.inr (some (a))), some (.inl (nI (3))), some (.inr (some (e))), some (.inl (t)), none], [.inr none], 0, 0, hb (sL L) F G R sO) _
    refine pw_astore (ls1 := [some (.inr (some (92))), some (.inr (some (a))), some (.inl (nI (3))), some (.inr (some (e))), some (.inl (t)), some (.inr none)]) rfl (Nat.le_of_ble_eq_true rfl) rfl ?_
    refine pw_aload rfl rfl ?_
    refine pw_ifnonnullN (t := 15) rfl rfl ?_
    exact pw_vret rfl rfl (Nat.zero_le _) (Nat.zero_le _) k
  obtain ⟨hx1, hsx, hxr⟩ := hx (by omega)
  rw [cship_y hd (by omega)] at k
  refine pw_aload_n rfl rfl ?_
  refine pw_iconst (v := nI (1)) rfl (by decide) ?_
  refine pw_iload rfl rfl ?_
  refine px_callv (as := [.inr (some (a)), .inl (nI (1)), .inl (t)]) (rest := []) rfl rfl (by decide) rfl (Nat.le_of_ble_eq_true rfl) (Nat.le_of_ble_eq_true rfl) (Nat.le_of_ble_eq_true rfl) (Nat.le_of_ble_eq_true rfl) rfl hP.1 rfl rfl ?_
  refine t_cdisp1 hP hd hsz (by omega) hx1 hsx ?_
  show pw pP mHostB_answer (7, [some (.inr (some (92))), some (.inr (some (a))), some (.inl (nI (3))), some (.inr (some (e))), some (.inl (t)), none], [.inr (some (x))], 0, 0, hb (sL L) (up2 (up2 F (x) (5) (t + F a 6)) (a + 9) (1) (nI (sz + 1))) G R sO) _
  refine pw_astore (ls1 := [some (.inr (some (92))), some (.inr (some (a))), some (.inl (nI (3))), some (.inr (some (e))), some (.inl (t)), some (.inr (some (x)))]) rfl (Nat.le_of_ble_eq_true rfl) rfl ?_
  refine pw_aload rfl rfl ?_
  refine pw_ifnonnull (t := 15) rfl rfl ?_
  refine pw_iload_n rfl rfl ?_
  refine pw_iconst (v := nI (3)) rfl (by decide) ?_
  refine pw_if2 (t := 33) rfl rfl (fun q => absurd q (by decide)) (fun _ => ?_)
  refine pw_aload rfl rfl ?_
  refine pw_iconst (v := nI (3)) rfl (by decide) ?_
  refine pw_iconst (v := nI (0)) rfl (by decide) ?_
  refine pw_iconst (v := nI (0)) rfl (by decide) ?_
  refine pw_iconst (v := nI (0)) rfl (by decide) ?_
  refine pw_iconst (v := nI (0)) rfl (by decide) ?_
  refine px_callv (as := [.inr (some (x)), .inl (nI (3)), .inl (nI (0)), .inl (nI (0)), .inl (nI (0)), .inl (nI (0))]) (rest := []) rfl rfl (by decide) rfl (Nat.le_of_ble_eq_true rfl) (Nat.le_of_ble_eq_true rfl) (Nat.le_of_ble_eq_true rfl) (Nat.le_of_ble_eq_true rfl) rfl hsx rfl rfl ?_
  refine t_cfill hsx ?_
  show pw pP mHostB_answer (30, [some (.inr (some (92))), some (.inr (some (a))), some (.inl (nI (3))), some (.inr (some (e))), some (.inl (t)), some (.inr (some (x)))], [], 0, 0, hb (sL L) (up2 (up2 (up2 (up2 (up2 (up2 (up2 F (x) (5) (t + F a 6)) (a + 9) (1) (nI (sz + 1))) (x) (0) (nI (3))) (x) (1) (nI (0))) (x) (2) (nI (0))) (x) (3) (nI (0))) (x) (4) (nI (0))) G R sO) _
  refine pw_goto (t := 52) rfl rfl ?_
  exact pw_vret rfl rfl (Nat.zero_le _) (Nat.zero_le _) k
def chu : Nat → Nat → FN → FN
  | 0, _, G => G
  | n + 1, j, G => chu n (j + 1) (up2 G 94 j (nI 1))
theorem t_chd_1 {L e x b m : Nat} {F : FN} {R : RN} {Q : Option PV → PH → Prop} (hbm : b + m ≤ 401) : ∀ (n j : Nat) (G : FN), j + n = b + m → pw pP mHostB_hearData (76, [some (.inr (some (92))), some (.inr (some (x))), some (.inr (some (e))), some (.inl (nI (b + m))), some (.inl (nI (b + m)))], [], 0, 0, hb (sL L) F (chu n j G) R sO) Q → pw pP mHostB_hearData (48, [some (.inr (some (92))), some (.inr (some (x))), some (.inr (some (e))), some (.inl (nI (b + m))), some (.inl (nI (j)))], [], 0, 0, hb (sL L) F G R sO) Q := by
  intro n
  induction n with
  | zero =>
    intro j G hn k
    have e1 : j = b + m := by omega
    subst e1
    refine pw_iload rfl rfl ?_
    refine pw_iload_n rfl rfl ?_
    refine pw_if2p (cn_ge (by omega) (by omega)) rfl (t := 76) rfl (fun _ => ?_) (fun q => absurd (Nat.le_refl _) q)
    exact k
  | succ n ih =>
    intro j G hn k
    refine pw_iload rfl rfl ?_
    refine pw_iload_n rfl rfl ?_
    refine pw_if2p (cn_ge (by omega) (by omega)) rfl (t := 76) rfl (fun q => absurd q (by omega)) (fun _ => ?_)
    refine pw_iload rfl rfl ?_
    refine pw_sipush (v := nI (401)) rfl (by decide) ?_
    refine pw_if2p (cn_ge (by omega) (by omega)) rfl (t := 76) rfl (fun q => absurd q (by omega)) (fun _ => ?_)
    refine pw_aload_n rfl rfl ?_
    refine px_getr (r := some (94)) rfl rfl rfl rfl rfl ?_
    refine pw_iload rfl rfl ?_
    refine pw_iconst (v := nI (1)) rfl (by decide) ?_
    refine px_zastn (x1 := nI (1)) rfl rfl (by omega) (by decide) (by decide) ?_
    refine pw_iinc (v := nI (j + 1)) (ls1 := [some (.inr (some (92))), some (.inr (some (x))), some (.inr (some (e))), some (.inl (nI (b + m))), some (.inl (nI (j + 1)))]) rfl rfl (iinc_n _) rfl ?_
    refine pw_goto (t := 48) rfl rfl ?_
    exact ih (j + 1) _ (by omega) k
theorem up2_id {F : FN} {i k : Nat} {v : Int32} (h : F i k = v) : up2 F i k v = F := by
  funext i1 k1
  by_cases h1 : i1 = i ∧ k1 = k
  · rw [h1.1, h1.2, up2_eq, h]
  · rw [up2_ne h1]
theorem up2_up2 {F : FN} {i k : Nat} {v w : Int32} : up2 (up2 F i k v) i k w = up2 F i k w := by
  funext i1 k1
  by_cases h1 : i1 = i ∧ k1 = k
  · rw [h1.1, h1.2, up2_eq, up2_eq]
  · rw [up2_ne h1, up2_ne h1, up2_ne h1]
theorem t_chd_2 {L e x b m j : Nat} {G : FN} {R : RN} {Q : Option PV → PH → Prop} : ∀ (n y : Nat) (F : FN), y + n = 401 → F 92 5 = nI y → Q none (hb (sL L) (up2 F 92 5 (nI (lead (G 94) n y))) G R sO) → pw pP mHostB_hearData (76, [some (.inr (some (92))), some (.inr (some (x))), some (.inr (some (e))), some (.inl (nI (b + m))), some (.inl (nI (j)))], [], 0, 0, hb (sL L) F G R sO) Q := by
  intro n
  induction n with
  | zero =>
    intro y F hn hx k
    have e1 : y = 401 := by omega
    subst e1
    rw [show up2 F 92 5 (nI (lead (G 94) 0 401)) = F from up2_id hx] at k
    refine pw_aload_n rfl rfl ?_
    refine px_getv (x := nI (401)) rfl rfl rfl rfl (hx) ?_
    refine pw_sipush (v := nI (401)) rfl (by decide) ?_
    refine pw_if2 (t := 111) rfl rfl (fun _ => ?_) (fun q => absurd q (by decide))
    exact pw_vret rfl rfl (Nat.zero_le _) (Nat.zero_le _) k
  | succ n ih =>
    intro y F hn hx k
    refine pw_aload_n rfl rfl ?_
    refine px_getv (x := nI (y)) rfl rfl rfl rfl (hx) ?_
    refine pw_sipush (v := nI (401)) rfl (by decide) ?_
    refine pw_if2p (cn_ge (by omega) (by omega)) rfl (t := 111) rfl (fun q => absurd q (by omega)) (fun _ => ?_)
    refine pw_aload_n rfl rfl ?_
    refine px_getr (r := some (94)) rfl rfl rfl rfl rfl ?_
    refine pw_aload_n rfl rfl ?_
    refine px_getv (x := nI (y)) rfl rfl rfl rfl (hx) ?_
    refine px_zaldn (x := G (94) (y)) rfl rfl (by omega) (by decide) (rfl) ?_
    refine pw_if1p (A := G (94) (y) = 0) rfl rfl (t := 111) rfl (fun c1 => ?_) (fun c1 => ?_)
    · -- 111
      rw [lead_z c1, up2_id hx] at k
      exact pw_vret rfl rfl (Nat.zero_le _) (Nat.zero_le _) k
    · -- 98
      refine pw_aload_n rfl rfl ?_
      refine pw_dup rfl ?_
      refine px_getv (x := nI (y)) rfl rfl rfl rfl (hx) ?_
      refine pw_iconst (v := nI (1)) rfl (by decide) ?_
      refine pw_iadd (z := nI (y + 1)) rfl (nI_add _ _) ?_
      refine px_put rfl rfl rfl rfl rfl ?_
      refine pw_goto (t := 76) rfl rfl ?_
      refine ih (y + 1) _ (by omega) up2_eq ?_
      rw [lead_s c1] at k
      rw [up2_up2]
      exact k
def chd_G (G : FN) (e c b m nx bu : Nat) : FN := if G (e + 1) c = 0 then (if b + m ≤ nx + bu then chu m b (ctake_G G e c m) else G) else G
def chd_F (F G : FN) (e c b m nx bu ex rc : Nat) : FN := if G (e + 1) c = 0 then (if b + m ≤ nx + bu then up2 (ctake_F F G e c m ex) 92 5 (nI (lead (chu m b (ctake_G G e c m) 94) (401 - rc) rc)) else F) else F
theorem t_chd {L e x c b m nx bu ex rc : Nat} {F G : FN} {R : RN} (hA : arrok L e) (he : 95 ≤ e) (hsx : (sL L)[x]? = some (2, 1, [0, 0, 0, 0, 0, 0], 0)) (hx9 : x < 92) (hc : F x 2 = nI c) (hb1 : F x 3 = nI b) (hm : F x 1 = nI m) (hcm : c + m ≤ 402) (hc1 : c < 402) (hbm : b + m ≤ 401) (hnx : F 92 6 = nI nx) (hn4 : nx ≤ 401) (hbu : F 92 1 = nI bu) (hb5 : bu ≤ 56) (hex : F e 1 = nI ex) (he4 : ex ≤ 402) (hrc : F 92 5 = nI rc) (hr4 : rc ≤ 401) {Q : Option PV → PH → Prop} (k : Q none (hb (sL L) (chd_F F G e c b m nx bu ex rc) (chd_G G e c b m nx bu) R sO)) : pz pP mHostB_hearData [.inr (some 92), .inr (some x), .inr (some e)] (hb (sL L) F G R sO) Q := by
  show pw pP mHostB_hearData (0, [some (.inr (some (92))), some (.inr (some (x))), some (.inr (some (e))), none, none], [], 0, 0, hb (sL L) F G R sO) _
  by_cases h1 : G (e + 1) c = 0
  · by_cases h2 : b + m ≤ nx + bu
    · rw [show chd_F F G e c b m nx bu ex rc = up2 (ctake_F F G e c m ex) 92 5 (nI (lead (chu m b (ctake_G G e c m) 94) (401 - rc) rc)) by simp only [chd_F, h1, h2, if_true], show chd_G G e c b m nx bu = chu m b (ctake_G G e c m) by simp only [chd_G, h1, h2, if_true]] at k
      refine pw_aload_n rfl rfl ?_
      refine px_getv (x := nI (b)) rfl rfl hsx rfl (hb1) ?_
      refine pw_aload_n rfl rfl ?_
      refine px_getv (x := nI (m)) rfl rfl hsx rfl (hm) ?_
      refine pw_iadd (z := nI (b + m)) rfl (nI_add _ _) ?_
      refine pw_istore_n (ls1 := [some (.inr (some (92))), some (.inr (some (x))), some (.inr (some (e))), some (.inl (nI (b + m))), none]) rfl (Nat.le_of_ble_eq_true rfl) rfl ?_
      refine pw_aload_n rfl rfl ?_
      refine pw_aload_n rfl rfl ?_
      refine px_getv (x := nI (c)) rfl rfl hsx rfl (hc) ?_
      refine px_callv (as := [.inr (some (e)), .inl (nI (c))]) (rest := []) rfl rfl (by decide) rfl (Nat.le_of_ble_eq_true rfl) (Nat.le_of_ble_eq_true rfl) (Nat.le_of_ble_eq_true rfl) (Nat.le_of_ble_eq_true rfl) rfl hA.1 rfl rfl ?_
      refine t_ctook hA hc1 ?_
      simp only [ctook_r, h1, if_true, if_false]
      show pw pP mHostB_hearData (18, [some (.inr (some (92))), some (.inr (some (x))), some (.inr (some (e))), some (.inl (nI (b + m))), none], [.inl (nI (0))], 0, 0, hb (sL L) F G R sO) _
      refine pw_if1 (t := 29) rfl rfl (fun q => absurd q (by decide)) (fun _ => ?_)
      refine pw_iload_n rfl rfl ?_
      refine pw_aload_n rfl rfl ?_
      refine px_callv (as := [.inr (some (92))]) (rest := [.inl (nI (b + m))]) rfl rfl (by decide) rfl (Nat.le_of_ble_eq_true rfl) (Nat.le_of_ble_eq_true rfl) (Nat.le_of_ble_eq_true rfl) (Nat.le_of_ble_eq_true rfl) rfl rfl rfl rfl ?_
      refine t_climit ?_
      simp only [climit_r, hnx, hbu, nI_add]
      show pw pP mHostB_hearData (26, [some (.inr (some (92))), some (.inr (some (x))), some (.inr (some (e))), some (.inl (nI (b + m))), none], [.inl (nI (nx + bu)), .inl (nI (b + m))], 0, 0, hb (sL L) F G R sO) _
      refine pw_if2p (cn_le (by omega) (by omega)) rfl (t := 30) rfl (fun _ => ?_) (fun q => absurd h2 q)
      refine pw_aload_n rfl rfl ?_
      refine pw_aload_n rfl rfl ?_
      refine px_getv (x := nI (c)) rfl rfl hsx rfl (hc) ?_
      refine pw_aload_n rfl rfl ?_
      refine px_getv (x := nI (m)) rfl rfl hsx rfl (hm) ?_
      refine px_callv (as := [.inr (some (e)), .inl (nI (c)), .inl (nI (m))]) (rest := []) rfl rfl (by decide) rfl (Nat.le_of_ble_eq_true rfl) (Nat.le_of_ble_eq_true rfl) (Nat.le_of_ble_eq_true rfl) (Nat.le_of_ble_eq_true rfl) rfl hA.1 rfl rfl ?_
      refine t_ctake hA hcm hex he4 ?_
      show pw pP mHostB_hearData (42, [some (.inr (some (92))), some (.inr (some (x))), some (.inr (some (e))), some (.inl (nI (b + m))), none], [], 0, 0, hb (sL L) (up2 F (e) (1) (nI (lead (ctk e c m c G (e + 1)) (402 - ex) ex))) (ctake_G G e c m) R sO) _
      refine pw_aload_n rfl rfl ?_
      refine px_getv (x := nI (b)) rfl rfl hsx rfl ((up2_ne (by omega)).trans (hb1)) ?_
      refine pw_istore (ls1 := [some (.inr (some (92))), some (.inr (some (x))), some (.inr (some (e))), some (.inl (nI (b + m))), some (.inl (nI (b)))]) rfl (Nat.le_of_ble_eq_true rfl) rfl ?_
      refine t_chd_1 hbm m b _ (by omega) ?_
      exact t_chd_2 (401 - rc) rc _ (by omega) ((up2_ne (by omega)).trans hrc) k
    · rw [show chd_F F G e c b m nx bu ex rc = F by simp only [chd_F, h1, h2, if_true, if_false], show chd_G G e c b m nx bu = G by simp only [chd_G, h1, h2, if_true, if_false]] at k
      refine pw_aload_n rfl rfl ?_
      refine px_getv (x := nI (b)) rfl rfl hsx rfl (hb1) ?_
      refine pw_aload_n rfl rfl ?_
      refine px_getv (x := nI (m)) rfl rfl hsx rfl (hm) ?_
      refine pw_iadd (z := nI (b + m)) rfl (nI_add _ _) ?_
      refine pw_istore_n (ls1 := [some (.inr (some (92))), some (.inr (some (x))), some (.inr (some (e))), some (.inl (nI (b + m))), none]) rfl (Nat.le_of_ble_eq_true rfl) rfl ?_
      refine pw_aload_n rfl rfl ?_
      refine pw_aload_n rfl rfl ?_
      refine px_getv (x := nI (c)) rfl rfl hsx rfl (hc) ?_
      refine px_callv (as := [.inr (some (e)), .inl (nI (c))]) (rest := []) rfl rfl (by decide) rfl (Nat.le_of_ble_eq_true rfl) (Nat.le_of_ble_eq_true rfl) (Nat.le_of_ble_eq_true rfl) (Nat.le_of_ble_eq_true rfl) rfl hA.1 rfl rfl ?_
      refine t_ctook hA hc1 ?_
      simp only [ctook_r, h1, if_true, if_false]
      show pw pP mHostB_hearData (18, [some (.inr (some (92))), some (.inr (some (x))), some (.inr (some (e))), some (.inl (nI (b + m))), none], [.inl (nI (0))], 0, 0, hb (sL L) F G R sO) _
      refine pw_if1 (t := 29) rfl rfl (fun q => absurd q (by decide)) (fun _ => ?_)
      refine pw_iload_n rfl rfl ?_
      refine pw_aload_n rfl rfl ?_
      refine px_callv (as := [.inr (some (92))]) (rest := [.inl (nI (b + m))]) rfl rfl (by decide) rfl (Nat.le_of_ble_eq_true rfl) (Nat.le_of_ble_eq_true rfl) (Nat.le_of_ble_eq_true rfl) (Nat.le_of_ble_eq_true rfl) rfl rfl rfl rfl ?_
      refine t_climit ?_
      simp only [climit_r, hnx, hbu, nI_add]
      show pw pP mHostB_hearData (26, [some (.inr (some (92))), some (.inr (some (x))), some (.inr (some (e))), some (.inl (nI (b + m))), none], [.inl (nI (nx + bu)), .inl (nI (b + m))], 0, 0, hb (sL L) F G R sO) _
      refine pw_if2p (cn_le (by omega) (by omega)) rfl (t := 30) rfl (fun q => absurd q h2) (fun _ => ?_)
      exact pw_vret rfl rfl (Nat.zero_le _) (Nat.zero_le _) k
  · rw [show chd_F F G e c b m nx bu ex rc = F by simp only [chd_F, h1, if_false], show chd_G G e c b m nx bu = G by simp only [chd_G, h1, if_false]] at k
    refine pw_aload_n rfl rfl ?_
    refine px_getv (x := nI (b)) rfl rfl hsx rfl (hb1) ?_
    refine pw_aload_n rfl rfl ?_
    refine px_getv (x := nI (m)) rfl rfl hsx rfl (hm) ?_
    refine pw_iadd (z := nI (b + m)) rfl (nI_add _ _) ?_
    refine pw_istore_n (ls1 := [some (.inr (some (92))), some (.inr (some (x))), some (.inr (some (e))), some (.inl (nI (b + m))), none]) rfl (Nat.le_of_ble_eq_true rfl) rfl ?_
    refine pw_aload_n rfl rfl ?_
    refine pw_aload_n rfl rfl ?_
    refine px_getv (x := nI (c)) rfl rfl hsx rfl (hc) ?_
    refine px_callv (as := [.inr (some (e)), .inl (nI (c))]) (rest := []) rfl rfl (by decide) rfl (Nat.le_of_ble_eq_true rfl) (Nat.le_of_ble_eq_true rfl) (Nat.le_of_ble_eq_true rfl) (Nat.le_of_ble_eq_true rfl) rfl hA.1 rfl rfl ?_
    refine t_ctook hA hc1 ?_
    simp only [ctook_r, h1, if_true, if_false]
    show pw pP mHostB_hearData (18, [some (.inr (some (92))), some (.inr (some (x))), some (.inr (some (e))), some (.inl (nI (b + m))), none], [.inl (nI (1))], 0, 0, hb (sL L) F G R sO) _
    refine pw_if1 (t := 29) rfl rfl (fun _ => ?_) (fun q => absurd q (by decide))
    exact pw_vret rfl rfl (Nat.zero_le _) (Nat.zero_le _) k
theorem chd_F_ne {F G : FN} {e c b m nx bu ex rc i k : Nat} (h1 : ¬ (i = e ∧ k = 1)) (h2 : ¬ (i = 92 ∧ k = 5)) : chd_F F G e c b m nx bu ex rc i k = F i k := by
  unfold chd_F
  split
  · split
    · rw [up2_ne h2]; exact up2_ne h1
    · rfl
  · rfl
theorem t_chear1 {L p a e x x2 sz c b m nx bu ex rc : Nat} {t : Int32} {F G : FN} {R : RN} (hP : pathok L a R) (hA : arrok L e) (he : 95 ≤ e) (ha : a + 20 < 89) (hp : p < 4) (hR : R 93 p = some e) (hsx : (sL L)[x]? = some (2, 1, [0, 0, 0, 0, 0, 0], 0)) (hx9 : x < 92) (hsz : F (a + 9) 1 = nI sz) (hs6 : sz ≤ 6) (hx : sz < 6 → R (a + 9 + 1) sz = some x2 ∧ (sL L)[x2]? = some (2, 1, [0, 0, 0, 0, 0, 0], 0) ∧ a + 11 ≤ x2 ∧ x2 ≤ a + 16) (hk : F x 0 = nI 1) (hc : F x 2 = nI c) (hb1 : F x 3 = nI b) (hm : F x 1 = nI m) (hcm : c + m ≤ 402) (hc1 : c < 402) (hbm : b + m ≤ 401) (hnx : F 92 6 = nI nx) (hn4 : nx ≤ 401) (hbu : F 92 1 = nI bu) (hb5 : bu ≤ 56) (hex : F e 1 = nI ex) (he4 : ex ≤ 402) (hrc : F 92 5 = nI rc) (hr4 : rc ≤ 401) {Q : Option PV → PH → Prop} (k : Q none (hb (sL L) (cship (chd_F F G e c b m nx bu ex rc) a (a + 9) x2 sz t (nI 2) (nI 0) ((chd_F F G e c b m nx bu ex rc) e 1) ((chd_F F G e c b m nx bu ex rc) 92 5) ((chd_F F G e c b m nx bu ex rc) 92 6 + (chd_F F G e c b m nx bu ex rc) 92 1)) (chd_G G e c b m nx bu) R sO)) : pz pP mHostB_hear [.inr (some (92)), .inr (some (x)), .inl (nI (p)), .inr (some (a)), .inl (t)] (hb (sL L) F G R sO) Q := by
  show pw pP mHostB_hear (0, [some (.inr (some (92))), some (.inr (some (x))), some (.inl (nI (p))), some (.inr (some (a))), some (.inl (t)), none], [], 0, 0, hb (sL L) F G R sO) _
  refine pw_aload_n rfl rfl ?_
  refine px_getr (r := some (93)) rfl rfl rfl rfl rfl ?_
  refine pw_iload_n rfl rfl ?_
  refine px_aaldn (r := (some (e))) rfl rfl rfl (by omega) (by decide) (hR) ?_
  refine pw_astore (ls1 := [some (.inr (some (92))), some (.inr (some (x))), some (.inl (nI (p))), some (.inr (some (a))), some (.inl (t)), some (.inr (some (e)))]) rfl (Nat.le_of_ble_eq_true rfl) rfl ?_
  refine pw_aload_n rfl rfl ?_
  refine px_getv (x := nI (1)) rfl rfl hsx rfl (hk) ?_
  refine pw_iconst (v := nI (1)) rfl (by decide) ?_
  refine pw_if2 (t := 26) rfl rfl (fun q => absurd q (by decide)) (fun _ => ?_)
  refine pw_aload_n rfl rfl ?_
  refine pw_aload_n rfl rfl ?_
  refine pw_aload rfl rfl ?_
  refine px_callv (as := [.inr (some (92)), .inr (some (x)), .inr (some (e))]) (rest := []) rfl rfl (by decide) rfl (Nat.le_of_ble_eq_true rfl) (Nat.le_of_ble_eq_true rfl) (Nat.le_of_ble_eq_true rfl) (Nat.le_of_ble_eq_true rfl) rfl rfl rfl rfl ?_
  refine t_chd hA he hsx hx9 hc hb1 hm hcm hc1 hbm hnx hn4 hbu hb5 hex he4 hrc hr4 ?_
  show pw pP mHostB_hear (23, [some (.inr (some (92))), some (.inr (some (x))), some (.inl (nI (p))), some (.inr (some (a))), some (.inl (t)), some (.inr (some (e)))], [], 0, 0, hb (sL L) (chd_F F G e c b m nx bu ex rc) (chd_G G e c b m nx bu) R sO) _
  refine pw_goto (t := 75) rfl rfl ?_
  refine pw_aload_n rfl rfl ?_
  refine pw_aload_n rfl rfl ?_
  refine pw_iconst (v := nI (2)) rfl (by decide) ?_
  refine pw_aload rfl rfl ?_
  refine pw_iload rfl rfl ?_
  refine px_callv (as := [.inr (some (92)), .inr (some (a)), .inl (nI (2)), .inr (some (e)), .inl (t)]) (rest := []) rfl rfl (by decide) rfl (Nat.le_of_ble_eq_true rfl) (Nat.le_of_ble_eq_true rfl) (Nat.le_of_ble_eq_true rfl) (Nat.le_of_ble_eq_true rfl) rfl rfl rfl rfl ?_
  refine t_cans2 hP hA he ha ((chd_F_ne (by omega) (by omega)).trans hsz) hs6 hx ?_
  show pw pP mHostB_hear (85, [some (.inr (some (92))), some (.inr (some (x))), some (.inl (nI (p))), some (.inr (some (a))), some (.inl (t)), some (.inr (some (e)))], [], 0, 0, hb (sL L) (cship (chd_F F G e c b m nx bu ex rc) a (a + 9) x2 sz t (nI 2) (nI 0) ((chd_F F G e c b m nx bu ex rc) e 1) ((chd_F F G e c b m nx bu ex rc) 92 5) ((chd_F F G e c b m nx bu ex rc) 92 6 + (chd_F F G e c b m nx bu ex rc) 92 1)) (chd_G G e c b m nx bu) R sO) _
  exact pw_vret rfl rfl (Nat.zero_le _) (Nat.zero_le _) k
theorem t_chear0a {L p a e x x2 sz ex : Nat} {t : Int32} {F G : FN} {R : RN} (hP : pathok L a R) (hA : arrok L e) (he : 95 ≤ e) (ha : a + 20 < 89) (hp : p < 4) (hR : R 93 p = some e) (hsx : (sL L)[x]? = some (2, 1, [0, 0, 0, 0, 0, 0], 0)) (hx9 : x < 92) (hsz : F (a + 9) 1 = nI sz) (hs6 : sz ≤ 6) (hx : sz < 6 → R (a + 9 + 1) sz = some x2 ∧ (sL L)[x2]? = some (2, 1, [0, 0, 0, 0, 0, 0], 0) ∧ a + 11 ≤ x2 ∧ x2 ≤ a + 16) (hk : F x 0 = nI 0) (hex : F e 1 = nI ex) (he4 : ex ≤ 402) (hne : ¬ ex = 0) {Q : Option PV → PH → Prop} (k : Q none (hb (sL L) (cship F a (a + 9) x2 sz t (nI 2) (nI 0) (F e 1) (F 92 5) (F 92 6 + F 92 1)) G R sO)) : pz pP mHostB_hear [.inr (some (92)), .inr (some (x)), .inl (nI (p)), .inr (some (a)), .inl (t)] (hb (sL L) F G R sO) Q := by
  show pw pP mHostB_hear (0, [some (.inr (some (92))), some (.inr (some (x))), some (.inl (nI (p))), some (.inr (some (a))), some (.inl (t)), none], [], 0, 0, hb (sL L) F G R sO) _
  refine pw_aload_n rfl rfl ?_
  refine px_getr (r := some (93)) rfl rfl rfl rfl rfl ?_
  refine pw_iload_n rfl rfl ?_
  refine px_aaldn (r := (some (e))) rfl rfl rfl (by omega) (by decide) (hR) ?_
  refine pw_astore (ls1 := [some (.inr (some (92))), some (.inr (some (x))), some (.inl (nI (p))), some (.inr (some (a))), some (.inl (t)), some (.inr (some (e)))]) rfl (Nat.le_of_ble_eq_true rfl) rfl ?_
  refine pw_aload_n rfl rfl ?_
  refine px_getv (x := nI (0)) rfl rfl hsx rfl (hk) ?_
  refine pw_iconst (v := nI (1)) rfl (by decide) ?_
  refine pw_if2 (t := 26) rfl rfl (fun _ => ?_) (fun q => absurd q (by decide))
  refine pw_aload rfl rfl ?_
  refine px_getv (x := nI (ex)) rfl rfl hA.1 rfl (hex) ?_
  refine pw_if1p (cz_ne (by omega)) rfl (t := 75) rfl (fun _ => ?_) (fun q => absurd hne q)
  refine pw_aload_n rfl rfl ?_
  refine pw_aload_n rfl rfl ?_
  refine pw_iconst (v := nI (2)) rfl (by decide) ?_
  refine pw_aload rfl rfl ?_
  refine pw_iload rfl rfl ?_
  refine px_callv (as := [.inr (some (92)), .inr (some (a)), .inl (nI (2)), .inr (some (e)), .inl (t)]) (rest := []) rfl rfl (by decide) rfl (Nat.le_of_ble_eq_true rfl) (Nat.le_of_ble_eq_true rfl) (Nat.le_of_ble_eq_true rfl) (Nat.le_of_ble_eq_true rfl) rfl rfl rfl rfl ?_
  refine t_cans2 hP hA he ha hsz hs6 hx ?_
  show pw pP mHostB_hear (85, [some (.inr (some (92))), some (.inr (some (x))), some (.inl (nI (p))), some (.inr (some (a))), some (.inl (t)), some (.inr (some (e)))], [], 0, 0, hb (sL L) (cship F a (a + 9) x2 sz t (nI 2) (nI 0) (F e 1) (F 92 5) (F 92 6 + F 92 1)) G R sO) _
  exact pw_vret rfl rfl (Nat.zero_le _) (Nat.zero_le _) k
theorem t_chear0b {L p a e x x2 sz : Nat} {t : Int32} {F G : FN} {R : RN} (hP : pathok L a R) (hA : arrok L e) (he : 95 ≤ e) (ha : a + 20 < 89) (hp : p < 4) (hR : R 93 p = some e) (hsx : (sL L)[x]? = some (2, 1, [0, 0, 0, 0, 0, 0], 0)) (hx9 : x < 92) (hsz : F (a + 9) 1 = nI sz) (hs6 : sz ≤ 6) (hx : sz < 6 → R (a + 9 + 1) sz = some x2 ∧ (sL L)[x2]? = some (2, 1, [0, 0, 0, 0, 0, 0], 0) ∧ a + 11 ≤ x2 ∧ x2 ≤ a + 16) (hk : F x 0 = nI 0) (hex : F e 1 = nI 0) (hok : F 92 7 = 0 ∨ F x 3 = F 92 2) {Q : Option PV → PH → Prop} (k : Q none (hb (sL L) (cship (up2 (up2 F 92 7 (nI 1)) e 1 (nI (lead (ctk e 0 1 0 G (e + 1)) 402 0))) a (a + 9) x2 sz t (nI 2) (nI 0) ((up2 (up2 F 92 7 (nI 1)) e 1 (nI (lead (ctk e 0 1 0 G (e + 1)) 402 0))) e 1) ((up2 (up2 F 92 7 (nI 1)) e 1 (nI (lead (ctk e 0 1 0 G (e + 1)) 402 0))) 92 5) ((up2 (up2 F 92 7 (nI 1)) e 1 (nI (lead (ctk e 0 1 0 G (e + 1)) 402 0))) 92 6 + (up2 (up2 F 92 7 (nI 1)) e 1 (nI (lead (ctk e 0 1 0 G (e + 1)) 402 0))) 92 1)) (ctake_G G e 0 1) R sO)) : pz pP mHostB_hear [.inr (some (92)), .inr (some (x)), .inl (nI (p)), .inr (some (a)), .inl (t)] (hb (sL L) F G R sO) Q := by
  show pw pP mHostB_hear (0, [some (.inr (some (92))), some (.inr (some (x))), some (.inl (nI (p))), some (.inr (some (a))), some (.inl (t)), none], [], 0, 0, hb (sL L) F G R sO) _
  refine pw_aload_n rfl rfl ?_
  refine px_getr (r := some (93)) rfl rfl rfl rfl rfl ?_
  refine pw_iload_n rfl rfl ?_
  refine px_aaldn (r := (some (e))) rfl rfl rfl (by omega) (by decide) (hR) ?_
  refine pw_astore (ls1 := [some (.inr (some (92))), some (.inr (some (x))), some (.inl (nI (p))), some (.inr (some (a))), some (.inl (t)), some (.inr (some (e)))]) rfl (Nat.le_of_ble_eq_true rfl) rfl ?_
  refine pw_aload_n rfl rfl ?_
  refine px_getv (x := nI (0)) rfl rfl hsx rfl (hk) ?_
  refine pw_iconst (v := nI (1)) rfl (by decide) ?_
  refine pw_if2 (t := 26) rfl rfl (fun _ => ?_) (fun q => absurd q (by decide))
  refine pw_aload rfl rfl ?_
  refine px_getv (x := nI (0)) rfl rfl hA.1 rfl (hex) ?_
  refine pw_if1 (t := 75) rfl rfl (fun q => absurd q (by decide)) (fun _ => ?_)
  refine pw_aload_n rfl rfl ?_
  refine px_getv (x := F (92) (7)) rfl rfl rfl rfl (rfl) ?_
  refine pw_if1p (A := F (92) (7) = 0) rfl rfl (t := 63) rfl (fun c1 => ?_) (fun c1 => ?_)
  · -- 63
    refine pw_aload_n rfl rfl ?_
    refine pw_iconst (v := nI (1)) rfl (by decide) ?_
    refine px_put rfl rfl rfl rfl rfl ?_
    refine pw_aload rfl rfl ?_
    refine pw_iconst (v := nI (0)) rfl (by decide) ?_
    refine pw_iconst (v := nI (1)) rfl (by decide) ?_
    refine px_callv (as := [.inr (some (e)), .inl (nI (0)), .inl (nI (1))]) (rest := []) rfl rfl (by decide) rfl (Nat.le_of_ble_eq_true rfl) (Nat.le_of_ble_eq_true rfl) (Nat.le_of_ble_eq_true rfl) (Nat.le_of_ble_eq_true rfl) rfl hA.1 rfl rfl ?_
    refine t_ctake hA (by omega) ((up2_ne (by omega)).trans hex) (by omega) ?_
    show pw pP mHostB_hear (75, [some (.inr (some (92))), some (.inr (some (x))), some (.inl (nI (p))), some (.inr (some (a))), some (.inl (t)), some (.inr (some (e)))], [], 0, 0, hb (sL L) (up2 (up2 F 92 7 (nI 1)) e 1 (nI (lead (ctk e 0 1 0 G (e + 1)) 402 0))) (ctake_G G e 0 1) R sO) _
    refine pw_aload_n rfl rfl ?_
    refine pw_aload_n rfl rfl ?_
    refine pw_iconst (v := nI (2)) rfl (by decide) ?_
    refine pw_aload rfl rfl ?_
    refine pw_iload rfl rfl ?_
    refine px_callv (as := [.inr (some (92)), .inr (some (a)), .inl (nI (2)), .inr (some (e)), .inl (t)]) (rest := []) rfl rfl (by decide) rfl (Nat.le_of_ble_eq_true rfl) (Nat.le_of_ble_eq_true rfl) (Nat.le_of_ble_eq_true rfl) (Nat.le_of_ble_eq_true rfl) rfl rfl rfl rfl ?_
    refine t_cans2 hP hA he ha ((up2_ne (by omega)).trans ((up2_ne (by omega)).trans hsz)) hs6 hx ?_
    show pw pP mHostB_hear (85, [some (.inr (some (92))), some (.inr (some (x))), some (.inl (nI (p))), some (.inr (some (a))), some (.inl (t)), some (.inr (some (e)))], [], 0, 0, hb (sL L) (cship (up2 (up2 F 92 7 (nI 1)) e 1 (nI (lead (ctk e 0 1 0 G (e + 1)) 402 0))) a (a + 9) x2 sz t (nI 2) (nI 0) ((up2 (up2 F 92 7 (nI 1)) e 1 (nI (lead (ctk e 0 1 0 G (e + 1)) 402 0))) e 1) ((up2 (up2 F 92 7 (nI 1)) e 1 (nI (lead (ctk e 0 1 0 G (e + 1)) 402 0))) 92 5) ((up2 (up2 F 92 7 (nI 1)) e 1 (nI (lead (ctk e 0 1 0 G (e + 1)) 402 0))) 92 6 + (up2 (up2 F 92 7 (nI 1)) e 1 (nI (lead (ctk e 0 1 0 G (e + 1)) 402 0))) 92 1)) (ctake_G G e 0 1) R sO) _
    exact pw_vret rfl rfl (Nat.zero_le _) (Nat.zero_le _) k
  · -- 41
    refine pw_aload_n rfl rfl ?_
    refine px_getv (x := F (x) (3)) rfl rfl hsx rfl (rfl) ?_
    refine pw_aload_n rfl rfl ?_
    refine px_getv (x := F (92) (2)) rfl rfl rfl rfl (rfl) ?_
    refine pw_if2p (A := F (x) (3) = F (92) (2)) rfl rfl (t := 63) rfl (fun c2 => ?_) (fun c2 => ?_)
    · -- 63
      refine pw_aload_n rfl rfl ?_
      refine pw_iconst (v := nI (1)) rfl (by decide) ?_
      refine px_put rfl rfl rfl rfl rfl ?_
      refine pw_aload rfl rfl ?_
      refine pw_iconst (v := nI (0)) rfl (by decide) ?_
      refine pw_iconst (v := nI (1)) rfl (by decide) ?_
      refine px_callv (as := [.inr (some (e)), .inl (nI (0)), .inl (nI (1))]) (rest := []) rfl rfl (by decide) rfl (Nat.le_of_ble_eq_true rfl) (Nat.le_of_ble_eq_true rfl) (Nat.le_of_ble_eq_true rfl) (Nat.le_of_ble_eq_true rfl) rfl hA.1 rfl rfl ?_
      refine t_ctake hA (by omega) ((up2_ne (by omega)).trans hex) (by omega) ?_
      show pw pP mHostB_hear (75, [some (.inr (some (92))), some (.inr (some (x))), some (.inl (nI (p))), some (.inr (some (a))), some (.inl (t)), some (.inr (some (e)))], [], 0, 0, hb (sL L) (up2 (up2 F 92 7 (nI 1)) e 1 (nI (lead (ctk e 0 1 0 G (e + 1)) 402 0))) (ctake_G G e 0 1) R sO) _
      refine pw_aload_n rfl rfl ?_
      refine pw_aload_n rfl rfl ?_
      refine pw_iconst (v := nI (2)) rfl (by decide) ?_
      refine pw_aload rfl rfl ?_
      refine pw_iload rfl rfl ?_
      refine px_callv (as := [.inr (some (92)), .inr (some (a)), .inl (nI (2)), .inr (some (e)), .inl (t)]) (rest := []) rfl rfl (by decide) rfl (Nat.le_of_ble_eq_true rfl) (Nat.le_of_ble_eq_true rfl) (Nat.le_of_ble_eq_true rfl) (Nat.le_of_ble_eq_true rfl) rfl rfl rfl rfl ?_
      refine t_cans2 hP hA he ha ((up2_ne (by omega)).trans ((up2_ne (by omega)).trans hsz)) hs6 hx ?_
      show pw pP mHostB_hear (85, [some (.inr (some (92))), some (.inr (some (x))), some (.inl (nI (p))), some (.inr (some (a))), some (.inl (t)), some (.inr (some (e)))], [], 0, 0, hb (sL L) (cship (up2 (up2 F 92 7 (nI 1)) e 1 (nI (lead (ctk e 0 1 0 G (e + 1)) 402 0))) a (a + 9) x2 sz t (nI 2) (nI 0) ((up2 (up2 F 92 7 (nI 1)) e 1 (nI (lead (ctk e 0 1 0 G (e + 1)) 402 0))) e 1) ((up2 (up2 F 92 7 (nI 1)) e 1 (nI (lead (ctk e 0 1 0 G (e + 1)) 402 0))) 92 5) ((up2 (up2 F 92 7 (nI 1)) e 1 (nI (lead (ctk e 0 1 0 G (e + 1)) 402 0))) 92 6 + (up2 (up2 F 92 7 (nI 1)) e 1 (nI (lead (ctk e 0 1 0 G (e + 1)) 402 0))) 92 1)) (ctake_G G e 0 1) R sO) _
      exact pw_vret rfl rfl (Nat.zero_le _) (Nat.zero_le _) k
    · -- 52
      exact absurd hok (by intro h; cases h with | inl h => exact c1 h | inr h => exact c2 h)
theorem t_chear0c {L p a e x x2 sz : Nat} {t : Int32} {F G : FN} {R : RN} (hP : pathok L a R) (hA : arrok L e) (he : 95 ≤ e) (ha : a + 20 < 89) (hp : p < 4) (hR : R 93 p = some e) (hsx : (sL L)[x]? = some (2, 1, [0, 0, 0, 0, 0, 0], 0)) (hx9 : x < 92) (hsz : F (a + 9) 1 = nI sz) (hs6 : sz ≤ 6) (hx : sz < 6 → R (a + 9 + 1) sz = some x2 ∧ (sL L)[x2]? = some (2, 1, [0, 0, 0, 0, 0, 0], 0) ∧ a + 11 ≤ x2 ∧ x2 ≤ a + 16) (hk : F x 0 = nI 0) (hex : F e 1 = nI 0) (h7 : ¬ F 92 7 = 0) (h3 : ¬ F x 3 = F 92 2) {Q : Option PV → PH → Prop} (k : Q none (hb (sL L) (cship F a (a + 9) x2 sz t (nI 3) (nI 0) (nI 0) (nI 0) (nI 0)) G R sO)) : pz pP mHostB_hear [.inr (some (92)), .inr (some (x)), .inl (nI (p)), .inr (some (a)), .inl (t)] (hb (sL L) F G R sO) Q := by
  show pw pP mHostB_hear (0, [some (.inr (some (92))), some (.inr (some (x))), some (.inl (nI (p))), some (.inr (some (a))), some (.inl (t)), none], [], 0, 0, hb (sL L) F G R sO) _
  refine pw_aload_n rfl rfl ?_
  refine px_getr (r := some (93)) rfl rfl rfl rfl rfl ?_
  refine pw_iload_n rfl rfl ?_
  refine px_aaldn (r := (some (e))) rfl rfl rfl (by omega) (by decide) (hR) ?_
  refine pw_astore (ls1 := [some (.inr (some (92))), some (.inr (some (x))), some (.inl (nI (p))), some (.inr (some (a))), some (.inl (t)), some (.inr (some (e)))]) rfl (Nat.le_of_ble_eq_true rfl) rfl ?_
  refine pw_aload_n rfl rfl ?_
  refine px_getv (x := nI (0)) rfl rfl hsx rfl (hk) ?_
  refine pw_iconst (v := nI (1)) rfl (by decide) ?_
  refine pw_if2 (t := 26) rfl rfl (fun _ => ?_) (fun q => absurd q (by decide))
  refine pw_aload rfl rfl ?_
  refine px_getv (x := nI (0)) rfl rfl hA.1 rfl (hex) ?_
  refine pw_if1 (t := 75) rfl rfl (fun q => absurd q (by decide)) (fun _ => ?_)
  refine pw_aload_n rfl rfl ?_
  refine px_getv (x := F (92) (7)) rfl rfl rfl rfl (rfl) ?_
  refine pw_if1p (A := F (92) (7) = 0) rfl rfl (t := 63) rfl (fun q => absurd q h7) (fun _ => ?_)
  refine pw_aload_n rfl rfl ?_
  refine px_getv (x := F (x) (3)) rfl rfl hsx rfl (rfl) ?_
  refine pw_aload_n rfl rfl ?_
  refine px_getv (x := F (92) (2)) rfl rfl rfl rfl (rfl) ?_
  refine pw_if2p (A := F (x) (3) = F (92) (2)) rfl rfl (t := 63) rfl (fun q => absurd q h3) (fun _ => ?_)
  refine pw_aload_n rfl rfl ?_
  refine pw_aload_n rfl rfl ?_
  refine pw_iconst (v := nI (3)) rfl (by decide) ?_
  refine pw_aload rfl rfl ?_
  refine pw_iload rfl rfl ?_
  refine px_callv (as := [.inr (some (92)), .inr (some (a)), .inl (nI (3)), .inr (some (e)), .inl (t)]) (rest := []) rfl rfl (by decide) rfl (Nat.le_of_ble_eq_true rfl) (Nat.le_of_ble_eq_true rfl) (Nat.le_of_ble_eq_true rfl) (Nat.le_of_ble_eq_true rfl) rfl rfl rfl rfl ?_
  refine t_cans3 hP hA he ha hsz hs6 hx ?_
  show pw pP mHostB_hear (62, [some (.inr (some (92))), some (.inr (some (x))), some (.inl (nI (p))), some (.inr (some (a))), some (.inl (t)), some (.inr (some (e)))], [], 0, 0, hb (sL L) (cship F a (a + 9) x2 sz t (nI 3) (nI 0) (nI 0) (nI 0) (nI 0)) G R sO) _
  exact pw_vret rfl rfl (Nat.zero_le _) (Nat.zero_le _) k
/-- HostB_takeNext -/
def cnext_r (F G : FN) (nx rc ln : Nat) : Int32 := (if nx < rc then (if ¬ cval_r G nx ln = nI (256) then cval_r G nx ln else (-2)) else (-1))
/-- HostB_takeNext -/
def cnext_F (F G : FN) (nx rc ln : Nat) : FN := (if nx < rc then (if ¬ cval_r G nx ln = nI (256) then (up2 F (92) (6) (nI (nx + 1))) else F) else F)
theorem t_cnext {L nx rc ln : Nat} {F G : FN} {R : RN} (hnx : F 92 6 = nI nx) (hn4 : nx ≤ 401) (hrc : F 92 5 = nI rc) (hr4 : rc ≤ 401) (hln : F 2 1 = nI ln) (hl : ln ≤ 401) {Q : Option PV → PH → Prop} (k : Q (some (.inl (cnext_r F G nx rc ln))) (hb (sL L) (cnext_F F G nx rc ln) G R sO)) : pz pP mHostB_takeNext [.inr (some (92))] (hb (sL L) F G R sO) Q := by
  show pw pP mHostB_takeNext (0, [some (.inr (some (92))), none], [], 0, 0, hb (sL L) F G R sO) _
  refine pw_aload_n rfl rfl ?_
  refine px_getv (x := nI (nx)) rfl rfl rfl rfl (hnx) ?_
  refine pw_aload_n rfl rfl ?_
  refine px_getv (x := nI (rc)) rfl rfl rfl rfl (hrc) ?_
  refine pw_if2p (cn_lt (by omega) (by omega)) rfl (t := 13) rfl (fun c1 => ?_) (fun c1 => ?_)
  · -- 13
    refine pw_aload_n rfl rfl ?_
    refine px_getr (r := some (2)) rfl rfl rfl rfl rfl ?_
    refine pw_aload_n rfl rfl ?_
    refine px_getv (x := nI (nx)) rfl rfl rfl rfl (hnx) ?_
    refine px_callv (as := [.inr (some (2)), .inl (nI (nx))]) (rest := []) rfl rfl (by decide) rfl (Nat.le_of_ble_eq_true rfl) (Nat.le_of_ble_eq_true rfl) (Nat.le_of_ble_eq_true rfl) (Nat.le_of_ble_eq_true rfl) rfl rfl rfl rfl ?_
    refine t_cval hln hl (by omega) ?_
    show pw pP mHostB_takeNext (24, [some (.inr (some (92))), none], [.inl (cval_r G nx ln)], 0, 0, hb (sL L) F G R sO) _
    refine pw_istore_n (ls1 := [some (.inr (some (92))), some (.inl (cval_r G nx ln))]) rfl (Nat.le_of_ble_eq_true rfl) rfl ?_
    refine pw_iload_n rfl rfl ?_
    refine pw_sipush (v := nI (256)) rfl (by decide) ?_
    refine pw_if2p (A := ¬ cval_r G nx ln = nI (256)) rfl rfl (t := 35) rfl (fun c2 => ?_) (fun c2 => ?_)
    · -- 35
      refine pw_aload_n rfl rfl ?_
      refine pw_dup rfl ?_
      refine px_getv (x := nI (nx)) rfl rfl rfl rfl (hnx) ?_
      refine pw_iconst (v := nI (1)) rfl (by decide) ?_
      refine pw_iadd (z := nI (nx + 1)) rfl (nI_add _ _) ?_
      refine px_put rfl rfl rfl rfl rfl ?_
      refine pw_iload_n rfl rfl ?_
      exact pw_iret rfl rfl (Nat.zero_le _) (Nat.zero_le _) rfl (by simp only [cnext_r, cnext_F, c1, c2, if_true, if_false] at k; exact k)
    · -- 32
      refine pw_bipush (v := (-2)) rfl (by decide) ?_
      exact pw_iret rfl rfl (Nat.zero_le _) (Nat.zero_le _) rfl (by simp only [cnext_r, cnext_F, c1, c2, if_true, if_false] at k; exact k)
  · -- 11
    refine pw_iconst (v := (-1)) rfl (by decide) ?_
    exact pw_iret rfl rfl (Nat.zero_le _) (Nat.zero_le _) rfl (by simp only [cnext_r, cnext_F, c1, if_true, if_false] at k; exact k)
