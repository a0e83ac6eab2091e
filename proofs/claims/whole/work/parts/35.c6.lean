/-! THE CLASS, sixth part: host A settles and hears. Rows laid by a program (wip/whole/gen/class6.py). -/
theorem sro_row {a i : Nat} (h : ¬ i = a + 17) : ∀ (n j : Nat) (R : RN), sro a n j R i = R i
  | 0, _, _ => rfl
  | n + 1, j, R => by
    rw [sro, sro_row h n (j + 1)]
    exact up2_row h
theorem sro_at {a i : Nat} : ∀ (n j : Nat) (R : RN), 1 ≤ j → sro a n j R (a + 17) i = if j - 1 ≤ i ∧ i < j - 1 + n then R (a + 17) (i + 1) else R (a + 17) i
  | 0, j, R, hj => by
    rw [sro, if_neg (by omega)]
  | n + 1, j, R, hj => by
    rw [sro, sro_at n (j + 1) _ (by omega)]
    by_cases h1 : i = j - 1
    · subst h1
      rw [if_neg (by omega), up2_eq, if_pos (by omega), show j - 1 + 1 = j by omega]
    · by_cases h2 : j ≤ i ∧ i < j + n
      · rw [if_pos (by omega), if_pos (by omega), up2_ne2 (by omega)]
      · rw [if_neg (by omega), if_neg (by omega), up2_ne2 h1]
theorem cro_row {e i : Nat} (h : ¬ i = e + 1) : ∀ (n j : Nat) (R : RN), cro e n j R i = R i
  | 0, _, _ => rfl
  | n + 1, j, R => by
    rw [cro, cro_row h n (j + 1)]
    exact up2_row h
theorem cro_at {e i : Nat} : ∀ (n j : Nat) (R : RN), 1 ≤ j → cro e n j R (e + 1) i = if j - 1 ≤ i ∧ i < j - 1 + n then R (e + 1) (i + 1) else R (e + 1) i
  | 0, j, R, hj => by
    rw [cro, if_neg (by omega)]
  | n + 1, j, R, hj => by
    rw [cro, cro_at n (j + 1) _ (by omega)]
    by_cases h1 : i = j - 1
    · subst h1
      rw [if_neg (by omega), up2_eq, if_pos (by omega), show j - 1 + 1 = j by omega]
    · by_cases h2 : j ≤ i ∧ i < j + n
      · rw [if_pos (by omega), if_pos (by omega), up2_ne2 (by omega)]
      · rw [if_neg (by omega), if_neg (by omega), up2_ne2 h1]
/-- the places of the segments of the path at a -/
def segR (a : Nat) (R : RN) : Prop := (∀ k, k < 3 → R (a + 17) k = some (rx R (a + 17) k) ∧ a + 18 ≤ rx R (a + 17) k ∧ rx R (a + 17) k ≤ a + 20) ∧ ∀ j k, j < 3 → k < 3 → rx R (a + 17) j = rx R (a + 17) k → j = k
/-- what the segments of the path at a are: numbers from, how many, units from, how many -/
def sgs (F : FN) (R : RN) (a sc : Nat) (nu nm su sn : Nat → Nat) : Prop := F a 3 = nI sc ∧ sc ≤ 3 ∧ ∀ j, j < sc → F (rx R (a + 17) j) 0 = nI (nu j) ∧ F (rx R (a + 17) j) 1 = nI (nm j) ∧ F (rx R (a + 17) j) 2 = nI (su j) ∧ F (rx R (a + 17) j) 3 = nI (sn j) ∧ nu j + nm j < 2 ^ 30 ∧ su j + sn j ≤ 401
/-- the segment that is taken out comes last -/
theorem cbel_rx {a sc k : Nat} {R : RN} (hs : 0 < sc) : rx (cbel_R R a sc (rx R (a + 17) 0)) (a + 17) k = if k = sc - 1 then rx R (a + 17) 0 else if k < sc - 1 then rx R (a + 17) (k + 1) else rx R (a + 17) k := by
  unfold cbel_R
  by_cases h : k = sc - 1
  · subst h
    rw [if_pos rfl]
    unfold rx
    rw [up2_eq]
    rfl
  · rw [if_neg h]
    unfold rx
    rw [up2_ne2 h, sro_at _ _ _ (by omega)]
    by_cases h2 : k < sc - 1
    · rw [if_pos (by omega), if_pos h2]
    · rw [if_neg (by omega), if_neg h2]
theorem cbel_some {a sc k : Nat} {R : RN} (hs : 0 < sc) (h3 : sc ≤ 3) (hR : segR a R) (hk : k < 3) : cbel_R R a sc (rx R (a + 17) 0) (a + 17) k = some (rx (cbel_R R a sc (rx R (a + 17) 0)) (a + 17) k) := by
  rw [cbel_rx hs]
  unfold cbel_R
  by_cases h : k = sc - 1
  · subst h
    rw [if_pos rfl, up2_eq]
  · rw [if_neg h, up2_ne2 h, sro_at _ _ _ (by omega)]
    by_cases h2 : k < sc - 1
    · rw [if_pos (by omega), if_pos h2]; exact (hR.1 _ (by omega)).1
    · rw [if_neg (by omega), if_neg h2]; exact (hR.1 _ hk).1
theorem cbel_segR {a sc : Nat} {R : RN} (hs : 0 < sc) (h3 : sc ≤ 3) (hR : segR a R) : segR a (cbel_R R a sc (rx R (a + 17) 0)) := by
  refine ⟨fun k hk => ⟨cbel_some hs h3 hR hk, ?_⟩, fun j k hj hk e => ?_⟩
  · rw [cbel_rx hs]
    split
    · exact (hR.1 0 (by omega)).2
    · split
      · exact (hR.1 (k + 1) (by omega)).2
      · exact (hR.1 k hk).2
  · rw [cbel_rx hs, cbel_rx hs] at e
    split at e
    · split at e
      · omega
      · split at e
        · have := hR.2 _ _ (by omega) (by omega) e; omega
        · have := hR.2 _ _ (by omega) (by omega) e; omega
    · split at e
      · split at e
        · have := hR.2 _ _ (by omega) (by omega) e; omega
        · split at e
          · have := hR.2 _ _ (by omega) (by omega) e; omega
          · have := hR.2 _ _ (by omega) (by omega) e; omega
      · split at e
        · have := hR.2 _ _ (by omega) (by omega) e; omega
        · split at e
          · have := hR.2 _ _ (by omega) (by omega) e; omega
          · have := hR.2 _ _ (by omega) (by omega) e; omega
theorem cbel_row {a sc x0 i : Nat} {R : RN} (h : ¬ i = a + 17) : cbel_R R a sc x0 i = R i := by
  unfold cbel_R
  rw [up2_row h, sro_row h]
theorem cbel_pathok {L a sc x0 : Nat} {R : RN} (hP : pathok L a R) (h3 : sc ≤ 3) (h0 : 0 < sc) (hs : (sL L)[x0]? = some (2, 6, [0, 0, 0, 0, 0, 0], 0)) : pathok L a (cbel_R R a sc x0) := pathok_up (sro_ok (sc - 1) 1 R (by omega) hP) hs
theorem cbel_sgs {a sc : Nat} {F : FN} {R : RN} {nu nm su sn : Nat → Nat} (h0 : 0 < sc) (hR : segR a R) (h : sgs F R a sc nu nm su sn) : sgs (cbel_F F a sc) (cbel_R R a sc (rx R (a + 17) 0)) a (sc - 1) (fun j => nu (j + 1)) (fun j => nm (j + 1)) (fun j => su (j + 1)) (fun j => sn (j + 1)) := by
  refine ⟨up2_eq, by have := h.2.1; omega, fun j hj => ?_⟩
  have h3 := h.2.1
  have hr := (hR.1 (j + 1) (by omega)).2
  have hne : ∀ k, cbel_F F a sc (rx R (a + 17) (j + 1)) k = F (rx R (a + 17) (j + 1)) k := fun k => up2_ne (by omega)
  rw [cbel_rx h0, if_neg (by omega), if_pos hj, hne, hne, hne, hne]
  exact h.2.2 (j + 1) (by omega)
def cse : Nat → Nat → FN → FN
  | 0, _, G => G
  | n + 1, j, G => cse n (j + 1) (up2 G 90 j (nI 1))
/-- how many segments are settled -/
def cst (lm : Nat) : Nat → Nat → (Nat → Nat) → (Nat → Nat) → Nat
  | 0, _, _, _ => 0
  | f + 1, sc, nu, nm => if sc = 0 then 0 else if nu 0 + nm 0 ≤ lm then cst lm f (sc - 1) (fun j => nu (j + 1)) (fun j => nm (j + 1)) + 1 else 0
def stF (a : Nat) : Nat → Nat → FN → FN
  | 0, _, F => F
  | k + 1, sc, F => stF a k (sc - 1) (cbel_F F a sc)
def stR (a : Nat) : Nat → Nat → RN → RN
  | 0, _, R => R
  | k + 1, sc, R => stR a k (sc - 1) (cbel_R R a sc (rx R (a + 17) 0))
def stG : Nat → (Nat → Nat) → (Nat → Nat) → FN → FN
  | 0, _, _, G => G
  | k + 1, su, sn, G => stG k (fun j => su (j + 1)) (fun j => sn (j + 1)) (cse (sn 0) (su 0) G)
def stL (a : Nat) : Nat → Nat → RN → Option Nat → Option Nat
  | 0, _, _, l => l
  | k + 1, sc, R, _ => stL a k (sc - 1) (cbel_R R a sc (rx R (a + 17) 0)) (some (rx R (a + 17) 0))
theorem t_cst_1 {L a x b m lm i : Nat} {l : Option Nat} {F : FN} {R : RN} (hsx : (sL L)[x]? = some (2, 6, [0, 0, 0, 0, 0, 0], 0)) (hb2 : F x 2 = nI b) (hm : F x 3 = nI m) (hbm : b + m ≤ 401) {Q : Option PV → PH → Prop} : ∀ (n j : Nat) (G : FN), j + n = b + m → pw pP mHostA_settleBelow (71, [some (.inr (some (89))), some (.inr (some (a))), some (.inl (nI (lm))), some (.inr (l)), some (.inl (nI (i))), some (.inr (some (x))), some (.inl (nI (b + m)))], [], 0, 0, hb (sL L) F (cse n j G) R sO) Q → pw pP mHostA_settleBelow (33, [some (.inr (some (89))), some (.inr (some (a))), some (.inl (nI (lm))), some (.inr (l)), some (.inl (nI (i))), some (.inr (some (x))), some (.inl (nI (j)))], [], 0, 0, hb (sL L) F G R sO) Q := by
  intro n
  induction n with
  | zero =>
    intro j G hn k
    have e : j = b + m := by omega
    subst e
    refine pw_iload rfl rfl ?_
    refine pw_aload rfl rfl ?_
    refine px_getv (x := nI (b)) rfl rfl hsx rfl (hb2) ?_
    refine pw_aload rfl rfl ?_
    refine px_getv (x := nI (m)) rfl rfl hsx rfl (hm) ?_
    refine pw_iadd (z := nI (b + m)) rfl (nI_add _ _) ?_
    refine pw_if2p (cn_ge (by omega) (by omega)) rfl (t := 71) rfl (fun _ => ?_) (fun q => absurd (Nat.le_refl _) q)
    exact k
  | succ n ih =>
    intro j G hn k
    refine pw_iload rfl rfl ?_
    refine pw_aload rfl rfl ?_
    refine px_getv (x := nI (b)) rfl rfl hsx rfl (hb2) ?_
    refine pw_aload rfl rfl ?_
    refine px_getv (x := nI (m)) rfl rfl hsx rfl (hm) ?_
    refine pw_iadd (z := nI (b + m)) rfl (nI_add _ _) ?_
    refine pw_if2p (cn_ge (by omega) (by omega)) rfl (t := 71) rfl (fun q => absurd q (by omega)) (fun _ => ?_)
    refine pw_iload rfl rfl ?_
    refine pw_sipush (v := nI (401)) rfl (by decide) ?_
    refine pw_if2p (cn_ge (by omega) (by omega)) rfl (t := 71) rfl (fun q => absurd q (by omega)) (fun _ => ?_)
    refine pw_aload_n rfl rfl ?_
    refine px_getr (r := some (90)) rfl rfl rfl rfl rfl ?_
    refine pw_iload rfl rfl ?_
    refine pw_iconst (v := nI (1)) rfl (by decide) ?_
    refine px_zastn (x1 := nI (1)) rfl rfl (by omega) (by decide) (by decide) ?_
    refine pw_iinc (v := nI (j + 1)) (ls1 := [some (.inr (some (89))), some (.inr (some (a))), some (.inl (nI (lm))), some (.inr (l)), some (.inl (nI (i))), some (.inr (some (x))), some (.inl (nI (j + 1)))]) rfl rfl (iinc_n _) rfl ?_
    refine pw_goto (t := 33) rfl rfl ?_
    exact ih (j + 1) _ (by omega) k
theorem t_cst_lp {L a lm : Nat} (hlm : lm < 2 ^ 30) {Q : Option PV → PH → Prop} : ∀ (n i sc : Nat) (nu nm su sn : Nat → Nat) (F G : FN) (R : RN) (l : Option Nat) (o5 o6 : Option PV), i + n = 3 → pathok L a R → segR a R → sgs F R a sc nu nm su sn → Q (some (.inr (stL a (cst lm n sc nu nm) sc R l))) (hb (sL L) (stF a (cst lm n sc nu nm) sc F) (stG (cst lm n sc nu nm) su sn G) (stR a (cst lm n sc nu nm) sc R) sO) → pw pP mHostA_settleBelow (5, [some (.inr (some (89))), some (.inr (some (a))), some (.inl (nI (lm))), some (.inr (l)), some (.inl (nI (i))), o5, o6], [], 0, 0, hb (sL L) F G R sO) Q := by
  intro n
  induction n with
  | zero =>
    intro i sc nu nm su sn F G R l o5 o6 hn hP hR hS k
    have e : i = 3 := by omega
    subst e
    refine pw_iload rfl rfl ?_
    refine pw_iconst (v := nI (3)) rfl (by decide) ?_
    refine pw_if2 (t := 80) rfl rfl (fun _ => ?_) (fun q => absurd q (by decide))
    refine pw_aload_n rfl rfl ?_
    exact pw_aret rfl rfl (Nat.zero_le _) (Nat.zero_le _) rfl k
  | succ n ih =>
    intro i sc nu nm su sn F G R l o5 o6 hn hP hR hS k
    by_cases h0 : sc = 0
    · subst h0
      have ec : cst lm (n + 1) 0 nu nm = 0 := by simp only [cst, if_true]
      rw [ec] at k
      refine pw_iload rfl rfl ?_
      refine pw_iconst (v := nI (3)) rfl (by decide) ?_
      refine pw_if2p (cn_ge (by omega) (by omega)) rfl (t := 80) rfl (fun q => absurd q (by omega)) (fun _ => ?_)
      refine pw_aload_n rfl rfl ?_
      refine pw_iload_n rfl rfl ?_
      refine px_callv (as := [.inr (some (a)), .inl (nI (lm))]) (rest := []) rfl rfl (by decide) rfl (Nat.le_of_ble_eq_true rfl) (Nat.le_of_ble_eq_true rfl) (Nat.le_of_ble_eq_true rfl) (Nat.le_of_ble_eq_true rfl) rfl hP.1 rfl rfl ?_
      refine t_cbel_0 hP hS.1 ?_
      show pw pP mHostA_settleBelow (16, [some (.inr (some (89))), some (.inr (some (a))), some (.inl (nI (lm))), some (.inr (l)), some (.inl (nI (i))), o5, o6], [.inr none], 0, 0, hb (sL L) F G R sO) _
      refine pw_astore (ls1 := [some (.inr (some (89))), some (.inr (some (a))), some (.inl (nI (lm))), some (.inr (l)), some (.inl (nI (i))), some (.inr none), o6]) rfl (Nat.le_of_ble_eq_true rfl) rfl ?_
      refine pw_aload rfl rfl ?_
      refine pw_ifnonnullN (t := 26) rfl rfl ?_
      refine pw_goto (t := 80) rfl rfl ?_
      refine pw_aload_n rfl rfl ?_
      exact pw_aret rfl rfl (Nat.zero_le _) (Nat.zero_le _) rfl k
    have h3 := hS.2.1
    obtain ⟨hn0, hm0, hu0, hv0, hb0, hc0⟩ := hS.2.2 0 (by omega)
    obtain ⟨hx0, hxr⟩ := hR.1 0 (by omega)
    obtain ⟨x, hx, hsx⟩ := hP.2.2.2.2.2 0 (by omega)
    have hr : rx R (a + 17) 0 = x := by rw [rx, hx]; rfl
    rw [hr] at hn0 hm0 hu0 hv0 hxr
    by_cases hle : nu 0 + nm 0 ≤ lm
    · have ec : cst lm (n + 1) sc nu nm = cst lm n (sc - 1) (fun j => nu (j + 1)) (fun j => nm (j + 1)) + 1 := by simp only [cst, h0, hle, if_true, if_false]
      rw [ec] at k
      have hS2 := cbel_sgs (Nat.pos_of_ne_zero h0) hR hS
      have hR2 := cbel_segR (Nat.pos_of_ne_zero h0) h3 hR
      simp only [stL, stF, stG, stR, hr] at k
      rw [hr] at hS2 hR2
      refine pw_iload rfl rfl ?_
      refine pw_iconst (v := nI (3)) rfl (by decide) ?_
      refine pw_if2p (cn_ge (by omega) (by omega)) rfl (t := 80) rfl (fun q => absurd q (by omega)) (fun _ => ?_)
      refine pw_aload_n rfl rfl ?_
      refine pw_iload_n rfl rfl ?_
      refine px_callv (as := [.inr (some (a)), .inl (nI (lm))]) (rest := []) rfl rfl (by decide) rfl (Nat.le_of_ble_eq_true rfl) (Nat.le_of_ble_eq_true rfl) (Nat.le_of_ble_eq_true rfl) (Nat.le_of_ble_eq_true rfl) rfl hP.1 rfl rfl ?_
      refine t_cbel hP hS.1 h3 (Nat.pos_of_ne_zero h0) hx hsx hn0 hm0 hb0 hlm hle ?_
      show pw pP mHostA_settleBelow (16, [some (.inr (some (89))), some (.inr (some (a))), some (.inl (nI (lm))), some (.inr (l)), some (.inl (nI (i))), o5, o6], [.inr (some (x))], 0, 0, hb (sL L) (up2 F (a) (3) (nI (sc - 1))) G (cbel_R R a sc x) sO) _
      refine pw_astore (ls1 := [some (.inr (some (89))), some (.inr (some (a))), some (.inl (nI (lm))), some (.inr (l)), some (.inl (nI (i))), some (.inr (some (x))), o6]) rfl (Nat.le_of_ble_eq_true rfl) rfl ?_
      refine pw_aload rfl rfl ?_
      refine pw_ifnonnull (t := 26) rfl rfl ?_
      refine pw_aload rfl rfl ?_
      refine px_getv (x := nI (su 0)) rfl rfl hsx rfl ((up2_ne (by omega)).trans (hu0)) ?_
      refine pw_istore (ls1 := [some (.inr (some (89))), some (.inr (some (a))), some (.inl (nI (lm))), some (.inr (l)), some (.inl (nI (i))), some (.inr (some (x))), some (.inl (nI (su 0)))]) rfl (Nat.le_of_ble_eq_true rfl) rfl ?_
      refine t_cst_1 (F := cbel_F F a sc) hsx ((up2_ne (by omega)).trans hu0) ((up2_ne (by omega)).trans hv0) hc0 (sn 0) (su 0) G (by omega) ?_
      refine pw_aload rfl rfl ?_
      refine pw_astore_n (ls1 := [some (.inr (some (89))), some (.inr (some (a))), some (.inl (nI (lm))), some (.inr (some (x))), some (.inl (nI (i))), some (.inr (some (x))), some (.inl (nI (su 0 + sn 0)))]) rfl (Nat.le_of_ble_eq_true rfl) rfl ?_
      refine pw_iinc (v := nI (i + 1)) (ls1 := [some (.inr (some (89))), some (.inr (some (a))), some (.inl (nI (lm))), some (.inr (some (x))), some (.inl (nI (i + 1))), some (.inr (some (x))), some (.inl (nI (su 0 + sn 0)))]) rfl rfl (iinc_n _) rfl ?_
      refine pw_goto (t := 5) rfl rfl ?_
      exact ih (i + 1) (sc - 1) _ _ _ _ _ _ _ (some x) _ _ (by omega) (cbel_pathok hP h3 (Nat.pos_of_ne_zero h0) hsx) hR2 hS2 k
    · have ec : cst lm (n + 1) sc nu nm = 0 := by simp only [cst, h0, hle, if_false]
      rw [ec] at k
      refine pw_iload rfl rfl ?_
      refine pw_iconst (v := nI (3)) rfl (by decide) ?_
      refine pw_if2p (cn_ge (by omega) (by omega)) rfl (t := 80) rfl (fun q => absurd q (by omega)) (fun _ => ?_)
      refine pw_aload_n rfl rfl ?_
      refine pw_iload_n rfl rfl ?_
      refine px_callv (as := [.inr (some (a)), .inl (nI (lm))]) (rest := []) rfl rfl (by decide) rfl (Nat.le_of_ble_eq_true rfl) (Nat.le_of_ble_eq_true rfl) (Nat.le_of_ble_eq_true rfl) (Nat.le_of_ble_eq_true rfl) rfl hP.1 rfl rfl ?_
      refine t_cbel_no hP hS.1 h3 (Nat.pos_of_ne_zero h0) hx hsx hn0 hm0 hb0 hlm hle ?_
      show pw pP mHostA_settleBelow (16, [some (.inr (some (89))), some (.inr (some (a))), some (.inl (nI (lm))), some (.inr (l)), some (.inl (nI (i))), o5, o6], [.inr none], 0, 0, hb (sL L) F G R sO) _
      refine pw_astore (ls1 := [some (.inr (some (89))), some (.inr (some (a))), some (.inl (nI (lm))), some (.inr (l)), some (.inl (nI (i))), some (.inr none), o6]) rfl (Nat.le_of_ble_eq_true rfl) rfl ?_
      refine pw_aload rfl rfl ?_
      refine pw_ifnonnullN (t := 26) rfl rfl ?_
      refine pw_goto (t := 80) rfl rfl ?_
      refine pw_aload_n rfl rfl ?_
      exact pw_aret rfl rfl (Nat.zero_le _) (Nat.zero_le _) rfl k
theorem t_cst {L a lm sc : Nat} {nu nm su sn : Nat → Nat} {F G : FN} {R : RN} (hlm : lm < 2 ^ 30) (hP : pathok L a R) (hR : segR a R) (hS : sgs F R a sc nu nm su sn) {Q : Option PV → PH → Prop} (k : Q (some (.inr (stL a (cst lm 3 sc nu nm) sc R none))) (hb (sL L) (stF a (cst lm 3 sc nu nm) sc F) (stG (cst lm 3 sc nu nm) su sn G) (stR a (cst lm 3 sc nu nm) sc R) sO)) : pz pP mHostA_settleBelow [.inr (some 89), .inr (some a), .inl (nI lm)] (hb (sL L) F G R sO) Q := by
  show pw pP mHostA_settleBelow (0, [some (.inr (some (89))), some (.inr (some (a))), some (.inl (nI (lm))), none, none, none, none], [], 0, 0, hb (sL L) F G R sO) _
  refine pw_null rfl ?_
  refine pw_astore_n (ls1 := [some (.inr (some (89))), some (.inr (some (a))), some (.inl (nI (lm))), some (.inr none), none, none, none]) rfl (Nat.le_of_ble_eq_true rfl) rfl ?_
  refine pw_iconst (v := nI (0)) rfl (by decide) ?_
  refine pw_istore (ls1 := [some (.inr (some (89))), some (.inr (some (a))), some (.inl (nI (lm))), some (.inr none), some (.inl (nI (0))), none, none]) rfl (Nat.le_of_ble_eq_true rfl) rfl ?_
  exact t_cst_lp hlm 3 0 sc nu nm su sn F G R none _ _ (by omega) hP hR hS k
theorem stF_ne {a i k : Nat} (h : ¬ (i = a ∧ k = 3)) : ∀ (n sc : Nat) (F : FN), stF a n sc F i k = F i k
  | 0, _, _ => rfl
  | n + 1, sc, F => by
    rw [stF, stF_ne h n]
    exact up2_ne h
theorem stF_3 {a : Nat} : ∀ (n sc : Nat) (F : FN), F a 3 = nI sc → stF a n sc F a 3 = nI (sc - n)
  | 0, _, _, h => h
  | n + 1, sc, F, h => by
    rw [stF, stF_3 n (sc - 1) (cbel_F F a sc) up2_eq, show sc - 1 - n = sc - (n + 1) by omega]
theorem stR_row {a i : Nat} (h : ¬ i = a + 17) : ∀ (n sc : Nat) (R : RN), stR a n sc R i = R i
  | 0, _, _ => rfl
  | n + 1, sc, R => by
    rw [stR, stR_row h n]
    exact cbel_row h
theorem cst_le {lm : Nat} : ∀ (n sc : Nat) (nu nm : Nat → Nat), cst lm n sc nu nm ≤ sc
  | 0, _, _, _ => Nat.zero_le _
  | n + 1, sc, nu, nm => by
    rw [cst]
    split
    · exact Nat.zero_le _
    · split
      · have := cst_le (lm := lm) n (sc - 1) (fun j => nu (j + 1)) (fun j => nm (j + 1))
        omega
      · exact Nat.zero_le _
theorem stR_segR {L a : Nat} : ∀ (n sc : Nat) (R : RN), n ≤ sc → sc ≤ 3 → segR a R → pathok L a R → segR a (stR a n sc R) ∧ pathok L a (stR a n sc R)
  | 0, _, _, _, _, h, hP => ⟨h, hP⟩
  | n + 1, sc, R, hn, h3, h, hP => by
    obtain ⟨x, hx, hsx⟩ := hP.2.2.2.2.2 0 (by omega)
    have hr : rx R (a + 17) 0 = x := by rw [rx, hx]; rfl
    have h1 := cbel_segR (sc := sc) (by omega) h3 h
    rw [hr] at h1
    rw [stR, hr]
    exact stR_segR n (sc - 1) _ (by omega) (by omega) h1 (cbel_pathok hP h3 (by omega) hsx)
theorem stL_eq {a : Nat} : ∀ (n sc : Nat) (R : RN) (l : Option Nat), n ≤ sc → sc ≤ 3 → segR a R → stL a n sc R l = if n = 0 then l else some (rx R (a + 17) (n - 1))
  | 0, _, _, _, _, _, _ => rfl
  | n + 1, sc, R, l, hn, h3, h => by
    rw [stL, stL_eq n (sc - 1) _ _ (by omega) (by omega) (cbel_segR (by omega) h3 h), if_neg (by omega : ¬ n + 1 = 0)]
    by_cases h0 : n = 0
    · subst h0
      rw [if_pos rfl]
    · rw [if_neg h0, cbel_rx (by omega), if_neg (by omega), if_pos (by omega), show n - 1 + 1 = n + 1 - 1 by omega]
theorem stR_rx {a : Nat} : ∀ (n sc j : Nat) (R : RN), n ≤ sc → sc ≤ 3 → j < sc - n → rx (stR a n sc R) (a + 17) j = rx R (a + 17) (j + n)
  | 0, _, _, _, _, _, _ => rfl
  | n + 1, sc, j, R, hn, h3, hj => by
    rw [stR, stR_rx n (sc - 1) j _ (by omega) (by omega) (by omega), cbel_rx (by omega), if_neg (by omega), if_pos (by omega), show j + n + 1 = j + (n + 1) by omega]
/-- what an ACK makes of A's knowledge -/
def cak (F : FN) (x : Nat) : FN := up2 (up2 F 89 5 (if F 89 5 < F x 3 then F x 3 else F 89 5)) 89 6 (if F 89 6 < F x 4 then F x 4 else F 89 6)
/-- the end of an ACK that settles: y the last segment -/
def cae (F : FN) (a y sc : Nat) (t : Int32) : FN := (fun F1 : FN => up2 (up2 (up2 F1 a 5 (nI 2)) 89 8 (nI 1)) a 9 (if ¬ sc = 0 then t + F1 a 8 else -1)) (if ¬ F y 5 = nI 1 then F else cmeas_F F a (t - F y 4))
theorem t_ahear3 {L a x : Nat} {t : Int32} {F G : FN} {R : RN} (hP : pathok L a R) (hsx : (sL L)[x]? = some (2, 1, [0, 0, 0, 0, 0, 0], 0)) (hk : F x 0 = nI 3) {Q : Option PV → PH → Prop} (k : Q none (hb (sL L) (cshut_F F a) G R sO)) : pz pP mHostA_hear [.inr (some 89), .inr (some x), .inr (some a), .inl t] (hb (sL L) F G R sO) Q := by
  show pw pP mHostA_hear (0, [some (.inr (some (89))), some (.inr (some (x))), some (.inr (some (a))), some (.inl (t)), none], [], 0, 0, hb (sL L) F G R sO) _
  refine pw_aload_n rfl rfl ?_
  refine px_getv (x := nI (3)) rfl rfl hsx rfl (hk) ?_
  refine pw_iconst (v := nI (3)) rfl (by decide) ?_
  refine pw_if2 (t := 13) rfl rfl (fun q => absurd q (by decide)) (fun _ => ?_)
  refine pw_aload_n rfl rfl ?_
  refine px_callv (as := [.inr (some (a))]) (rest := []) rfl rfl (by decide) rfl (Nat.le_of_ble_eq_true rfl) (Nat.le_of_ble_eq_true rfl) (Nat.le_of_ble_eq_true rfl) (Nat.le_of_ble_eq_true rfl) rfl hP.1 rfl rfl ?_
  refine t_cshut hP ?_
  show pw pP mHostA_hear (12, [some (.inr (some (89))), some (.inr (some (x))), some (.inr (some (a))), some (.inl (t)), none], [], 0, 0, hb (sL L) (cshut_F F a) G R sO) _
  exact pw_vret rfl rfl (Nat.zero_le _) (Nat.zero_le _) k
theorem cak_ne {F : FN} {x i k : Nat} (h1 : ¬ (i = 89 ∧ k = 5)) (h2 : ¬ (i = 89 ∧ k = 6)) : cak F x i k = F i k := by
  unfold cak
  rw [up2_ne h2, up2_ne h1]
theorem cak_sgs {a x sc : Nat} {F : FN} {R : RN} {nu nm su sn : Nat → Nat} (ha : a + 20 < 89) (hR : segR a R) (h : sgs F R a sc nu nm su sn) : sgs (cak F x) R a sc nu nm su sn := by
  have h3 := h.2.1
  refine ⟨(cak_ne (by omega) (by omega)).trans h.1, h.2.1, fun j hj => ?_⟩
  have hr := (hR.1 j (by omega)).2
  rw [cak_ne (by omega) (by omega), cak_ne (by omega) (by omega), cak_ne (by omega) (by omega), cak_ne (by omega) (by omega)]
  exact h.2.2 j hj
theorem t_ahear_0 {L a x lm sc : Nat} {t : Int32} {nu nm su sn : Nat → Nat} {F G : FN} {R : RN} (hP : pathok L a R) (ha : 4 < a ∧ a + 20 < 89) (hsx : (sL L)[x]? = some (2, 1, [0, 0, 0, 0, 0, 0], 0)) (hx8 : x < 89) (hk : F x 0 = nI 2) (hlm : F x 2 = nI lm) (hl3 : lm < 2 ^ 30) (hR : segR a R) (hS : sgs F R a sc nu nm su sn) (h0 : (cst lm 3 sc nu nm) = 0) {Q : Option PV → PH → Prop} (k : Q none (hb (sL L) (cak F x) G R sO)) : pz pP mHostA_hear [.inr (some (89)), .inr (some (x)), .inr (some (a)), .inl (t)] (hb (sL L) F G R sO) Q := by
  show pw pP mHostA_hear (0, [some (.inr (some (89))), some (.inr (some (x))), some (.inr (some (a))), some (.inl (t)), none], [], 0, 0, hb (sL L) F G R sO) _
  refine pw_aload_n rfl rfl ?_
  refine px_getv (x := nI (2)) rfl rfl hsx rfl (hk) ?_
  refine pw_iconst (v := nI (3)) rfl (by decide) ?_
  refine pw_if2 (t := 13) rfl rfl (fun _ => ?_) (fun q => absurd q (by decide))
  refine pw_aload_n rfl rfl ?_
  refine pw_aload_n rfl rfl ?_
  refine px_getv (x := F (89) (5)) rfl rfl rfl rfl (rfl) ?_
  refine pw_aload_n rfl rfl ?_
  refine px_getv (x := F (x) (3)) rfl rfl hsx rfl (rfl) ?_
  refine pw_math (st1 := [.inl ((if (F (89) (5)) < (F (x) (3)) then (F (x) (3)) else (F (89) (5)))), .inr (some (89))]) rfl rfl (by decide) (Nat.zero_le _) (Nat.zero_le _) rfl (Nat.le_of_ble_eq_true rfl) ?_
  refine px_put rfl rfl rfl rfl rfl ?_
  refine pw_aload_n rfl rfl ?_
  refine pw_aload_n rfl rfl ?_
  refine px_getv (x := F (89) (6)) rfl rfl rfl rfl (up2_ne2 (by decide)) ?_
  refine pw_aload_n rfl rfl ?_
  refine px_getv (x := F (x) (4)) rfl rfl hsx rfl (up2_ne (by omega)) ?_
  refine pw_math (st1 := [.inl ((if (F (89) (6)) < (F (x) (4)) then (F (x) (4)) else (F (89) (6)))), .inr (some (89))]) rfl rfl (by decide) (Nat.zero_le _) (Nat.zero_le _) rfl (Nat.le_of_ble_eq_true rfl) ?_
  refine px_put rfl rfl rfl rfl rfl ?_
  refine pw_aload_n rfl rfl ?_
  refine pw_aload_n rfl rfl ?_
  refine pw_aload_n rfl rfl ?_
  refine px_getv (x := nI (lm)) rfl rfl hsx rfl (((up2_ne (by omega)).trans (up2_ne (by omega))).trans (hlm)) ?_
  refine px_callv (as := [.inr (some (89)), .inr (some (a)), .inl (nI (lm))]) (rest := []) rfl rfl (by decide) rfl (Nat.le_of_ble_eq_true rfl) (Nat.le_of_ble_eq_true rfl) (Nat.le_of_ble_eq_true rfl) (Nat.le_of_ble_eq_true rfl) rfl rfl rfl rfl ?_
  refine t_cst hl3 hP hR (cak_sgs ha.2 hR hS) ?_
  rw [h0]
  show pw pP mHostA_hear (52, [some (.inr (some (89))), some (.inr (some (x))), some (.inr (some (a))), some (.inl (t)), none], [.inr none], 0, 0, hb (sL L) (cak F x) G R sO) _
  refine pw_astore (ls1 := [some (.inr (some (89))), some (.inr (some (x))), some (.inr (some (a))), some (.inl (t)), some (.inr none)]) rfl (Nat.le_of_ble_eq_true rfl) rfl ?_
  refine pw_aload rfl rfl ?_
  refine pw_ifnonnullN (t := 60) rfl rfl ?_
  exact pw_vret rfl rfl (Nat.zero_le _) (Nat.zero_le _) k
theorem cmeas_3 {F : FN} {a i k : Nat} {x : Int32} (h : ¬ (i = a ∧ 8 ≤ k ∧ k ≤ 12)) : cmeas_F F a x i k = F i k := by
  unfold cmeas_F
  repeat' split
  all_goals (repeat rw [up2_ne (by omega)])
theorem t_ahear {L a x lm sc : Nat} {t : Int32} {nu nm su sn : Nat → Nat} {F G : FN} {R : RN} (hP : pathok L a R) (ha : 4 < a ∧ a + 20 < 89) (hsx : (sL L)[x]? = some (2, 1, [0, 0, 0, 0, 0, 0], 0)) (hx8 : x < 89) (hk : F x 0 = nI 2) (hlm : F x 2 = nI lm) (hl3 : lm < 2 ^ 30) (hR : segR a R) (hS : sgs F R a sc nu nm su sn) {kk y : Nat} (hkk : (cst lm 3 sc nu nm) = kk) (h0 : ¬ kk = 0) (hy : rx R (a + 17) (kk - 1) = y) {Q : Option PV → PH → Prop} (k : Q none (hb (sL L) (cae (stF a kk sc (cak F x)) a y (sc - kk) t) (stG kk su sn G) (stR a kk sc R) sO)) : pz pP mHostA_hear [.inr (some (89)), .inr (some (x)), .inr (some (a)), .inl (t)] (hb (sL L) F G R sO) Q := by
  show pw pP mHostA_hear (0, [some (.inr (some (89))), some (.inr (some (x))), some (.inr (some (a))), some (.inl (t)), none], [], 0, 0, hb (sL L) F G R sO) _
  have hle : kk ≤ sc := by rw [← hkk]; exact cst_le _ _ _ _
  have h3 := hS.2.1
  obtain ⟨y1, hy1, hsy⟩ := hP.2.2.2.2.2 (kk - 1) (by omega)
  have hry : rx R (a + 17) (kk - 1) = y1 := by rw [rx, hy1]; rfl
  rw [hy] at hry
  subst hry
  have hyr := (hR.1 (kk - 1) (by omega)).2
  rw [hy] at hyr
  have h3s : stF a kk sc (cak F x) a 3 = nI (sc - kk) := stF_3 kk sc _ ((cak_ne (by omega) (by omega)).trans hS.1)
  have eL : stL a kk sc R none = some y := by rw [stL_eq kk sc R none hle h3 hR, if_neg h0, hy]
  refine pw_aload_n rfl rfl ?_
  refine px_getv (x := nI (2)) rfl rfl hsx rfl (hk) ?_
  refine pw_iconst (v := nI (3)) rfl (by decide) ?_
  refine pw_if2 (t := 13) rfl rfl (fun _ => ?_) (fun q => absurd q (by decide))
  refine pw_aload_n rfl rfl ?_
  refine pw_aload_n rfl rfl ?_
  refine px_getv (x := F (89) (5)) rfl rfl rfl rfl (rfl) ?_
  refine pw_aload_n rfl rfl ?_
  refine px_getv (x := F (x) (3)) rfl rfl hsx rfl (rfl) ?_
  refine pw_math (st1 := [.inl ((if (F (89) (5)) < (F (x) (3)) then (F (x) (3)) else (F (89) (5)))), .inr (some (89))]) rfl rfl (by decide) (Nat.zero_le _) (Nat.zero_le _) rfl (Nat.le_of_ble_eq_true rfl) ?_
  refine px_put rfl rfl rfl rfl rfl ?_
  refine pw_aload_n rfl rfl ?_
  refine pw_aload_n rfl rfl ?_
  refine px_getv (x := F (89) (6)) rfl rfl rfl rfl (up2_ne2 (by decide)) ?_
  refine pw_aload_n rfl rfl ?_
  refine px_getv (x := F (x) (4)) rfl rfl hsx rfl (up2_ne (by omega)) ?_
  refine pw_math (st1 := [.inl ((if (F (89) (6)) < (F (x) (4)) then (F (x) (4)) else (F (89) (6)))), .inr (some (89))]) rfl rfl (by decide) (Nat.zero_le _) (Nat.zero_le _) rfl (Nat.le_of_ble_eq_true rfl) ?_
  refine px_put rfl rfl rfl rfl rfl ?_
  refine pw_aload_n rfl rfl ?_
  refine pw_aload_n rfl rfl ?_
  refine pw_aload_n rfl rfl ?_
  refine px_getv (x := nI (lm)) rfl rfl hsx rfl (((up2_ne (by omega)).trans (up2_ne (by omega))).trans (hlm)) ?_
  refine px_callv (as := [.inr (some (89)), .inr (some (a)), .inl (nI (lm))]) (rest := []) rfl rfl (by decide) rfl (Nat.le_of_ble_eq_true rfl) (Nat.le_of_ble_eq_true rfl) (Nat.le_of_ble_eq_true rfl) (Nat.le_of_ble_eq_true rfl) rfl rfl rfl rfl ?_
  refine t_cst hl3 hP hR (cak_sgs ha.2 hR hS) ?_
  rw [hkk, eL]
  replace hP := (stR_segR (L := L) kk sc R hle h3 hR hP).2
  show pw pP mHostA_hear (52, [some (.inr (some (89))), some (.inr (some (x))), some (.inr (some (a))), some (.inl (t)), none], [.inr (some (y))], 0, 0, hb (sL L) (stF a kk sc (cak F x)) (stG kk su sn G) (stR a kk sc R) sO) _
  refine pw_astore (ls1 := [some (.inr (some (89))), some (.inr (some (x))), some (.inr (some (a))), some (.inl (t)), some (.inr (some (y)))]) rfl (Nat.le_of_ble_eq_true rfl) rfl ?_
  refine pw_aload rfl rfl ?_
  refine pw_ifnonnull (t := 60) rfl rfl ?_
  refine pw_aload rfl rfl ?_
  refine px_getv (x := (stF a kk sc (cak F x)) (y) (5)) rfl rfl hsy rfl (rfl) ?_
  refine pw_iconst (v := nI (1)) rfl (by decide) ?_
  refine pw_if2p (A := ¬ (stF a kk sc (cak F x)) (y) (5) = nI (1)) rfl rfl (t := 80) rfl (fun c1 => ?_) (fun c1 => ?_)
  · -- 80
    have e1 : (if ¬ (stF a kk sc (cak F x)) y 5 = nI 1 then (stF a kk sc (cak F x)) else cmeas_F (stF a kk sc (cak F x)) a (t - (stF a kk sc (cak F x)) y 4) : FN) = (stF a kk sc (cak F x)) := by simp only [eq_false c1, not_true_eq_false, not_false_eq_true, and_self, and_true, true_and, and_false, false_and, or_true, true_or, or_false, false_or, or_self, if_true, if_false]
    unfold cae at k
    rw [e1] at k
    refine pw_aload_n rfl rfl ?_
    refine pw_iconst (v := nI (2)) rfl (by decide) ?_
    refine px_put rfl rfl hP.1 rfl rfl ?_
    refine pw_aload_n rfl rfl ?_
    refine pw_iconst (v := nI (1)) rfl (by decide) ?_
    refine px_put rfl rfl rfl rfl rfl ?_
    refine pw_aload_n rfl rfl ?_
    refine pw_aload_n rfl rfl ?_
    refine px_getv (x := nI (sc - kk)) rfl rfl hP.1 rfl (((up2_ne (by omega)).trans (up2_ne2 (by decide))).trans (h3s)) ?_
    refine pw_if1p (cz_ne (by omega)) rfl (t := 102) rfl (fun c2 => ?_) (fun c2 => ?_)
    · -- 102
      refine pw_iload_n rfl rfl ?_
      refine pw_aload_n rfl rfl ?_
      refine px_getv (x := (stF a kk sc (cak F x)) (a) (8)) rfl rfl hP.1 rfl ((up2_ne (by omega)).trans (up2_ne2 (by decide))) ?_
      refine pw_iadd (z := t + ((stF a kk sc (cak F x)) (a) (8))) rfl rfl ?_
      refine px_put rfl rfl hP.1 rfl rfl ?_
      simp only [eq_false c2, not_true_eq_false, not_false_eq_true, and_self, and_true, true_and, and_false, false_and, or_true, true_or, or_false, false_or, or_self, if_true, if_false] at k
      exact pw_vret rfl rfl (Nat.zero_le _) (Nat.zero_le _) k
    · -- 98
      refine pw_iconst (v := (-1)) rfl (by decide) ?_
      refine pw_goto (t := 108) rfl rfl ?_
      refine px_put rfl rfl hP.1 rfl rfl ?_
      simp only [eq_true (Decidable.of_not_not c2), not_true_eq_false, not_false_eq_true, and_self, and_true, true_and, and_false, false_and, or_true, true_or, or_false, false_or, or_self, if_true, if_false] at k
      exact pw_vret rfl rfl (Nat.zero_le _) (Nat.zero_le _) k
  · -- 69
    refine pw_aload_n rfl rfl ?_
    refine pw_iload_n rfl rfl ?_
    refine pw_aload rfl rfl ?_
    refine px_getv (x := (stF a kk sc (cak F x)) (y) (4)) rfl rfl hsy rfl (rfl) ?_
    refine pw_isub (z := t - ((stF a kk sc (cak F x)) (y) (4))) rfl rfl ?_
    refine px_callv (as := [.inr (some (a)), .inl (t - ((stF a kk sc (cak F x)) (y) (4)))]) (rest := []) rfl rfl (by decide) rfl (Nat.le_of_ble_eq_true rfl) (Nat.le_of_ble_eq_true rfl) (Nat.le_of_ble_eq_true rfl) (Nat.le_of_ble_eq_true rfl) rfl hP.1 rfl rfl ?_
    refine t_cmeas hP ?_
    show pw pP mHostA_hear (80, [some (.inr (some (89))), some (.inr (some (x))), some (.inr (some (a))), some (.inl (t)), some (.inr (some (y)))], [], 0, 0, hb (sL L) (cmeas_F (stF a kk sc (cak F x)) a (t - (stF a kk sc (cak F x)) y 4)) (stG kk su sn G) (stR a kk sc R) sO) _
    have e1 : (if ¬ (stF a kk sc (cak F x)) y 5 = nI 1 then (stF a kk sc (cak F x)) else cmeas_F (stF a kk sc (cak F x)) a (t - (stF a kk sc (cak F x)) y 4) : FN) = (cmeas_F (stF a kk sc (cak F x)) a (t - (stF a kk sc (cak F x)) y 4)) := by simp only [eq_true (Decidable.of_not_not c1), not_true_eq_false, not_false_eq_true, and_self, and_true, true_and, and_false, false_and, or_true, true_or, or_false, false_or, or_self, if_true, if_false]
    unfold cae at k
    rw [e1] at k
    refine pw_aload_n rfl rfl ?_
    refine pw_iconst (v := nI (2)) rfl (by decide) ?_
    refine px_put rfl rfl hP.1 rfl rfl ?_
    refine pw_aload_n rfl rfl ?_
    refine pw_iconst (v := nI (1)) rfl (by decide) ?_
    refine px_put rfl rfl rfl rfl rfl ?_
    refine pw_aload_n rfl rfl ?_
    refine pw_aload_n rfl rfl ?_
    refine px_getv (x := nI (sc - kk)) rfl rfl hP.1 rfl (((up2_ne (by omega)).trans (up2_ne2 (by decide))).trans (((cmeas_3 (by omega)).trans h3s))) ?_
    refine pw_if1p (cz_ne (by omega)) rfl (t := 102) rfl (fun c3 => ?_) (fun c3 => ?_)
    · -- 102
      refine pw_iload_n rfl rfl ?_
      refine pw_aload_n rfl rfl ?_
      refine px_getv (x := (cmeas_F (stF a kk sc (cak F x)) a (t - (stF a kk sc (cak F x)) y 4)) (a) (8)) rfl rfl hP.1 rfl ((up2_ne (by omega)).trans (up2_ne2 (by decide))) ?_
      refine pw_iadd (z := t + ((cmeas_F (stF a kk sc (cak F x)) a (t - (stF a kk sc (cak F x)) y 4)) (a) (8))) rfl rfl ?_
      refine px_put rfl rfl hP.1 rfl rfl ?_
      simp only [eq_false c3, not_true_eq_false, not_false_eq_true, and_self, and_true, true_and, and_false, false_and, or_true, true_or, or_false, false_or, or_self, if_true, if_false] at k
      exact pw_vret rfl rfl (Nat.zero_le _) (Nat.zero_le _) k
    · -- 98
      refine pw_iconst (v := (-1)) rfl (by decide) ?_
      refine pw_goto (t := 108) rfl rfl ?_
      refine px_put rfl rfl hP.1 rfl rfl ?_
      simp only [eq_true (Decidable.of_not_not c3), not_true_eq_false, not_false_eq_true, and_self, and_true, true_and, and_false, false_and, or_true, true_or, or_false, false_or, or_self, if_true, if_false] at k
      exact pw_vret rfl rfl (Nat.zero_le _) (Nat.zero_le _) k
