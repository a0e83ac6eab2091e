/-! THE CLASS, second part: the stream, arrivals, paths. Rows laid by a program (wip/whole/gen/class2.py). -/
/-- Stream_valueOf -/
def cval_r (G : FN) (u ln : Nat) : Int32 := (if ln ≤ u then nI (0) else G (3) (u))
theorem t_cval {L u ln : Nat} {F G : FN} {R : RN} (hln : F 2 1 = nI ln) (hl : ln ≤ 401) (hu : u < 2 ^ 31) {Q : Option PV → PH → Prop} (k : Q (some (.inl (cval_r G u ln))) (hb (sL L) F G R sO)) : pz pP mStream_valueOf [.inr (some (2)), .inl (nI (u))] (hb (sL L) F G R sO) Q := by
  show pw pP mStream_valueOf (0, [some (.inr (some (2))), some (.inl (nI (u)))], [], 0, 0, hb (sL L) F G R sO) _
  refine pw_iload_n rfl rfl ?_
  refine pw_if1p (cz_lt (by omega)) rfl (t := 21) rfl (fun q => absurd q (by omega)) (fun _ => ?_)
  refine pw_iload_n rfl rfl ?_
  refine pw_aload_n rfl rfl ?_
  refine px_getv (x := nI (ln)) rfl rfl rfl rfl (hln) ?_
  refine pw_if2p (cn_ge (by omega) (by omega)) rfl (t := 21) rfl (fun c1 => ?_) (fun c1 => ?_)
  · -- 21
    refine pw_iconst (v := nI (0)) rfl (by decide) ?_
    exact pw_iret rfl rfl (Nat.zero_le _) (Nat.zero_le _) rfl (by simp only [cval_r, c1, if_true, if_false] at k; exact k)
  · -- 12
    refine pw_aload_n rfl rfl ?_
    refine px_getr (r := some (3)) rfl rfl rfl rfl rfl ?_
    refine pw_iload_n rfl rfl ?_
    refine px_ialdn (x := G (3) (u)) rfl rfl (by omega) (by decide) (rfl) ?_
    refine pw_goto (t := 22) rfl rfl ?_
    exact pw_iret rfl rfl (Nat.zero_le _) (Nat.zero_le _) rfl (by simp only [cval_r, c1, if_true, if_false] at k; exact k)
/-- Stream_appendEnd -/
def cend_r (F G : FN) (ln : Nat) : Int32 := (if ¬ F (2) (2) = 0 then nI (0) else (if ln < 401 then nI (1) else nI (0)))
/-- Stream_appendEnd -/
def cend_F (F G : FN) (ln : Nat) : FN := (if ¬ F (2) (2) = 0 then F else (if ln < 401 then (up2 (up2 F (2) (1) (nI (ln + 1))) (2) (2) (nI (1))) else F))
/-- Stream_appendEnd -/
def cend_G (F G : FN) (ln : Nat) : FN := (if ¬ F (2) (2) = 0 then G else (if ln < 401 then (up2 G (3) (ln) (nI (256))) else G))
theorem t_cend {L ln : Nat} {F G : FN} {R : RN} (hln : F 2 1 = nI ln) (hl : ln ≤ 401) {Q : Option PV → PH → Prop} (k : Q (some (.inl (cend_r F G ln))) (hb (sL L) (cend_F F G ln) (cend_G F G ln) R sO)) : pz pP mStream_appendEnd [.inr (some (2))] (hb (sL L) F G R sO) Q := by
  show pw pP mStream_appendEnd (0, [some (.inr (some (2)))], [], 0, 0, hb (sL L) F G R sO) _
  refine pw_aload_n rfl rfl ?_
  refine px_getv (x := F (2) (2)) rfl rfl rfl rfl (rfl) ?_
  refine pw_if1p (A := ¬ F (2) (2) = 0) rfl rfl (t := 17) rfl (fun c1 => ?_) (fun c1 => ?_)
  · -- 17
    refine pw_iconst (v := nI (0)) rfl (by decide) ?_
    exact pw_iret rfl rfl (Nat.zero_le _) (Nat.zero_le _) rfl (by simp only [cend_r, cend_F, cend_G, c1, if_true, if_false] at k; exact k)
  · -- 7
    refine pw_aload_n rfl rfl ?_
    refine px_getv (x := nI (ln)) rfl rfl rfl rfl (hln) ?_
    refine pw_sipush (v := nI (401)) rfl (by decide) ?_
    refine pw_if2p (cn_lt (by omega) (by omega)) rfl (t := 19) rfl (fun c2 => ?_) (fun c2 => ?_)
    · -- 19
      refine pw_aload_n rfl rfl ?_
      refine px_getr (r := some (3)) rfl rfl rfl rfl rfl ?_
      refine pw_aload_n rfl rfl ?_
      refine px_getv (x := nI (ln)) rfl rfl rfl rfl (hln) ?_
      refine pw_sipush (v := nI (256)) rfl (by decide) ?_
      refine px_iastn rfl rfl (by omega) (by decide) ?_
      refine pw_aload_n rfl rfl ?_
      refine pw_dup rfl ?_
      refine px_getv (x := nI (ln)) rfl rfl rfl rfl (hln) ?_
      refine pw_iconst (v := nI (1)) rfl (by decide) ?_
      refine pw_iadd (z := nI (ln + 1)) rfl (nI_add _ _) ?_
      refine px_put rfl rfl rfl rfl rfl ?_
      refine pw_aload_n rfl rfl ?_
      refine pw_iconst (v := nI (1)) rfl (by decide) ?_
      refine px_put rfl rfl rfl rfl rfl ?_
      refine pw_iconst (v := nI (1)) rfl (by decide) ?_
      exact pw_iret rfl rfl (Nat.zero_le _) (Nat.zero_le _) rfl (by simp only [cend_r, cend_F, cend_G, c1, c2, if_true, if_false] at k; exact k)
    · -- 17
      refine pw_iconst (v := nI (0)) rfl (by decide) ?_
      exact pw_iret rfl rfl (Nat.zero_le _) (Nat.zero_le _) rfl (by simp only [cend_r, cend_F, cend_G, c1, c2, if_true, if_false] at k; exact k)
def csw (v : Int32) (ln : Nat) : Nat → Nat → FN → FN
  | 0, _, G => G
  | n + 1, j, G => csw v ln n (j + 1) (up2 G 3 (ln + j) ((v + nI j) &&& nI 255))
theorem t_csapp_lp {L ln ad : Nat} {x v : Int32} {F : FN} {R : RN} {Q : Option PV → PH → Prop} (hln : F 2 1 = nI ln) (had : ln + ad ≤ 400) : ∀ (n j : Nat) (G : FN), j + n = ad → pw pP mStream_append (62, [some (.inr (some (2))), some (.inl (x)), some (.inl (v)), some (.inl (nI (ad))), some (.inl (nI (ad)))], [], 0, 0, hb (sL L) F (csw v ln n j G) R sO) Q → pw pP mStream_append (30, [some (.inr (some (2))), some (.inl (x)), some (.inl (v)), some (.inl (nI (ad))), some (.inl (nI (j)))], [], 0, 0, hb (sL L) F G R sO) Q := by
  intro n
  induction n with
  | zero =>
    intro j G hn k
    have e : ad = j := by omega
    subst e
    refine pw_iload rfl rfl ?_
    refine pw_iload_n rfl rfl ?_
    refine pw_if2p (cn_ge (by omega) (by omega)) rfl (t := 62) rfl (fun c1 => ?_) (fun c1 => ?_)
    · -- 62
      exact k
    · -- 36
      exact absurd c1 (by omega)
  | succ n ih =>
    intro j G hn k
    refine pw_iload rfl rfl ?_
    refine pw_iload_n rfl rfl ?_
    refine pw_if2p (cn_ge (by omega) (by omega)) rfl (t := 62) rfl (fun c1 => ?_) (fun c1 => ?_)
    · -- 62
      exact absurd c1 (by omega)
    · -- 36
      refine pw_aload_n rfl rfl ?_
      refine px_getr (r := some (3)) rfl rfl rfl rfl rfl ?_
      refine pw_aload_n rfl rfl ?_
      refine px_getv (x := nI (ln)) rfl rfl rfl rfl (hln) ?_
      refine pw_iload rfl rfl ?_
      refine pw_iadd (z := nI (ln + j)) rfl (nI_add _ _) ?_
      refine pw_iload_n rfl rfl ?_
      refine pw_iload rfl rfl ?_
      refine pw_iadd (z := v + (nI (j))) rfl rfl ?_
      refine pw_sipush (v := nI (255)) rfl (by decide) ?_
      refine pw_iand (z := (v + (nI (j))) &&& (nI (255))) rfl rfl ?_
      refine px_iastn rfl rfl (by omega) (by decide) ?_
      refine pw_iinc (v := nI (j + 1)) (ls1 := [some (.inr (some (2))), some (.inl (x)), some (.inl (v)), some (.inl (nI (ad))), some (.inl (nI (j + 1)))]) rfl rfl (iinc_n _) rfl ?_
      refine pw_goto (t := 30) rfl rfl ?_
      exact ih (j + 1) _ (by omega) k
theorem t_csapp {L ln ad : Nat} {x v : Int32} {F G : FN} {R : RN} (hln : F 2 1 = nI ln) (hend : F 2 2 = nI 0) (hx : ¬ x < nI 1) (had : (if nI (400 - ln) < x then nI (400 - ln) else x) = nI ad) (hl : ln + ad ≤ 400) {Q : Option PV → PH → Prop} (k : Q (some (.inl (nI ad))) (hb (sL L) (up2 F 2 1 (nI (ln + ad))) (csw v ln ad 0 G) R sO)) : pz pP mStream_append [.inr (some 2), .inl x, .inl v] (hb (sL L) F G R sO) Q := by
  show pw pP mStream_append (0, [some (.inr (some (2))), some (.inl (x)), some (.inl (v)), none, none], [], 0, 0, hb (sL L) F G R sO) _
  refine pw_aload_n rfl rfl ?_
  refine px_getv (x := nI (0)) rfl rfl rfl rfl (hend) ?_
  refine pw_if1 (t := 12) rfl rfl (fun q => absurd q (by decide)) (fun _ => ?_)
  refine pw_iload_n rfl rfl ?_
  refine pw_iconst (v := nI (1)) rfl (by decide) ?_
  refine pw_if2p (A := nI (1) ≤ x) rfl rfl (t := 14) rfl (fun _ => ?_) (fun q => absurd (Int32.not_lt.mp hx) q)
  refine pw_iload_n rfl rfl ?_
  refine pw_sipush (v := nI (400)) rfl (by decide) ?_
  refine pw_aload_n rfl rfl ?_
  refine px_getv (x := nI (ln)) rfl rfl rfl rfl (hln) ?_
  refine pw_isub (z := nI (400 - ln)) rfl (pk_sub (by omega)) ?_
  refine pw_math (st1 := [.inl (nI (ad))]) rfl rfl (by decide) (Nat.zero_le _) (Nat.zero_le _) (by show (some _ : Option (List PV)) = some _; rw [had]) (Nat.le_of_ble_eq_true rfl) ?_
  refine pw_istore_n (ls1 := [some (.inr (some (2))), some (.inl (x)), some (.inl (v)), some (.inl (nI (ad))), none]) rfl (Nat.le_of_ble_eq_true rfl) rfl ?_
  refine pw_iconst (v := nI (0)) rfl (by decide) ?_
  refine pw_istore (ls1 := [some (.inr (some (2))), some (.inl (x)), some (.inl (v)), some (.inl (nI (ad))), some (.inl (nI (0)))]) rfl (Nat.le_of_ble_eq_true rfl) rfl ?_
  refine t_csapp_lp hln hl ad 0 G (by omega) ?_
  refine pw_aload_n rfl rfl ?_
  refine pw_dup rfl ?_
  refine px_getv (x := nI (ln)) rfl rfl rfl rfl (hln) ?_
  refine pw_iload_n rfl rfl ?_
  refine pw_iadd (z := nI (ln + ad)) rfl (nI_add _ _) ?_
  refine px_put rfl rfl rfl rfl rfl ?_
  refine pw_iload_n rfl rfl ?_
  exact pw_iret rfl rfl (Nat.zero_le _) (Nat.zero_le _) rfl k
theorem t_csapp_no {L : Nat} {x v : Int32} {F G : FN} {R : RN} (he : ¬ F 2 2 = 0) {Q : Option PV → PH → Prop} (k : Q (some (.inl (nI 0))) (hb (sL L) F G R sO)) : pz pP mStream_append [.inr (some 2), .inl x, .inl v] (hb (sL L) F G R sO) Q := by
  show pw pP mStream_append (0, [some (.inr (some (2))), some (.inl (x)), some (.inl (v)), none, none], [], 0, 0, hb (sL L) F G R sO) _
  refine pw_aload_n rfl rfl ?_
  refine px_getv (x := F (2) (2)) rfl rfl rfl rfl (rfl) ?_
  refine pw_if1p (A := ¬ F (2) (2) = 0) rfl rfl (t := 12) rfl (fun _ => ?_) (fun q => absurd he q)
  refine pw_iconst (v := nI (0)) rfl (by decide) ?_
  exact pw_iret rfl rfl (Nat.zero_le _) (Nat.zero_le _) rfl k
theorem t_csapp_z {L : Nat} {x v : Int32} {F G : FN} {R : RN} (hend : F 2 2 = nI 0) (hx : x < nI 1) {Q : Option PV → PH → Prop} (k : Q (some (.inl (nI 0))) (hb (sL L) F G R sO)) : pz pP mStream_append [.inr (some 2), .inl x, .inl v] (hb (sL L) F G R sO) Q := by
  show pw pP mStream_append (0, [some (.inr (some (2))), some (.inl (x)), some (.inl (v)), none, none], [], 0, 0, hb (sL L) F G R sO) _
  refine pw_aload_n rfl rfl ?_
  refine px_getv (x := nI (0)) rfl rfl rfl rfl (hend) ?_
  refine pw_if1 (t := 12) rfl rfl (fun q => absurd q (by decide)) (fun _ => ?_)
  refine pw_iload_n rfl rfl ?_
  refine pw_iconst (v := nI (1)) rfl (by decide) ?_
  refine pw_if2p (A := nI (1) ≤ x) rfl rfl (t := 14) rfl (fun q => absurd q (Int32.not_le.mpr hx)) (fun _ => ?_)
  refine pw_iconst (v := nI (0)) rfl (by decide) ?_
  exact pw_iret rfl rfl (Nat.zero_le _) (Nat.zero_le _) rfl k
def arrok (L e : Nat) : Prop := (sL L)[e]? = some (2, 0, [1, 0], 0) ∧ sO e 0 = some (e + 1) ∧ (sL L)[e + 1]? = some (0, 1, [], 402)
theorem arrok_p {L p : Nat} (hp : p < 4) : arrok L (95 + 2 * p) := by
  have h : p = 0 ∨ p = 1 ∨ p = 2 ∨ p = 3 := by omega
  rcases h with rfl | rfl | rfl | rfl <;> exact ⟨rfl, rfl, rfl⟩
/-- Arrivals_took -/
def ctook_r (G : FN) (e u : Nat) : Int32 := (if G (e + 1) (u) = 0 then nI (0) else nI (1))
theorem t_ctook {L e u : Nat} {F G : FN} {R : RN} (hA : arrok L e) (hu : u < 402) {Q : Option PV → PH → Prop} (k : Q (some (.inl (ctook_r G e u))) (hb (sL L) F G R sO)) : pz pP mArrivals_took [.inr (some (e)), .inl (nI (u))] (hb (sL L) F G R sO) Q := by
  show pw pP mArrivals_took (0, [some (.inr (some (e))), some (.inl (nI (u)))], [], 0, 0, hb (sL L) F G R sO) _
  refine pw_iload_n rfl rfl ?_
  refine pw_if1p (cz_lt (by omega)) rfl (t := 20) rfl (fun q => absurd q (by omega)) (fun _ => ?_)
  refine pw_iload_n rfl rfl ?_
  refine pw_sipush (v := nI (402)) rfl (by decide) ?_
  refine pw_if2p (cn_ge (by omega) (by omega)) rfl (t := 20) rfl (fun q => absurd q (by omega)) (fun _ => ?_)
  refine pw_aload_n rfl rfl ?_
  refine px_getr (r := some (e + 1)) rfl rfl hA.1 rfl hA.2.1 ?_
  refine pw_iload_n rfl rfl ?_
  refine px_zaldn (x := G (e + 1) (u)) rfl hA.2.2 (by omega) (by decide) (rfl) ?_
  refine pw_if1p (A := G (e + 1) (u) = 0) rfl rfl (t := 24) rfl (fun c1 => ?_) (fun c1 => ?_)
  · -- 24
    refine pw_iconst (v := nI (0)) rfl (by decide) ?_
    exact pw_iret rfl rfl (Nat.zero_le _) (Nat.zero_le _) rfl (by simp only [ctook_r, c1, if_true, if_false] at k; exact k)
  · -- 20
    refine pw_iconst (v := nI (1)) rfl (by decide) ?_
    refine pw_goto (t := 25) rfl rfl ?_
    exact pw_iret rfl rfl (Nat.zero_le _) (Nat.zero_le _) rfl (by simp only [ctook_r, c1, if_true, if_false] at k; exact k)
def ctk (e a : Nat) : Nat → Nat → FN → FN
  | 0, _, G => G
  | n + 1, j, G => ctk e a n (j + 1) (up2 G (e + 1) j (nI 1))
theorem t_ctake_1 {L e a m : Nat} {F : FN} {R : RN} {Q : Option PV → PH → Prop} (hA : arrok L e) (ham : a + m ≤ 402) : ∀ (n j : Nat) (G : FN), j + n = a + m → pw pP mArrivals_take (29, [some (.inr (some (e))), some (.inl (nI (a))), some (.inl (nI (m))), some (.inl (nI (a + m)))], [], 0, 0, hb (sL L) F (ctk e a n j G) R sO) Q → pw pP mArrivals_take (2, [some (.inr (some (e))), some (.inl (nI (a))), some (.inl (nI (m))), some (.inl (nI (j)))], [], 0, 0, hb (sL L) F G R sO) Q := by
  intro n
  induction n with
  | zero =>
    intro j G hn k
    have e1 : j = a + m := by omega
    subst e1
    refine pw_iload_n rfl rfl ?_
    refine pw_iload_n rfl rfl ?_
    refine pw_iload_n rfl rfl ?_
    refine pw_iadd (z := nI (a + m)) rfl (nI_add _ _) ?_
    refine pw_if2p (cn_ge (by omega) (by omega)) rfl (t := 29) rfl (fun _ => ?_) (fun q => absurd (Nat.le_refl _) q)
    exact k
  | succ n ih =>
    intro j G hn k
    refine pw_iload_n rfl rfl ?_
    refine pw_iload_n rfl rfl ?_
    refine pw_iload_n rfl rfl ?_
    refine pw_iadd (z := nI (a + m)) rfl (nI_add _ _) ?_
    refine pw_if2p (cn_ge (by omega) (by omega)) rfl (t := 29) rfl (fun q => absurd q (by omega)) (fun _ => ?_)
    refine pw_iload_n rfl rfl ?_
    refine pw_sipush (v := nI (402)) rfl (by decide) ?_
    refine pw_if2p (cn_ge (by omega) (by omega)) rfl (t := 29) rfl (fun q => absurd q (by omega)) (fun _ => ?_)
    refine pw_aload_n rfl rfl ?_
    refine px_getr (r := some (e + 1)) rfl rfl hA.1 rfl hA.2.1 ?_
    refine pw_iload_n rfl rfl ?_
    refine pw_iconst (v := nI (1)) rfl (by decide) ?_
    refine px_zastn (x1 := nI (1)) rfl hA.2.2 (by omega) (by decide) (by decide) ?_
    refine pw_iinc (v := nI (j + 1)) (ls1 := [some (.inr (some (e))), some (.inl (nI (a))), some (.inl (nI (m))), some (.inl (nI (j + 1)))]) rfl rfl (iinc_n _) rfl ?_
    refine pw_goto (t := 2) rfl rfl ?_
    exact ih (j + 1) _ (by omega) k
theorem t_ctake_2 {L e a m j : Nat} {G : FN} {R : RN} {Q : Option PV → PH → Prop} (hA : arrok L e) : ∀ (n x : Nat) (F : FN), x + n = 402 → F e 1 = nI x → Q none (hb (sL L) (up2 F e 1 (nI (lead (G (e + 1)) n x))) G R sO) → pw pP mArrivals_take (29, [some (.inr (some (e))), some (.inl (nI (a))), some (.inl (nI (m))), some (.inl (nI (j)))], [], 0, 0, hb (sL L) F G R sO) Q := by
  intro n
  induction n with
  | zero =>
    intro x F hn hx k
    have e1 : x = 402 := by omega
    subst e1
    have eF : up2 F e 1 (nI (lead (G (e + 1)) 0 402)) = F := by
      funext i1 k1
      by_cases h : i1 = e ∧ k1 = 1
      · rw [h.1, h.2, up2_eq, hx]; rfl
      · rw [up2_ne h]
    rw [eF] at k
    refine pw_aload_n rfl rfl ?_
    refine px_getv (x := nI (402)) rfl rfl hA.1 rfl (hx) ?_
    refine pw_sipush (v := nI (402)) rfl (by decide) ?_
    refine pw_if2 (t := 64) rfl rfl (fun _ => ?_) (fun q => absurd q (by decide))
    exact pw_vret rfl rfl (Nat.zero_le _) (Nat.zero_le _) k
  | succ n ih =>
    intro x F hn hx k
    refine pw_aload_n rfl rfl ?_
    refine px_getv (x := nI (x)) rfl rfl hA.1 rfl (hx) ?_
    refine pw_sipush (v := nI (402)) rfl (by decide) ?_
    refine pw_if2p (cn_ge (by omega) (by omega)) rfl (t := 64) rfl (fun q => absurd q (by omega)) (fun _ => ?_)
    refine pw_aload_n rfl rfl ?_
    refine px_getr (r := some (e + 1)) rfl rfl hA.1 rfl hA.2.1 ?_
    refine pw_aload_n rfl rfl ?_
    refine px_getv (x := nI (x)) rfl rfl hA.1 rfl (hx) ?_
    refine px_zaldn (x := G (e + 1) (x)) rfl hA.2.2 (by omega) (by decide) (rfl) ?_
    refine pw_if1p (A := G (e + 1) (x) = 0) rfl rfl (t := 64) rfl (fun c1 => ?_) (fun c1 => ?_)
    · -- 64
      have eF : up2 F e 1 (nI (lead (G (e + 1)) (n + 1) x)) = F := by
        rw [lead_z c1]
        funext i1 k1
        by_cases h : i1 = e ∧ k1 = 1
        · rw [h.1, h.2, up2_eq, hx]
        · rw [up2_ne h]
      rw [eF] at k
      exact pw_vret rfl rfl (Nat.zero_le _) (Nat.zero_le _) k
    · -- 51
      refine pw_aload_n rfl rfl ?_
      refine pw_dup rfl ?_
      refine px_getv (x := nI (x)) rfl rfl hA.1 rfl (hx) ?_
      refine pw_iconst (v := nI (1)) rfl (by decide) ?_
      refine pw_iadd (z := nI (x + 1)) rfl (nI_add _ _) ?_
      refine px_put rfl rfl hA.1 rfl rfl ?_
      refine pw_goto (t := 29) rfl rfl ?_
      refine ih (x + 1) _ (by omega) up2_eq ?_
      rw [lead_s c1] at k
      have eF : up2 (up2 F e 1 (nI (x + 1))) e 1 (nI (lead (G (e + 1)) n (x + 1))) = up2 F e 1 (nI (lead (G (e + 1)) n (x + 1))) := by
        funext i1 k1
        by_cases h : i1 = e ∧ k1 = 1
        · rw [h.1, h.2, up2_eq, up2_eq]
        · rw [up2_ne h, up2_ne h, up2_ne h]
      rw [eF]
      exact k
def ctake_G (G : FN) (e a m : Nat) : FN := ctk e a m a G
def ctake_F (F G : FN) (e a m x : Nat) : FN := up2 F e 1 (nI (lead (ctk e a m a G (e + 1)) (402 - x) x))
theorem t_ctake {L e a m x : Nat} {F G : FN} {R : RN} (hA : arrok L e) (ham : a + m ≤ 402) (hx : F e 1 = nI x) (hx4 : x ≤ 402) {Q : Option PV → PH → Prop} (k : Q none (hb (sL L) (ctake_F F G e a m x) (ctake_G G e a m) R sO)) : pz pP mArrivals_take [.inr (some e), .inl (nI a), .inl (nI m)] (hb (sL L) F G R sO) Q := by
  show pw pP mArrivals_take (0, [some (.inr (some (e))), some (.inl (nI (a))), some (.inl (nI (m))), none], [], 0, 0, hb (sL L) F G R sO) _
  refine pw_iload_n rfl rfl ?_
  refine pw_istore_n (ls1 := [some (.inr (some (e))), some (.inl (nI (a))), some (.inl (nI (m))), some (.inl (nI (a)))]) rfl (Nat.le_of_ble_eq_true rfl) rfl ?_
  refine t_ctake_1 hA ham m a G (by omega) ?_
  exact t_ctake_2 hA (402 - x) x F (by omega) hx k
/-- a path stands at a -/
def pathok (L a : Nat) (R : RN) : Prop := (sL L)[a]? = some (2, 4, [1, 1, 1, 0, 0, 0, 0, 0, 0, 0, 0, 0, 0, 0], 0) ∧ (sO a 0 = some (a + 1) ∧ sO a 1 = some (a + 9) ∧ sO a 2 = some (a + 17)) ∧ pipeok L (a + 1) R ∧ pipeok L (a + 9) R ∧ (sL L)[a + 17]? = some (1, 6, [], 3) ∧ ∀ k, k < 3 → ∃ x, R (a + 17) k = some x ∧ (sL L)[x]? = some (2, 6, [0, 0, 0, 0, 0, 0], 0)
/-- Path_pipe -/
def cpipe0_r (a : Nat) : Option Nat := some (a + 1)
theorem t_cpipe0 {L a : Nat} {F G : FN} {R : RN} (hP : pathok L a R) {Q : Option PV → PH → Prop} (k : Q (some (.inr (cpipe0_r a))) (hb (sL L) F G R sO)) : pz pP mPath_pipe [.inr (some (a)), .inl (nI (0))] (hb (sL L) F G R sO) Q := by
  show pw pP mPath_pipe (0, [some (.inr (some (a))), some (.inl (nI (0)))], [], 0, 0, hb (sL L) F G R sO) _
  refine pw_iload_n rfl rfl ?_
  refine pw_if1 (t := 11) rfl rfl (fun _ => ?_) (fun q => absurd q (by decide))
  refine pw_aload_n rfl rfl ?_
  refine px_getr (r := some (a + 1)) rfl rfl hP.1 rfl hP.2.1.1 ?_
  exact pw_aret rfl rfl (Nat.zero_le _) (Nat.zero_le _) rfl k
/-- Path_pipe -/
def cpipe1_r (a : Nat) : Option Nat := some (a + 9)
theorem t_cpipe1 {L a : Nat} {F G : FN} {R : RN} (hP : pathok L a R) {Q : Option PV → PH → Prop} (k : Q (some (.inr (cpipe1_r a))) (hb (sL L) F G R sO)) : pz pP mPath_pipe [.inr (some (a)), .inl (nI (1))] (hb (sL L) F G R sO) Q := by
  show pw pP mPath_pipe (0, [some (.inr (some (a))), some (.inl (nI (1)))], [], 0, 0, hb (sL L) F G R sO) _
  refine pw_iload_n rfl rfl ?_
  refine pw_if1 (t := 11) rfl rfl (fun q => absurd q (by decide)) (fun _ => ?_)
  refine pw_aload_n rfl rfl ?_
  refine px_getr (r := some (a + 9)) rfl rfl hP.1 rfl hP.2.1.2.1 ?_
  refine pw_goto (t := 15) rfl rfl ?_
  exact pw_aret rfl rfl (Nat.zero_le _) (Nat.zero_le _) rfl k
theorem t_cdisp0_0 {L a : Nat} {t : Int32} {F G : FN} {R : RN} (hP : pathok L a R) (hd : F a 6 = 0) {Q : Option PV → PH → Prop} (k : Q (some (.inr none)) (hb (sL L) F G R sO)) : pz pP mPath_dispatch [.inr (some a), .inl (nI 0), .inl t] (hb (sL L) F G R sO) Q := by
  show pw pP mPath_dispatch (0, [some (.inr (some (a))), some (.inl (nI (0))), some (.inl (t))], [], 0, 0, hb (sL L) F G R sO) _
  refine pw_aload_n rfl rfl ?_
  refine px_getv (x := F (a) (6)) rfl rfl hP.1 rfl (rfl) ?_
  refine pw_if1p (A := ¬ F (a) (6) = 0) rfl rfl (t := 11) rfl (fun q => absurd q (fun h => h hd)) (fun _ => ?_)
  refine pw_null rfl ?_
  refine pw_goto (t := 25) rfl rfl ?_
  exact pw_aret rfl rfl (Nat.zero_le _) (Nat.zero_le _) rfl k
theorem t_cdisp0_6 {L a : Nat} {t : Int32} {F G : FN} {R : RN} (hP : pathok L a R) (hd : ¬ F a 6 = 0) (hsz : F (a + 1) 1 = nI 6) {Q : Option PV → PH → Prop} (k : Q (some (.inr none)) (hb (sL L) F G R sO)) : pz pP mPath_dispatch [.inr (some a), .inl (nI 0), .inl t] (hb (sL L) F G R sO) Q := by
  show pw pP mPath_dispatch (0, [some (.inr (some (a))), some (.inl (nI (0))), some (.inl (t))], [], 0, 0, hb (sL L) F G R sO) _
  refine pw_aload_n rfl rfl ?_
  refine px_getv (x := F (a) (6)) rfl rfl hP.1 rfl (rfl) ?_
  refine pw_if1p (A := ¬ F (a) (6) = 0) rfl rfl (t := 11) rfl (fun _ => ?_) (fun q => absurd hd q)
  refine pw_aload_n rfl rfl ?_
  refine pw_iload_n rfl rfl ?_
  refine px_callv (as := [.inr (some (a)), .inl (nI (0))]) (rest := []) rfl rfl (by decide) rfl (Nat.le_of_ble_eq_true rfl) (Nat.le_of_ble_eq_true rfl) (Nat.le_of_ble_eq_true rfl) (Nat.le_of_ble_eq_true rfl) rfl hP.1 rfl rfl ?_
  refine t_cpipe0 hP ?_
  show pw pP mPath_dispatch (16, [some (.inr (some (a))), some (.inl (nI (0))), some (.inl (t))], [.inr (some (a + 1))], 0, 0, hb (sL L) F G R sO) _
  refine pw_iload_n rfl rfl ?_
  refine pw_aload_n rfl rfl ?_
  refine px_getv (x := F (a) (6)) rfl rfl hP.1 rfl (rfl) ?_
  refine pw_iadd (z := t + (F (a) (6))) rfl rfl ?_
  refine px_callv (as := [.inr (some (a + 1)), .inl (t + (F (a) (6)))]) (rest := []) rfl rfl (by decide) rfl (Nat.le_of_ble_eq_true rfl) (Nat.le_of_ble_eq_true rfl) (Nat.le_of_ble_eq_true rfl) (Nat.le_of_ble_eq_true rfl) rfl hP.2.2.1.1 rfl rfl ?_
  refine t_append_no hP.2.2.1 hsz ?_
  show pw pP mPath_dispatch (25, [some (.inr (some (a))), some (.inl (nI (0))), some (.inl (t))], [.inr none], 0, 0, hb (sL L) F G R sO) _
  exact pw_aret rfl rfl (Nat.zero_le _) (Nat.zero_le _) rfl k
theorem t_cdisp0 {L a sz x : Nat} {t : Int32} {F G : FN} {R : RN} (hP : pathok L a R) (hd : ¬ F a 6 = 0) (hsz : F (a + 1) 1 = nI sz) (hs6 : sz < 6) (hx : R (a + 1 + 1) sz = some x) (hsx : (sL L)[x]? = some (2, 1, [0, 0, 0, 0, 0, 0], 0)) {Q : Option PV → PH → Prop} (k : Q (some (.inr (some x))) (hb (sL L) (append_F F (a + 1) x sz (t + F a 6)) G R sO)) : pz pP mPath_dispatch [.inr (some a), .inl (nI 0), .inl t] (hb (sL L) F G R sO) Q := by
  show pw pP mPath_dispatch (0, [some (.inr (some (a))), some (.inl (nI (0))), some (.inl (t))], [], 0, 0, hb (sL L) F G R sO) _
  refine pw_aload_n rfl rfl ?_
  refine px_getv (x := F (a) (6)) rfl rfl hP.1 rfl (rfl) ?_
  refine pw_if1p (A := ¬ F (a) (6) = 0) rfl rfl (t := 11) rfl (fun _ => ?_) (fun q => absurd hd q)
  refine pw_aload_n rfl rfl ?_
  refine pw_iload_n rfl rfl ?_
  refine px_callv (as := [.inr (some (a)), .inl (nI (0))]) (rest := []) rfl rfl (by decide) rfl (Nat.le_of_ble_eq_true rfl) (Nat.le_of_ble_eq_true rfl) (Nat.le_of_ble_eq_true rfl) (Nat.le_of_ble_eq_true rfl) rfl hP.1 rfl rfl ?_
  refine t_cpipe0 hP ?_
  show pw pP mPath_dispatch (16, [some (.inr (some (a))), some (.inl (nI (0))), some (.inl (t))], [.inr (some (a + 1))], 0, 0, hb (sL L) F G R sO) _
  refine pw_iload_n rfl rfl ?_
  refine pw_aload_n rfl rfl ?_
  refine px_getv (x := F (a) (6)) rfl rfl hP.1 rfl (rfl) ?_
  refine pw_iadd (z := t + (F (a) (6))) rfl rfl ?_
  refine px_callv (as := [.inr (some (a + 1)), .inl (t + (F (a) (6)))]) (rest := []) rfl rfl (by decide) rfl (Nat.le_of_ble_eq_true rfl) (Nat.le_of_ble_eq_true rfl) (Nat.le_of_ble_eq_true rfl) (Nat.le_of_ble_eq_true rfl) rfl hP.2.2.1.1 rfl rfl ?_
  refine t_append hP.2.2.1 hsz hs6 hx hsx ?_
  show pw pP mPath_dispatch (25, [some (.inr (some (a))), some (.inl (nI (0))), some (.inl (t))], [.inr (some (x))], 0, 0, hb (sL L) (append_F F (a + 1) x sz (t + F a 6)) G R sO) _
  exact pw_aret rfl rfl (Nat.zero_le _) (Nat.zero_le _) rfl k
theorem t_cdisp1_0 {L a : Nat} {t : Int32} {F G : FN} {R : RN} (hP : pathok L a R) (hd : F a 6 = 0) {Q : Option PV → PH → Prop} (k : Q (some (.inr none)) (hb (sL L) F G R sO)) : pz pP mPath_dispatch [.inr (some a), .inl (nI 1), .inl t] (hb (sL L) F G R sO) Q := by
  show pw pP mPath_dispatch (0, [some (.inr (some (a))), some (.inl (nI (1))), some (.inl (t))], [], 0, 0, hb (sL L) F G R sO) _
  refine pw_aload_n rfl rfl ?_
  refine px_getv (x := F (a) (6)) rfl rfl hP.1 rfl (rfl) ?_
  refine pw_if1p (A := ¬ F (a) (6) = 0) rfl rfl (t := 11) rfl (fun q => absurd q (fun h => h hd)) (fun _ => ?_)
  refine pw_null rfl ?_
  refine pw_goto (t := 25) rfl rfl ?_
  exact pw_aret rfl rfl (Nat.zero_le _) (Nat.zero_le _) rfl k
theorem t_cdisp1_6 {L a : Nat} {t : Int32} {F G : FN} {R : RN} (hP : pathok L a R) (hd : ¬ F a 6 = 0) (hsz : F (a + 9) 1 = nI 6) {Q : Option PV → PH → Prop} (k : Q (some (.inr none)) (hb (sL L) F G R sO)) : pz pP mPath_dispatch [.inr (some a), .inl (nI 1), .inl t] (hb (sL L) F G R sO) Q := by
  show pw pP mPath_dispatch (0, [some (.inr (some (a))), some (.inl (nI (1))), some (.inl (t))], [], 0, 0, hb (sL L) F G R sO) _
  refine pw_aload_n rfl rfl ?_
  refine px_getv (x := F (a) (6)) rfl rfl hP.1 rfl (rfl) ?_
  refine pw_if1p (A := ¬ F (a) (6) = 0) rfl rfl (t := 11) rfl (fun _ => ?_) (fun q => absurd hd q)
  refine pw_aload_n rfl rfl ?_
  refine pw_iload_n rfl rfl ?_
  refine px_callv (as := [.inr (some (a)), .inl (nI (1))]) (rest := []) rfl rfl (by decide) rfl (Nat.le_of_ble_eq_true rfl) (Nat.le_of_ble_eq_true rfl) (Nat.le_of_ble_eq_true rfl) (Nat.le_of_ble_eq_true rfl) rfl hP.1 rfl rfl ?_
  refine t_cpipe1 hP ?_
  show pw pP mPath_dispatch (16, [some (.inr (some (a))), some (.inl (nI (1))), some (.inl (t))], [.inr (some (a + 9))], 0, 0, hb (sL L) F G R sO) _
  refine pw_iload_n rfl rfl ?_
  refine pw_aload_n rfl rfl ?_
  refine px_getv (x := F (a) (6)) rfl rfl hP.1 rfl (rfl) ?_
  refine pw_iadd (z := t + (F (a) (6))) rfl rfl ?_
  refine px_callv (as := [.inr (some (a + 9)), .inl (t + (F (a) (6)))]) (rest := []) rfl rfl (by decide) rfl (Nat.le_of_ble_eq_true rfl) (Nat.le_of_ble_eq_true rfl) (Nat.le_of_ble_eq_true rfl) (Nat.le_of_ble_eq_true rfl) rfl hP.2.2.2.1.1 rfl rfl ?_
  refine t_append_no hP.2.2.2.1 hsz ?_
  show pw pP mPath_dispatch (25, [some (.inr (some (a))), some (.inl (nI (1))), some (.inl (t))], [.inr none], 0, 0, hb (sL L) F G R sO) _
  exact pw_aret rfl rfl (Nat.zero_le _) (Nat.zero_le _) rfl k
theorem t_cdisp1 {L a sz x : Nat} {t : Int32} {F G : FN} {R : RN} (hP : pathok L a R) (hd : ¬ F a 6 = 0) (hsz : F (a + 9) 1 = nI sz) (hs6 : sz < 6) (hx : R (a + 9 + 1) sz = some x) (hsx : (sL L)[x]? = some (2, 1, [0, 0, 0, 0, 0, 0], 0)) {Q : Option PV → PH → Prop} (k : Q (some (.inr (some x))) (hb (sL L) (append_F F (a + 9) x sz (t + F a 6)) G R sO)) : pz pP mPath_dispatch [.inr (some a), .inl (nI 1), .inl t] (hb (sL L) F G R sO) Q := by
  show pw pP mPath_dispatch (0, [some (.inr (some (a))), some (.inl (nI (1))), some (.inl (t))], [], 0, 0, hb (sL L) F G R sO) _
  refine pw_aload_n rfl rfl ?_
  refine px_getv (x := F (a) (6)) rfl rfl hP.1 rfl (rfl) ?_
  refine pw_if1p (A := ¬ F (a) (6) = 0) rfl rfl (t := 11) rfl (fun _ => ?_) (fun q => absurd hd q)
  refine pw_aload_n rfl rfl ?_
  refine pw_iload_n rfl rfl ?_
  refine px_callv (as := [.inr (some (a)), .inl (nI (1))]) (rest := []) rfl rfl (by decide) rfl (Nat.le_of_ble_eq_true rfl) (Nat.le_of_ble_eq_true rfl) (Nat.le_of_ble_eq_true rfl) (Nat.le_of_ble_eq_true rfl) rfl hP.1 rfl rfl ?_
  refine t_cpipe1 hP ?_
  show pw pP mPath_dispatch (16, [some (.inr (some (a))), some (.inl (nI (1))), some (.inl (t))], [.inr (some (a + 9))], 0, 0, hb (sL L) F G R sO) _
  refine pw_iload_n rfl rfl ?_
  refine pw_aload_n rfl rfl ?_
  refine px_getv (x := F (a) (6)) rfl rfl hP.1 rfl (rfl) ?_
  refine pw_iadd (z := t + (F (a) (6))) rfl rfl ?_
  refine px_callv (as := [.inr (some (a + 9)), .inl (t + (F (a) (6)))]) (rest := []) rfl rfl (by decide) rfl (Nat.le_of_ble_eq_true rfl) (Nat.le_of_ble_eq_true rfl) (Nat.le_of_ble_eq_true rfl) (Nat.le_of_ble_eq_true rfl) rfl hP.2.2.2.1.1 rfl rfl ?_
  refine t_append hP.2.2.2.1 hsz hs6 hx hsx ?_
  show pw pP mPath_dispatch (25, [some (.inr (some (a))), some (.inl (nI (1))), some (.inl (t))], [.inr (some (x))], 0, 0, hb (sL L) (append_F F (a + 9) x sz (t + F a 6)) G R sO) _
  exact pw_aret rfl rfl (Nat.zero_le _) (Nat.zero_le _) rfl k
/-- Path_hasRoom -/
def croom_r (sc : Nat) : Int32 := (if 3 ≤ sc then nI (0) else nI (1))
theorem t_croom {L a sc : Nat} {F G : FN} {R : RN} (hP : pathok L a R) (hsc : F a 3 = nI sc) (hs3 : sc ≤ 3) {Q : Option PV → PH → Prop} (k : Q (some (.inl (croom_r sc))) (hb (sL L) F G R sO)) : pz pP mPath_hasRoom [.inr (some (a))] (hb (sL L) F G R sO) Q := by
  show pw pP mPath_hasRoom (0, [some (.inr (some (a)))], [], 0, 0, hb (sL L) F G R sO) _
  refine pw_aload_n rfl rfl ?_
  refine px_getv (x := nI (sc)) rfl rfl hP.1 rfl (hsc) ?_
  refine pw_iconst (v := nI (3)) rfl (by decide) ?_
  refine pw_if2p (cn_ge (by omega) (by omega)) rfl (t := 12) rfl (fun c1 => ?_) (fun c1 => ?_)
  · -- 12
    refine pw_iconst (v := nI (0)) rfl (by decide) ?_
    exact pw_iret rfl rfl (Nat.zero_le _) (Nat.zero_le _) rfl (by simp only [croom_r, c1, if_true, if_false] at k; exact k)
  · -- 8
    refine pw_iconst (v := nI (1)) rfl (by decide) ?_
    refine pw_goto (t := 13) rfl rfl ?_
    exact pw_iret rfl rfl (Nat.zero_le _) (Nat.zero_le _) rfl (by simp only [croom_r, c1, if_true, if_false] at k; exact k)
/-- Path_hasRoom -/
def croomy_r (sc : Nat) : Int32 := nI (1)
theorem t_croomy {L a sc : Nat} {F G : FN} {R : RN} (hP : pathok L a R) (hsc : F a 3 = nI sc) (hs3 : sc < 3) {Q : Option PV → PH → Prop} (k : Q (some (.inl (croomy_r sc))) (hb (sL L) F G R sO)) : pz pP mPath_hasRoom [.inr (some (a))] (hb (sL L) F G R sO) Q := by
  show pw pP mPath_hasRoom (0, [some (.inr (some (a)))], [], 0, 0, hb (sL L) F G R sO) _
  refine pw_aload_n rfl rfl ?_
  refine px_getv (x := nI (sc)) rfl rfl hP.1 rfl (hsc) ?_
  refine pw_iconst (v := nI (3)) rfl (by decide) ?_
  refine pw_if2p (cn_ge (by omega) (by omega)) rfl (t := 12) rfl (fun q => absurd q (by omega)) (fun _ => ?_)
  refine pw_iconst (v := nI (1)) rfl (by decide) ?_
  refine pw_goto (t := 13) rfl rfl ?_
  exact pw_iret rfl rfl (Nat.zero_le _) (Nat.zero_le _) rfl k
/-- Path_addSegment -/
def cadd_r (F : FN) (a x sc hi m u un : Nat) : Option Nat := some (x)
/-- Path_addSegment -/
def cadd_F (F : FN) (a x sc hi m u un : Nat) : FN := (up2 (up2 (up2 (up2 (up2 (up2 (up2 F (x) (0) (nI (hi))) (x) (1) (nI (m))) (x) (2) (nI (u))) (x) (3) (nI (un))) (x) (5) (nI (0))) (a) (3) (nI (sc + 1))) (a) (4) (nI (hi + m)))
theorem t_cadd {L a sc hi x m u un : Nat} {F G : FN} {R : RN} (hP : pathok L a R) (hsc : F a 3 = nI sc) (hs3 : sc < 3) (hhi : F a 4 = nI hi) (hx : R (a + 17) sc = some x) (hsx : (sL L)[x]? = some (2, 6, [0, 0, 0, 0, 0, 0], 0)) (hxr : a + 18 ≤ x ∧ x ≤ a + 20) {Q : Option PV → PH → Prop} (k : Q (some (.inr (cadd_r F a x sc hi m u un))) (hb (sL L) (cadd_F F a x sc hi m u un) G R sO)) : pz pP mPath_addSegment [.inr (some (a)), .inl (nI (m)), .inl (nI (u)), .inl (nI (un))] (hb (sL L) F G R sO) Q := by
  show pw pP mPath_addSegment (0, [some (.inr (some (a))), some (.inl (nI (m))), some (.inl (nI (u))), some (.inl (nI (un))), none], [], 0, 0, hb (sL L) F G R sO) _
  refine pw_aload_n rfl rfl ?_
  refine px_callv (as := [.inr (some (a))]) (rest := []) rfl rfl (by decide) rfl (Nat.le_of_ble_eq_true rfl) (Nat.le_of_ble_eq_true rfl) (Nat.le_of_ble_eq_true rfl) (Nat.le_of_ble_eq_true rfl) rfl hP.1 rfl rfl ?_
  refine t_croomy hP hsc hs3 ?_
  show pw pP mPath_addSegment (4, [some (.inr (some (a))), some (.inl (nI (m))), some (.inl (nI (u))), some (.inl (nI (un))), none], [.inl (nI (1))], 0, 0, hb (sL L) F G R sO) _
  refine pw_if1 (t := 9) rfl rfl (fun _ => ?_) (fun q => absurd q (by decide))
  refine pw_aload_n rfl rfl ?_
  refine px_getr (r := some (a + 17)) rfl rfl hP.1 rfl hP.2.1.2.2 ?_
  refine pw_aload_n rfl rfl ?_
  refine px_getv (x := nI (sc)) rfl rfl hP.1 rfl (hsc) ?_
  refine px_aaldn (r := (some (x))) rfl hP.2.2.2.2.1 rfl (by omega) (by decide) (hx) ?_
  refine pw_astore (ls1 := [some (.inr (some (a))), some (.inl (nI (m))), some (.inl (nI (u))), some (.inl (nI (un))), some (.inr (some (x)))]) rfl (Nat.le_of_ble_eq_true rfl) rfl ?_
  refine pw_aload rfl rfl ?_
  refine pw_aload_n rfl rfl ?_
  refine px_getv (x := nI (hi)) rfl rfl hP.1 rfl (hhi) ?_
  refine pw_iload_n rfl rfl ?_
  refine pw_iload_n rfl rfl ?_
  refine pw_iload_n rfl rfl ?_
  refine px_callv (as := [.inr (some (x)), .inl (nI (hi)), .inl (nI (m)), .inl (nI (u)), .inl (nI (un))]) (rest := []) rfl rfl (by decide) rfl (Nat.le_of_ble_eq_true rfl) (Nat.le_of_ble_eq_true rfl) (Nat.le_of_ble_eq_true rfl) (Nat.le_of_ble_eq_true rfl) rfl hsx rfl rfl ?_
  refine t_sfill hsx ?_
  show pw pP mPath_addSegment (32, [some (.inr (some (a))), some (.inl (nI (m))), some (.inl (nI (u))), some (.inl (nI (un))), some (.inr (some (x)))], [], 0, 0, hb (sL L) (up2 (up2 (up2 (up2 (up2 F (x) (0) (nI (hi))) (x) (1) (nI (m))) (x) (2) (nI (u))) (x) (3) (nI (un))) (x) (5) (nI (0))) G R sO) _
  refine pw_aload_n rfl rfl ?_
  refine pw_dup rfl ?_
  refine px_getv (x := nI (sc)) rfl rfl hP.1 rfl (((up2_ne (by omega)).trans ((up2_ne (by omega)).trans ((up2_ne (by omega)).trans ((up2_ne (by omega)).trans (up2_ne (by omega)))))).trans (hsc)) ?_
  refine pw_iconst (v := nI (1)) rfl (by decide) ?_
  refine pw_iadd (z := nI (sc + 1)) rfl (nI_add _ _) ?_
  refine px_put rfl rfl hP.1 rfl rfl ?_
  refine pw_aload_n rfl rfl ?_
  refine pw_dup rfl ?_
  refine px_getv (x := nI (hi)) rfl rfl hP.1 rfl (((up2_ne2 (by decide)).trans ((up2_ne (by omega)).trans ((up2_ne (by omega)).trans ((up2_ne (by omega)).trans ((up2_ne (by omega)).trans (up2_ne (by omega))))))).trans (hhi)) ?_
  refine pw_iload_n rfl rfl ?_
  refine pw_iadd (z := nI (hi + m)) rfl (nI_add _ _) ?_
  refine px_put rfl rfl hP.1 rfl rfl ?_
  refine pw_aload rfl rfl ?_
  exact pw_aret rfl rfl (Nat.zero_le _) (Nat.zero_le _) rfl k
def sro (a : Nat) : Nat → Nat → RN → RN
  | 0, _, R => R
  | n + 1, j, R => sro a n (j + 1) (up2 R (a + 17) (j - 1) (R (a + 17) j))
theorem pathok_up {L a j x : Nat} {R : RN} (h : pathok L a R) (hx : (sL L)[x]? = some (2, 6, [0, 0, 0, 0, 0, 0], 0)) : pathok L a (up2 R (a + 17) j (some x)) := by
  refine ⟨h.1, h.2.1, ⟨h.2.2.1.1, h.2.2.1.2.1, h.2.2.1.2.2.1, fun k hk => ?_⟩, ⟨h.2.2.2.1.1, h.2.2.2.1.2.1, h.2.2.2.1.2.2.1, fun k hk => ?_⟩, h.2.2.2.2.1, fun k hk => ?_⟩
  · obtain ⟨y, h1, h2⟩ := h.2.2.1.2.2.2 k hk
    exact ⟨y, (up2_ne1 (by omega)).trans h1, h2⟩
  · obtain ⟨y, h1, h2⟩ := h.2.2.2.1.2.2.2 k hk
    exact ⟨y, (up2_ne1 (by omega)).trans h1, h2⟩
  · by_cases e1 : k = j
    · subst e1
      exact ⟨x, up2_eq, hx⟩
    · obtain ⟨y, h1, h2⟩ := h.2.2.2.2.2 k hk
      exact ⟨y, (up2_ne2 e1).trans h1, h2⟩
theorem sro_ok {L a : Nat} : ∀ (n j : Nat) (R : RN), j + n ≤ 3 → pathok L a R → pathok L a (sro a n j R)
  | 0, _, _, _, h => h
  | n + 1, j, R, hn, h => by
    obtain ⟨x, h1, h2⟩ := h.2.2.2.2.2 j (by omega)
    refine sro_ok n (j + 1) _ (by omega) ?_
    rw [h1]
    exact pathok_up h h2
theorem t_cbel_lp {L a sc x0 : Nat} {lm : Int32} {F G : FN} {Q : Option PV → PH → Prop} (hsc : F a 3 = nI sc) (hs3 : sc ≤ 3) : ∀ (n j : Nat) (R : RN), j + n = sc → 1 ≤ j → pathok L a R → pw pP mPath_takeBelow (69, [some (.inr (some (a))), some (.inl (lm)), some (.inr (some (x0))), some (.inl (nI (sc)))], [], 0, 0, hb (sL L) F G (sro a n j R) sO) Q → pw pP mPath_takeBelow (41, [some (.inr (some (a))), some (.inl (lm)), some (.inr (some (x0))), some (.inl (nI (j)))], [], 0, 0, hb (sL L) F G R sO) Q := by
  intro n
  induction n with
  | zero =>
    intro j R hn hj hP k
    have e1 : sc = j := by omega
    subst e1
    refine pw_iload_n rfl rfl ?_
    refine pw_aload_n rfl rfl ?_
    refine px_getv (x := nI (sc)) rfl rfl hP.1 rfl (hsc) ?_
    refine pw_if2p (cn_ge (by omega) (by omega)) rfl (t := 69) rfl (fun c1 => ?_) (fun c1 => ?_)
    · -- 69
      exact k
    · -- 49
      exact absurd c1 (by omega)
  | succ n ih =>
    intro j R hn hj hP k
    obtain ⟨x, hx, hsx⟩ := hP.2.2.2.2.2 j (by omega)
    refine pw_iload_n rfl rfl ?_
    refine pw_aload_n rfl rfl ?_
    refine px_getv (x := nI (sc)) rfl rfl hP.1 rfl (hsc) ?_
    refine pw_if2p (cn_ge (by omega) (by omega)) rfl (t := 69) rfl (fun c1 => ?_) (fun c1 => ?_)
    · -- 69
      exact absurd c1 (by omega)
    · -- 49
      refine pw_aload_n rfl rfl ?_
      refine px_getr (r := some (a + 17)) rfl rfl hP.1 rfl hP.2.1.2.2 ?_
      refine pw_iload_n rfl rfl ?_
      refine pw_iconst (v := nI (1)) rfl (by decide) ?_
      refine pw_isub (z := nI (j - 1)) rfl (pk_sub (by omega)) ?_
      refine pw_aload_n rfl rfl ?_
      refine px_getr (r := some (a + 17)) rfl rfl hP.1 rfl hP.2.1.2.2 ?_
      refine pw_iload_n rfl rfl ?_
      refine px_aaldn (r := (some (x))) rfl hP.2.2.2.2.1 rfl (by omega) (by decide) (hx) ?_
      refine px_aastn rfl hP.2.2.2.2.1 hsx rfl (by omega) (by decide) ?_
      refine pw_iinc (v := nI (j + 1)) (ls1 := [some (.inr (some (a))), some (.inl (lm)), some (.inr (some (x0))), some (.inl (nI (j + 1)))]) rfl rfl (iinc_n _) rfl ?_
      refine pw_goto (t := 41) rfl rfl ?_
      exact ih (j + 1) _ (by omega) (by omega) (pathok_up hP hsx) (by simp only [sro, hx] at k; exact k)
def cbel_F (F : FN) (a sc : Nat) : FN := up2 F a 3 (nI (sc - 1))
def cbel_R (R : RN) (a sc x0 : Nat) : RN := up2 (sro a (sc - 1) 1 R) (a + 17) (sc - 1) (some x0)
theorem t_cbel {L a sc x0 nu m : Nat} {F G : FN} {R : RN} (hP : pathok L a R) (hsc : F a 3 = nI sc) (hs3 : sc ≤ 3) (hc : 0 < sc) (hx0 : R (a + 17) 0 = some x0) (hs0 : (sL L)[x0]? = some (2, 6, [0, 0, 0, 0, 0, 0], 0)) (hn0 : F x0 0 = nI nu) (hm0 : F x0 1 = nI m) (hb0 : nu + m < 2 ^ 30) {lm : Nat} (hlm : lm < 2 ^ 30) (hle : nu + m ≤ lm) {Q : Option PV → PH → Prop} (k : Q (some (.inr (some x0))) (hb (sL L) (cbel_F F a sc) G (cbel_R R a sc x0) sO)) : pz pP mPath_takeBelow [.inr (some a), .inl (nI lm)] (hb (sL L) F G R sO) Q := by
  show pw pP mPath_takeBelow (0, [some (.inr (some (a))), some (.inl (nI (lm))), none, none], [], 0, 0, hb (sL L) F G R sO) _
  refine pw_aload_n rfl rfl ?_
  refine px_getv (x := nI (sc)) rfl rfl hP.1 rfl (hsc) ?_
  refine pw_if1p (cz_eq (by omega)) rfl (t := 30) rfl (fun q => absurd q (by omega)) (fun _ => ?_)
  refine pw_aload_n rfl rfl ?_
  refine px_getr (r := some (a + 17)) rfl rfl hP.1 rfl hP.2.1.2.2 ?_
  refine pw_iconst (v := nI (0)) rfl (by decide) ?_
  refine px_aaldn (r := (some (x0))) rfl hP.2.2.2.2.1 rfl (by omega) (by decide) (hx0) ?_
  refine px_getv (x := nI (nu)) rfl rfl hs0 rfl (hn0) ?_
  refine pw_aload_n rfl rfl ?_
  refine px_getr (r := some (a + 17)) rfl rfl hP.1 rfl hP.2.1.2.2 ?_
  refine pw_iconst (v := nI (0)) rfl (by decide) ?_
  refine px_aaldn (r := (some (x0))) rfl hP.2.2.2.2.1 rfl (by omega) (by decide) (hx0) ?_
  refine px_getv (x := nI (m)) rfl rfl hs0 rfl (hm0) ?_
  refine pw_iadd (z := nI (nu + m)) rfl (nI_add _ _) ?_
  refine pw_iload_n rfl rfl ?_
  refine pw_if2p (cn_le (by omega) (by omega)) rfl (t := 32) rfl (fun _ => ?_) (fun q => absurd hle q)
  refine pw_aload_n rfl rfl ?_
  refine px_getr (r := some (a + 17)) rfl rfl hP.1 rfl hP.2.1.2.2 ?_
  refine pw_iconst (v := nI (0)) rfl (by decide) ?_
  refine px_aaldn (r := (some (x0))) rfl hP.2.2.2.2.1 rfl (by omega) (by decide) (hx0) ?_
  refine pw_astore_n (ls1 := [some (.inr (some (a))), some (.inl (nI (lm))), some (.inr (some (x0))), none]) rfl (Nat.le_of_ble_eq_true rfl) rfl ?_
  refine pw_iconst (v := nI (1)) rfl (by decide) ?_
  refine pw_istore_n (ls1 := [some (.inr (some (a))), some (.inl (nI (lm))), some (.inr (some (x0))), some (.inl (nI (1)))]) rfl (Nat.le_of_ble_eq_true rfl) rfl ?_
  refine t_cbel_lp hsc hs3 (sc - 1) 1 R (by omega) (by omega) hP ?_
  have hP := sro_ok (sc - 1) 1 R (by omega) hP
  refine pw_aload_n rfl rfl ?_
  refine pw_dup rfl ?_
  refine px_getv (x := nI (sc)) rfl rfl hP.1 rfl (hsc) ?_
  refine pw_iconst (v := nI (1)) rfl (by decide) ?_
  refine pw_isub (z := nI (sc - 1)) rfl (pk_sub (by omega)) ?_
  refine px_put rfl rfl hP.1 rfl rfl ?_
  refine pw_aload_n rfl rfl ?_
  refine px_getr (r := some (a + 17)) rfl rfl hP.1 rfl hP.2.1.2.2 ?_
  refine pw_aload_n rfl rfl ?_
  refine px_getv (x := nI (sc - 1)) rfl rfl hP.1 rfl (up2_eq) ?_
  refine pw_aload_n rfl rfl ?_
  refine px_aastn rfl hP.2.2.2.2.1 hs0 rfl (by omega) (by decide) ?_
  refine pw_aload_n rfl rfl ?_
  exact pw_aret rfl rfl (Nat.zero_le _) (Nat.zero_le _) rfl k
theorem t_cbel_no {L a sc x0 nu m : Nat} {F G : FN} {R : RN} (hP : pathok L a R) (hsc : F a 3 = nI sc) (hs3 : sc ≤ 3) (hc : 0 < sc) (hx0 : R (a + 17) 0 = some x0) (hs0 : (sL L)[x0]? = some (2, 6, [0, 0, 0, 0, 0, 0], 0)) (hn0 : F x0 0 = nI nu) (hm0 : F x0 1 = nI m) (hb0 : nu + m < 2 ^ 30) {lm : Nat} (hlm : lm < 2 ^ 30) (hle : ¬ nu + m ≤ lm) {Q : Option PV → PH → Prop} (k : Q (some (.inr none)) (hb (sL L) F G R sO)) : pz pP mPath_takeBelow [.inr (some a), .inl (nI lm)] (hb (sL L) F G R sO) Q := by
  show pw pP mPath_takeBelow (0, [some (.inr (some (a))), some (.inl (nI (lm))), none, none], [], 0, 0, hb (sL L) F G R sO) _
  refine pw_aload_n rfl rfl ?_
  refine px_getv (x := nI (sc)) rfl rfl hP.1 rfl (hsc) ?_
  refine pw_if1p (cz_eq (by omega)) rfl (t := 30) rfl (fun q => absurd q (by omega)) (fun _ => ?_)
  refine pw_aload_n rfl rfl ?_
  refine px_getr (r := some (a + 17)) rfl rfl hP.1 rfl hP.2.1.2.2 ?_
  refine pw_iconst (v := nI (0)) rfl (by decide) ?_
  refine px_aaldn (r := (some (x0))) rfl hP.2.2.2.2.1 rfl (by omega) (by decide) (hx0) ?_
  refine px_getv (x := nI (nu)) rfl rfl hs0 rfl (hn0) ?_
  refine pw_aload_n rfl rfl ?_
  refine px_getr (r := some (a + 17)) rfl rfl hP.1 rfl hP.2.1.2.2 ?_
  refine pw_iconst (v := nI (0)) rfl (by decide) ?_
  refine px_aaldn (r := (some (x0))) rfl hP.2.2.2.2.1 rfl (by omega) (by decide) (hx0) ?_
  refine px_getv (x := nI (m)) rfl rfl hs0 rfl (hm0) ?_
  refine pw_iadd (z := nI (nu + m)) rfl (nI_add _ _) ?_
  refine pw_iload_n rfl rfl ?_
  refine pw_if2p (cn_le (by omega) (by omega)) rfl (t := 32) rfl (fun q => absurd q hle) (fun _ => ?_)
  refine pw_null rfl ?_
  exact pw_aret rfl rfl (Nat.zero_le _) (Nat.zero_le _) rfl k
theorem t_cbel_0 {L a : Nat} {lm : Int32} {F G : FN} {R : RN} (hP : pathok L a R) (hsc : F a 3 = nI 0) {Q : Option PV → PH → Prop} (k : Q (some (.inr none)) (hb (sL L) F G R sO)) : pz pP mPath_takeBelow [.inr (some a), .inl lm] (hb (sL L) F G R sO) Q := by
  show pw pP mPath_takeBelow (0, [some (.inr (some (a))), some (.inl (lm)), none, none], [], 0, 0, hb (sL L) F G R sO) _
  refine pw_aload_n rfl rfl ?_
  refine px_getv (x := nI (0)) rfl rfl hP.1 rfl (hsc) ?_
  refine pw_if1 (t := 30) rfl rfl (fun _ => ?_) (fun q => absurd q (by decide))
  refine pw_null rfl ?_
  exact pw_aret rfl rfl (Nat.zero_le _) (Nat.zero_le _) rfl k
/-- one of the segments bears the unit -/
def cov (su sn : Nat → Nat) (u : Nat) : Nat → Nat → Bool
  | 0, _ => false
  | n + 1, j => if su j ≤ u then (if u < su j + sn j then true else cov su sn u n (j + 1)) else cov su sn u n (j + 1)
theorem t_cbears_lp {L a sc u : Nat} {F G : FN} {R : RN} (hP : pathok L a R) (hsc : F a 3 = nI sc) (hs3 : sc ≤ 3) {su sn : Nat → Nat} (hsu : ∀ j, j < sc → F (rx R (a + 17) j) 2 = nI (su j)) (hsn : ∀ j, j < sc → F (rx R (a + 17) j) 3 = nI (sn j)) (hsb : ∀ j, j < sc → su j + sn j < 2 ^ 30) (hu : u < 2 ^ 30) {Q : Option PV → PH → Prop} : ∀ (n j : Nat) (o3 : Option PV), j + n = sc → Q (some (.inl (bI (cov su sn u n j = true)))) (hb (sL L) F G R sO) → pw pP mPath_bears (2, [some (.inr (some (a))), some (.inl (nI (u))), some (.inl (nI (j))), o3], [], 0, 0, hb (sL L) F G R sO) Q := by
  intro n
  induction n with
  | zero =>
    intro j o3 hn k
    have e1 : sc = j := by omega
    subst e1
    refine pw_iload_n rfl rfl ?_
    refine pw_aload_n rfl rfl ?_
    refine px_getv (x := nI (sc)) rfl rfl hP.1 rfl (hsc) ?_
    refine pw_if2p (cn_ge (by omega) (by omega)) rfl (t := 46) rfl (fun _ => ?_) (fun q => absurd (Nat.le_refl _) q)
    refine pw_iconst (v := nI (0)) rfl (by decide) ?_
    exact pw_iret rfl rfl (Nat.zero_le _) (Nat.zero_le _) rfl k
  | succ n ih =>
    intro j o3 hn k
    obtain ⟨x, hx, hsx⟩ := hP.2.2.2.2.2 j (by omega)
    have hr : rx R (a + 17) j = x := by rw [rx, hx]; rfl
    have hu2 := hsu j (by omega)
    have hn2 := hsn j (by omega)
    have hb2 := hsb j (by omega)
    rw [hr] at hu2 hn2
    refine pw_iload_n rfl rfl ?_
    refine pw_aload_n rfl rfl ?_
    refine px_getv (x := nI (sc)) rfl rfl hP.1 rfl (hsc) ?_
    refine pw_if2p (cn_ge (by omega) (by omega)) rfl (t := 46) rfl (fun q => absurd q (by omega)) (fun _ => ?_)
    refine pw_aload_n rfl rfl ?_
    refine px_getr (r := some (a + 17)) rfl rfl hP.1 rfl hP.2.1.2.2 ?_
    refine pw_iload_n rfl rfl ?_
    refine px_aaldn (r := (some (x))) rfl hP.2.2.2.2.1 rfl (by omega) (by decide) (hx) ?_
    refine pw_astore_n (ls1 := [some (.inr (some (a))), some (.inl (nI (u))), some (.inl (nI (j))), some (.inr (some (x)))]) rfl (Nat.le_of_ble_eq_true rfl) rfl ?_
    refine pw_iload_n rfl rfl ?_
    refine pw_aload_n rfl rfl ?_
    refine px_getv (x := nI (su j)) rfl rfl hsx rfl (hu2) ?_
    refine pw_if2p (cn_lt (by omega) (by omega)) rfl (t := 40) rfl (fun c1 => ?_) (fun c1 => ?_)
    · -- 40
      refine pw_iinc (v := nI (j + 1)) (ls1 := [some (.inr (some (a))), some (.inl (nI (u))), some (.inl (nI (j + 1))), some (.inr (some (x)))]) rfl rfl (iinc_n _) rfl ?_
      refine pw_goto (t := 2) rfl rfl ?_
      simp only [cov, show (su j ≤ u) = False from eq_false (Nat.not_le.mpr c1), if_true, if_false] at k
      exact ih (j + 1) _ (by omega) k
    · -- 25
      refine pw_iload_n rfl rfl ?_
      refine pw_aload_n rfl rfl ?_
      refine px_getv (x := nI (su j)) rfl rfl hsx rfl (hu2) ?_
      refine pw_aload_n rfl rfl ?_
      refine px_getv (x := nI (sn j)) rfl rfl hsx rfl (hn2) ?_
      refine pw_iadd (z := nI (su j + (sn j))) rfl (nI_add _ _) ?_
      refine pw_if2p (cn_ge (by omega) (by omega)) rfl (t := 40) rfl (fun c2 => ?_) (fun c2 => ?_)
      · -- 40
        refine pw_iinc (v := nI (j + 1)) (ls1 := [some (.inr (some (a))), some (.inl (nI (u))), some (.inl (nI (j + 1))), some (.inr (some (x)))]) rfl rfl (iinc_n _) rfl ?_
        refine pw_goto (t := 2) rfl rfl ?_
        simp only [cov, show (su j ≤ u) = True from eq_true (Nat.not_lt.mp c1), show (u < su j + sn j) = False from eq_false (Nat.not_lt.mpr c2), if_true, if_false] at k
        exact ih (j + 1) _ (by omega) k
      · -- 38
        refine pw_iconst (v := nI (1)) rfl (by decide) ?_
        simp only [cov, show (su j ≤ u) = True from eq_true (Nat.not_lt.mp c1), show (u < su j + sn j) = True from eq_true (Nat.not_le.mp c2), if_true, if_false] at k
        rw [bI_t trivial] at k
        exact pw_iret rfl rfl (Nat.zero_le _) (Nat.zero_le _) rfl k
theorem t_cbears {L a sc u : Nat} {F G : FN} {R : RN} (hP : pathok L a R) (hsc : F a 3 = nI sc) (hs3 : sc ≤ 3) {su sn : Nat → Nat} (hsu : ∀ j, j < sc → F (rx R (a + 17) j) 2 = nI (su j)) (hsn : ∀ j, j < sc → F (rx R (a + 17) j) 3 = nI (sn j)) (hsb : ∀ j, j < sc → su j + sn j < 2 ^ 30) (hu : u < 2 ^ 30) {Q : Option PV → PH → Prop} (k : Q (some (.inl (bI (cov su sn u sc 0 = true)))) (hb (sL L) F G R sO)) : pz pP mPath_bears [.inr (some a), .inl (nI u)] (hb (sL L) F G R sO) Q := by
  show pw pP mPath_bears (0, [some (.inr (some (a))), some (.inl (nI (u))), none, none], [], 0, 0, hb (sL L) F G R sO) _
  refine pw_iconst (v := nI (0)) rfl (by decide) ?_
  refine pw_istore_n (ls1 := [some (.inr (some (a))), some (.inl (nI (u))), some (.inl (nI (0))), none]) rfl (Nat.le_of_ble_eq_true rfl) rfl ?_
  exact t_cbears_lp hP hsc hs3 hsu hsn hsb hu sc 0 _ (by omega) k
def csm (nm : Nat → Nat) : Nat → Nat → Nat → Nat
  | 0, _, s => s
  | n + 1, j, s => csm nm n (j + 1) (s + nm j)
theorem t_cun_lp {L a sc : Nat} {F G : FN} {R : RN} (hP : pathok L a R) (hsc : F a 3 = nI sc) (hs3 : sc ≤ 3) {nm : Nat → Nat} (hnm : ∀ j, j < sc → F (rx R (a + 17) j) 1 = nI (nm j)) {Q : Option PV → PH → Prop} : ∀ (n j s : Nat), j + n = sc → Q (some (.inl (nI (csm nm n j s)))) (hb (sL L) F G R sO) → pw pP mPath_unackedNumbers (4, [some (.inr (some (a))), some (.inl (nI (s))), some (.inl (nI (j)))], [], 0, 0, hb (sL L) F G R sO) Q := by
  intro n
  induction n with
  | zero =>
    intro j s hn k
    have e1 : sc = j := by omega
    subst e1
    refine pw_iload_n rfl rfl ?_
    refine pw_aload_n rfl rfl ?_
    refine px_getv (x := nI (sc)) rfl rfl hP.1 rfl (hsc) ?_
    refine pw_if2p (cn_ge (by omega) (by omega)) rfl (t := 30) rfl (fun _ => ?_) (fun q => absurd (Nat.le_refl _) q)
    refine pw_iload_n rfl rfl ?_
    exact pw_iret rfl rfl (Nat.zero_le _) (Nat.zero_le _) rfl k
  | succ n ih =>
    intro j s hn k
    obtain ⟨x, hx, hsx⟩ := hP.2.2.2.2.2 j (by omega)
    have hr : rx R (a + 17) j = x := by rw [rx, hx]; rfl
    have hn2 := hnm j (by omega)
    rw [hr] at hn2
    refine pw_iload_n rfl rfl ?_
    refine pw_aload_n rfl rfl ?_
    refine px_getv (x := nI (sc)) rfl rfl hP.1 rfl (hsc) ?_
    refine pw_if2p (cn_ge (by omega) (by omega)) rfl (t := 30) rfl (fun q => absurd q (by omega)) (fun _ => ?_)
    refine pw_iload_n rfl rfl ?_
    refine pw_aload_n rfl rfl ?_
    refine px_getr (r := some (a + 17)) rfl rfl hP.1 rfl hP.2.1.2.2 ?_
    refine pw_iload_n rfl rfl ?_
    refine px_aaldn (r := (some (x))) rfl hP.2.2.2.2.1 rfl (by omega) (by decide) (hx) ?_
    refine px_getv (x := nI (nm j)) rfl rfl hsx rfl (hn2) ?_
    refine pw_iadd (z := nI (s + (nm j))) rfl (nI_add _ _) ?_
    refine pw_istore_n (ls1 := [some (.inr (some (a))), some (.inl (nI (s + (nm j)))), some (.inl (nI (j)))]) rfl (Nat.le_of_ble_eq_true rfl) rfl ?_
    refine pw_iinc (v := nI (j + 1)) (ls1 := [some (.inr (some (a))), some (.inl (nI (s + (nm j)))), some (.inl (nI (j + 1)))]) rfl rfl (iinc_n _) rfl ?_
    refine pw_goto (t := 4) rfl rfl ?_
    exact ih (j + 1) _ (by omega) k
theorem t_cun {L a sc : Nat} {F G : FN} {R : RN} (hP : pathok L a R) (hsc : F a 3 = nI sc) (hs3 : sc ≤ 3) {nm : Nat → Nat} (hnm : ∀ j, j < sc → F (rx R (a + 17) j) 1 = nI (nm j)) {Q : Option PV → PH → Prop} (k : Q (some (.inl (nI (csm nm sc 0 0)))) (hb (sL L) F G R sO)) : pz pP mPath_unackedNumbers [.inr (some a)] (hb (sL L) F G R sO) Q := by
  show pw pP mPath_unackedNumbers (0, [some (.inr (some (a))), none, none], [], 0, 0, hb (sL L) F G R sO) _
  refine pw_iconst (v := nI (0)) rfl (by decide) ?_
  refine pw_istore_n (ls1 := [some (.inr (some (a))), some (.inl (nI (0))), none]) rfl (Nat.le_of_ble_eq_true rfl) rfl ?_
  refine pw_iconst (v := nI (0)) rfl (by decide) ?_
  refine pw_istore_n (ls1 := [some (.inr (some (a))), some (.inl (nI (0))), some (.inl (nI (0)))]) rfl (Nat.le_of_ble_eq_true rfl) rfl ?_
  exact t_cun_lp hP hsc hs3 hnm sc 0 0 (by omega) k
/-- SB_clamp -/
def cclamp_r (x l m : Int32) : Int32 := (if l < (if x < m then x else m) then (if x < m then x else m) else l)
theorem t_cclamp {L : Nat} {x l m : Int32} {F G : FN} {R : RN} {Q : Option PV → PH → Prop} (k : Q (some (.inl (cclamp_r x l m))) (hb (sL L) F G R sO)) : pz pP mSB_clamp [.inl (x), .inl (l), .inl (m)] (hb (sL L) F G R sO) Q := by
  show pw pP mSB_clamp (0, [some (.inl (x)), some (.inl (l)), some (.inl (m))], [], 0, 0, hb (sL L) F G R sO) _
  refine pw_iload_n rfl rfl ?_
  refine pw_iload_n rfl rfl ?_
  refine pw_iload_n rfl rfl ?_
  refine pw_math (st1 := [.inl ((if x < m then x else m)), .inl (l)]) rfl rfl (by decide) (Nat.zero_le _) (Nat.zero_le _) rfl (Nat.le_of_ble_eq_true rfl) ?_
  refine pw_math (st1 := [.inl ((if l < (if x < m then x else m) then (if x < m then x else m) else l))]) rfl rfl (by decide) (Nat.zero_le _) (Nat.zero_le _) rfl (Nat.le_of_ble_eq_true rfl) ?_
  exact pw_iret rfl rfl (Nat.zero_le _) (Nat.zero_le _) rfl k
/-- Path_measure -/
def cmeas_F (F : FN) (a : Nat) (x : Int32) : FN := (if F (a) (10) = 0 then (up2 (up2 (up2 (up2 F (a) (11) ((nI (8)) * x)) (a) (12) ((nI (2)) * x)) (a) (10) (nI (1))) (a) (8) (cclamp_r ((((nI (8)) * x) / (nI (8))) + ((nI (2)) * x)) (nI (6)) (nI (120)))) else (up2 (up2 (up2 F (a) (12) (((F (a) (12)) - ((F (a) (12)) / (nI (4)))) + (if 0 ≤ (((F (a) (11)) / (nI (8))) - x) then (((F (a) (11)) / (nI (8))) - x) else 0 - (((F (a) (11)) / (nI (8))) - x)))) (a) (11) (((F (a) (11)) - ((F (a) (11)) / (nI (8)))) + x)) (a) (8) (cclamp_r (((((F (a) (11)) - ((F (a) (11)) / (nI (8)))) + x) / (nI (8))) + (((F (a) (12)) - ((F (a) (12)) / (nI (4)))) + (if 0 ≤ (((F (a) (11)) / (nI (8))) - x) then (((F (a) (11)) / (nI (8))) - x) else 0 - (((F (a) (11)) / (nI (8))) - x)))) (nI (6)) (nI (120)))))
theorem t_cmeas {L a : Nat} {x : Int32} {F G : FN} {R : RN} (hP : pathok L a R) {Q : Option PV → PH → Prop} (k : Q none (hb (sL L) (cmeas_F F a x) G R sO)) : pz pP mPath_measure [.inr (some (a)), .inl (x)] (hb (sL L) F G R sO) Q := by
  show pw pP mPath_measure (0, [some (.inr (some (a))), some (.inl (x))], [], 0, 0, hb (sL L) F G R sO) _
  refine pw_aload_n rfl rfl ?_
  refine px_getv (x := F (a) (10)) rfl rfl hP.1 rfl (rfl) ?_
  refine pw_if1p (A := F (a) (10) = 0) rfl rfl (t := 56) rfl (fun c1 => ?_) (fun c1 => ?_)
  · -- 56
    refine pw_aload_n rfl rfl ?_
    refine pw_bipush (v := nI (8)) rfl (by decide) ?_
    refine pw_iload_n rfl rfl ?_
    refine pw_imul (z := (nI (8)) * x) rfl rfl ?_
    refine px_put rfl rfl hP.1 rfl rfl ?_
    refine pw_aload_n rfl rfl ?_
    refine pw_iconst (v := nI (2)) rfl (by decide) ?_
    refine pw_iload_n rfl rfl ?_
    refine pw_imul (z := (nI (2)) * x) rfl rfl ?_
    refine px_put rfl rfl hP.1 rfl rfl ?_
    refine pw_aload_n rfl rfl ?_
    refine pw_iconst (v := nI (1)) rfl (by decide) ?_
    refine px_put rfl rfl hP.1 rfl rfl ?_
    refine pw_aload_n rfl rfl ?_
    refine pw_aload_n rfl rfl ?_
    refine px_getv (x := (nI (8)) * x) rfl rfl hP.1 rfl ((up2_ne2 (by decide)).trans ((up2_ne2 (by decide)).trans (up2_eq))) ?_
    refine pw_bipush (v := nI (8)) rfl (by decide) ?_
    refine pw_idiv (z := ((nI (8)) * x) / (nI (8))) rfl (nI_ne0 (by decide) (by decide)) rfl ?_
    refine pw_aload_n rfl rfl ?_
    refine px_getv (x := (nI (2)) * x) rfl rfl hP.1 rfl ((up2_ne2 (by decide)).trans (up2_eq)) ?_
    refine pw_iadd (z := (((nI (8)) * x) / (nI (8))) + ((nI (2)) * x)) rfl rfl ?_
    refine pw_bipush (v := nI (6)) rfl (by decide) ?_
    refine pw_bipush (v := nI (120)) rfl (by decide) ?_
    refine pw_calls (as := [.inl ((((nI (8)) * x) / (nI (8))) + ((nI (2)) * x)), .inl (nI (6)), .inl (nI (120))]) (rest := [.inr (some (a))]) rfl rfl (by decide) rfl (Nat.le_of_ble_eq_true rfl) (Nat.le_of_ble_eq_true rfl) (Nat.le_of_ble_eq_true rfl) (Nat.le_of_ble_eq_true rfl) rfl rfl ?_
    refine t_cclamp ?_
    show pw pP mPath_measure (96, [some (.inr (some (a))), some (.inl (x))], [.inl (cclamp_r ((((nI (8)) * x) / (nI (8))) + ((nI (2)) * x)) (nI (6)) (nI (120))), .inr (some (a))], 0, 0, hb (sL L) (up2 (up2 (up2 F (a) (11) ((nI (8)) * x)) (a) (12) ((nI (2)) * x)) (a) (10) (nI (1))) G R sO) _
    refine px_put rfl rfl hP.1 rfl rfl ?_
    exact pw_vret rfl rfl (Nat.zero_le _) (Nat.zero_le _) (by simp only [cmeas_F, c1, if_true, if_false] at k; exact k)
  · -- 7
    refine pw_aload_n rfl rfl ?_
    refine pw_aload_n rfl rfl ?_
    refine px_getv (x := F (a) (12)) rfl rfl hP.1 rfl (rfl) ?_
    refine pw_aload_n rfl rfl ?_
    refine px_getv (x := F (a) (12)) rfl rfl hP.1 rfl (rfl) ?_
    refine pw_iconst (v := nI (4)) rfl (by decide) ?_
    refine pw_idiv (z := (F (a) (12)) / (nI (4))) rfl (nI_ne0 (by decide) (by decide)) rfl ?_
    refine pw_isub (z := (F (a) (12)) - ((F (a) (12)) / (nI (4)))) rfl rfl ?_
    refine pw_aload_n rfl rfl ?_
    refine px_getv (x := F (a) (11)) rfl rfl hP.1 rfl (rfl) ?_
    refine pw_bipush (v := nI (8)) rfl (by decide) ?_
    refine pw_idiv (z := (F (a) (11)) / (nI (8))) rfl (nI_ne0 (by decide) (by decide)) rfl ?_
    refine pw_iload_n rfl rfl ?_
    refine pw_isub (z := ((F (a) (11)) / (nI (8))) - x) rfl rfl ?_
    refine pw_math (st1 := [.inl ((if 0 ≤ (((F (a) (11)) / (nI (8))) - x) then (((F (a) (11)) / (nI (8))) - x) else 0 - (((F (a) (11)) / (nI (8))) - x))), .inl ((F (a) (12)) - ((F (a) (12)) / (nI (4)))), .inr (some (a))]) rfl rfl (by decide) (Nat.zero_le _) (Nat.zero_le _) rfl (Nat.le_of_ble_eq_true rfl) ?_
    refine pw_iadd (z := ((F (a) (12)) - ((F (a) (12)) / (nI (4)))) + (if 0 ≤ (((F (a) (11)) / (nI (8))) - x) then (((F (a) (11)) / (nI (8))) - x) else 0 - (((F (a) (11)) / (nI (8))) - x))) rfl rfl ?_
    refine px_put rfl rfl hP.1 rfl rfl ?_
    refine pw_aload_n rfl rfl ?_
    refine pw_aload_n rfl rfl ?_
    refine px_getv (x := F (a) (11)) rfl rfl hP.1 rfl (up2_ne2 (by decide)) ?_
    refine pw_aload_n rfl rfl ?_
    refine px_getv (x := F (a) (11)) rfl rfl hP.1 rfl (up2_ne2 (by decide)) ?_
    refine pw_bipush (v := nI (8)) rfl (by decide) ?_
    refine pw_idiv (z := (F (a) (11)) / (nI (8))) rfl (nI_ne0 (by decide) (by decide)) rfl ?_
    refine pw_isub (z := (F (a) (11)) - ((F (a) (11)) / (nI (8)))) rfl rfl ?_
    refine pw_iload_n rfl rfl ?_
    refine pw_iadd (z := ((F (a) (11)) - ((F (a) (11)) / (nI (8)))) + x) rfl rfl ?_
    refine px_put rfl rfl hP.1 rfl rfl ?_
    refine pw_goto (t := 76) rfl rfl ?_
    refine pw_aload_n rfl rfl ?_
    refine pw_aload_n rfl rfl ?_
    refine px_getv (x := ((F (a) (11)) - ((F (a) (11)) / (nI (8)))) + x) rfl rfl hP.1 rfl (up2_eq) ?_
    refine pw_bipush (v := nI (8)) rfl (by decide) ?_
    refine pw_idiv (z := (((F (a) (11)) - ((F (a) (11)) / (nI (8)))) + x) / (nI (8))) rfl (nI_ne0 (by decide) (by decide)) rfl ?_
    refine pw_aload_n rfl rfl ?_
    refine px_getv (x := ((F (a) (12)) - ((F (a) (12)) / (nI (4)))) + (if 0 ≤ (((F (a) (11)) / (nI (8))) - x) then (((F (a) (11)) / (nI (8))) - x) else 0 - (((F (a) (11)) / (nI (8))) - x))) rfl rfl hP.1 rfl ((up2_ne2 (by decide)).trans (up2_eq)) ?_
    refine pw_iadd (z := ((((F (a) (11)) - ((F (a) (11)) / (nI (8)))) + x) / (nI (8))) + (((F (a) (12)) - ((F (a) (12)) / (nI (4)))) + (if 0 ≤ (((F (a) (11)) / (nI (8))) - x) then (((F (a) (11)) / (nI (8))) - x) else 0 - (((F (a) (11)) / (nI (8))) - x)))) rfl rfl ?_
    refine pw_bipush (v := nI (6)) rfl (by decide) ?_
    refine pw_bipush (v := nI (120)) rfl (by decide) ?_
    refine pw_calls (as := [.inl (((((F (a) (11)) - ((F (a) (11)) / (nI (8)))) + x) / (nI (8))) + (((F (a) (12)) - ((F (a) (12)) / (nI (4)))) + (if 0 ≤ (((F (a) (11)) / (nI (8))) - x) then (((F (a) (11)) / (nI (8))) - x) else 0 - (((F (a) (11)) / (nI (8))) - x)))), .inl (nI (6)), .inl (nI (120))]) (rest := [.inr (some (a))]) rfl rfl (by decide) rfl (Nat.le_of_ble_eq_true rfl) (Nat.le_of_ble_eq_true rfl) (Nat.le_of_ble_eq_true rfl) (Nat.le_of_ble_eq_true rfl) rfl rfl ?_
    refine t_cclamp ?_
    show pw pP mPath_measure (96, [some (.inr (some (a))), some (.inl (x))], [.inl (cclamp_r (((((F (a) (11)) - ((F (a) (11)) / (nI (8)))) + x) / (nI (8))) + (((F (a) (12)) - ((F (a) (12)) / (nI (4)))) + (if 0 ≤ (((F (a) (11)) / (nI (8))) - x) then (((F (a) (11)) / (nI (8))) - x) else 0 - (((F (a) (11)) / (nI (8))) - x)))) (nI (6)) (nI (120))), .inr (some (a))], 0, 0, hb (sL L) (up2 (up2 F (a) (12) (((F (a) (12)) - ((F (a) (12)) / (nI (4)))) + (if 0 ≤ (((F (a) (11)) / (nI (8))) - x) then (((F (a) (11)) / (nI (8))) - x) else 0 - (((F (a) (11)) / (nI (8))) - x)))) (a) (11) (((F (a) (11)) - ((F (a) (11)) / (nI (8)))) + x)) G R sO) _
    refine px_put rfl rfl hP.1 rfl rfl ?_
    exact pw_vret rfl rfl (Nat.zero_le _) (Nat.zero_le _) (by simp only [cmeas_F, c1, if_true, if_false] at k; exact k)
/-- Path_isQuickerThan -/
def cquick_r (F : FN) (a b : Nat) : Int32 := (if F (a) (10) = 0 then nI (0) else (if F (b) (10) = 0 then nI (1) else (if F (b) (11) ≤ F (a) (11) then nI (0) else nI (1))))
theorem t_cquick {L a b : Nat} {F G : FN} {R : RN} (hP : pathok L a R) (hP2 : pathok L b R) {Q : Option PV → PH → Prop} (k : Q (some (.inl (cquick_r F a b))) (hb (sL L) F G R sO)) : pz pP mPath_isQuickerThan [.inr (some (a)), .inr (some (b))] (hb (sL L) F G R sO) Q := by
  show pw pP mPath_isQuickerThan (0, [some (.inr (some (a))), some (.inr (some (b)))], [], 0, 0, hb (sL L) F G R sO) _
  refine pw_aload_n rfl rfl ?_
  refine px_getv (x := F (a) (10)) rfl rfl hP.1 rfl (rfl) ?_
  refine pw_if1p (A := F (a) (10) = 0) rfl rfl (t := 29) rfl (fun c1 => ?_) (fun c1 => ?_)
  · -- 29
    refine pw_iconst (v := nI (0)) rfl (by decide) ?_
    exact pw_iret rfl rfl (Nat.zero_le _) (Nat.zero_le _) rfl (by simp only [cquick_r, c1, if_true, if_false] at k; exact k)
  · -- 7
    refine pw_aload_n rfl rfl ?_
    refine px_getv (x := F (b) (10)) rfl rfl hP2.1 rfl (rfl) ?_
    refine pw_if1p (A := F (b) (10) = 0) rfl rfl (t := 25) rfl (fun c2 => ?_) (fun c2 => ?_)
    · -- 25
      refine pw_iconst (v := nI (1)) rfl (by decide) ?_
      refine pw_goto (t := 30) rfl rfl ?_
      exact pw_iret rfl rfl (Nat.zero_le _) (Nat.zero_le _) rfl (by simp only [cquick_r, c1, c2, if_true, if_false] at k; exact k)
    · -- 14
      refine pw_aload_n rfl rfl ?_
      refine px_getv (x := F (a) (11)) rfl rfl hP.1 rfl (rfl) ?_
      refine pw_aload_n rfl rfl ?_
      refine px_getv (x := F (b) (11)) rfl rfl hP2.1 rfl (rfl) ?_
      refine pw_if2p (A := F (b) (11) ≤ F (a) (11)) rfl rfl (t := 29) rfl (fun c3 => ?_) (fun c3 => ?_)
      · -- 29
        refine pw_iconst (v := nI (0)) rfl (by decide) ?_
        exact pw_iret rfl rfl (Nat.zero_le _) (Nat.zero_le _) rfl (by simp only [cquick_r, c1, c2, c3, if_true, if_false] at k; exact k)
      · -- 25
        refine pw_iconst (v := nI (1)) rfl (by decide) ?_
        refine pw_goto (t := 30) rfl rfl ?_
        exact pw_iret rfl rfl (Nat.zero_le _) (Nat.zero_le _) rfl (by simp only [cquick_r, c1, c2, c3, if_true, if_false] at k; exact k)
/-- Path_shut -/
def cshut_F (F : FN) (a : Nat) : FN := (up2 (up2 (up2 (up2 (up2 F (a) (5) (nI (4))) (a + 1) (1) (nI (0))) (a + 9) (1) (nI (0))) (a) (9) ((-1))) (a) (3) (nI (0)))
theorem t_cshut {L a : Nat} {F G : FN} {R : RN} (hP : pathok L a R) {Q : Option PV → PH → Prop} (k : Q none (hb (sL L) (cshut_F F a) G R sO)) : pz pP mPath_shut [.inr (some (a))] (hb (sL L) F G R sO) Q := by
  show pw pP mPath_shut (0, [some (.inr (some (a)))], [], 0, 0, hb (sL L) F G R sO) _
  refine pw_aload_n rfl rfl ?_
  refine pw_iconst (v := nI (4)) rfl (by decide) ?_
  refine px_put rfl rfl hP.1 rfl rfl ?_
  refine pw_aload_n rfl rfl ?_
  refine px_getr (r := some (a + 1)) rfl rfl hP.1 rfl hP.2.1.1 ?_
  refine px_callv (as := [.inr (some (a + 1))]) (rest := []) rfl rfl (by decide) rfl (Nat.le_of_ble_eq_true rfl) (Nat.le_of_ble_eq_true rfl) (Nat.le_of_ble_eq_true rfl) (Nat.le_of_ble_eq_true rfl) rfl hP.2.2.1.1 rfl rfl ?_
  refine t_empty hP.2.2.1 ?_
  show pw pP mPath_shut (12, [some (.inr (some (a)))], [], 0, 0, hb (sL L) (up2 (up2 F (a) (5) (nI (4))) (a + 1) (1) (nI (0))) G R sO) _
  refine pw_aload_n rfl rfl ?_
  refine px_getr (r := some (a + 9)) rfl rfl hP.1 rfl hP.2.1.2.1 ?_
  refine px_callv (as := [.inr (some (a + 9))]) (rest := []) rfl rfl (by decide) rfl (Nat.le_of_ble_eq_true rfl) (Nat.le_of_ble_eq_true rfl) (Nat.le_of_ble_eq_true rfl) (Nat.le_of_ble_eq_true rfl) rfl hP.2.2.2.1.1 rfl rfl ?_
  refine t_empty hP.2.2.2.1 ?_
  show pw pP mPath_shut (19, [some (.inr (some (a)))], [], 0, 0, hb (sL L) (up2 (up2 (up2 F (a) (5) (nI (4))) (a + 1) (1) (nI (0))) (a + 9) (1) (nI (0))) G R sO) _
  refine pw_aload_n rfl rfl ?_
  refine pw_iconst (v := (-1)) rfl (by decide) ?_
  refine px_put rfl rfl hP.1 rfl rfl ?_
  refine pw_aload_n rfl rfl ?_
  refine pw_iconst (v := nI (0)) rfl (by decide) ?_
  refine px_put rfl rfl hP.1 rfl rfl ?_
  exact pw_vret rfl rfl (Nat.zero_le _) (Nat.zero_le _) k
