/-! THE REFERENCE, eleventh part: sends. Rows laid by a program (wip/whole/gen/twin9.py). -/
def twant (G : FN) : Nat → Nat → Int32 → Int32
  | 0, _, w => w
  | n + 1, p, w => twant G n (p + 1) (if G 107 p = nI 2 then nI 2 else w)
def tb2 (G : FN) (w g : Int32) (p : Nat) (bo : Option Nat) : Option Nat := if G 107 p = w then (if (g >>> (nI p &&& 31)) &&& nI 1 = 0 then (match bo with
  | none => some p
  | some b => if G 112 p = 0 then some b else if G 112 b = 0 then some p else if G 113 b ≤ G 113 p then some b else some p) else bo) else bo
/-- the quickest path of those in the state w that are not in g -/
def tbst (G : FN) (w g : Int32) : Nat → Nat → Option Nat → Option Nat
  | 0, _, bo => bo
  | n + 1, p, bo => tbst G w g n (p + 1) (tb2 G w g p bo)
theorem tb2_lt {G : FN} {w g : Int32} {p : Nat} {bo : Option Nat} (hp : p < 4) (hb : ∀ b, bo = some b → b < 4) : ∀ b, tb2 G w g p bo = some b → b < 4 := by
  intro b e
  unfold tb2 at e
  split at e
  · split at e
    · split at e
      · cases e; exact hp
      · rename_i b1
        split at e
        · cases e; exact hb _ rfl
        · split at e
          · cases e; exact hp
          · split at e
            · cases e; exact hb _ rfl
            · cases e; exact hp
    · exact hb b e
  · exact hb b e
theorem tbst_lt {G : FN} {w g : Int32} : ∀ (n p : Nat) (bo : Option Nat), p + n ≤ 4 → (∀ b, bo = some b → b < 4) → ∀ b, tbst G w g n p bo = some b → b < 4
  | 0, _, _, _, hb, b, e => hb b e
  | n + 1, p, bo, hn, hb, b, e => tbst_lt n (p + 1) _ (by omega) (tb2_lt (by omega) hb) b e
theorem tb2_w {G : FN} {w g : Int32} {p : Nat} {bo : Option Nat} (hb : ∀ b, bo = some b → G 107 b = w) : ∀ b, tb2 G w g p bo = some b → G 107 b = w := by
  intro b e
  unfold tb2 at e
  by_cases c1 : G 107 p = w
  · rw [if_pos c1] at e
    by_cases c2 : (g >>> (nI p &&& 31)) &&& nI 1 = 0
    · rw [if_pos c2] at e
      cases bo with
      | none => injection e with e; subst e; exact c1
      | some b0 =>
        have h0 := hb b0 rfl
        dsimp only at e
        split at e
        · injection e with e; subst e; exact h0
        · split at e
          · injection e with e; subst e; exact c1
          · split at e
            · injection e with e; subst e; exact h0
            · injection e with e; subst e; exact c1
    · rw [if_neg c2] at e
      exact hb b e
  · rw [if_neg c1] at e
    exact hb b e
theorem tbst_w {G : FN} {w g : Int32} : ∀ (n p : Nat) (bo : Option Nat), (∀ b, bo = some b → G 107 b = w) → ∀ b, tbst G w g n p bo = some b → G 107 b = w
  | 0, _, _, hb, b, e => hb b e
  | n + 1, p, bo, hb, b, e => tbst_w n (p + 1) _ (tb2_w hb) b e
theorem twant_w {G : FN} : ∀ (n p : Nat) (w : Int32), w = nI 2 ∨ w = nI 3 → twant G n p w = nI 2 ∨ twant G n p w = nI 3
  | 0, _, _, h => h
  | n + 1, p, w, h => twant_w n (p + 1) _ (by split; exact .inl rfl; exact h)
theorem t_sends_1 {L : Nat} {F G : FN} {R : RN} {Q : Option PV → PH → Prop} : ∀ (n p : Nat) (w : Int32), p + n = 4 → pw pP mSBModel_sends (31, [some (.inr (some (103))), some (.inl (twant G n p w)), some (.inl (nI (4))), none, none, none, none], [], 0, 0, hb (sL L) F G R sO) Q → pw pP mSBModel_sends (4, [some (.inr (some (103))), some (.inl (w)), some (.inl (nI (p))), none, none, none, none], [], 0, 0, hb (sL L) F G R sO) Q := by
  intro n
  induction n with
  | zero =>
    intro p w hn k
    have e : p = 4 := by omega
    subst e
    refine pw_iload_n rfl rfl ?_
    refine pw_iconst (v := nI (4)) rfl (by decide) ?_
    refine pw_if2 (t := 31) rfl rfl (fun _ => ?_) (fun q => absurd q (by decide))
    exact k
  | succ n ih =>
    intro p w hn k
    refine pw_iload_n rfl rfl ?_
    refine pw_iconst (v := nI (4)) rfl (by decide) ?_
    refine pw_if2p (cn_ge (by omega) (by omega)) rfl (t := 31) rfl (fun c1 => ?_) (fun c1 => ?_)
    · -- 31
      exact absurd c1 (by omega)
    · -- 9
      refine pw_aload_n rfl rfl ?_
      refine px_getr (r := some (107)) rfl rfl rfl rfl rfl ?_
      refine pw_iload_n rfl rfl ?_
      refine px_ialdn (x := G (107) (p)) rfl rfl (by omega) (by decide) (rfl) ?_
      refine pw_iconst (v := nI (2)) rfl (by decide) ?_
      refine pw_if2p (A := ¬ G (107) (p) = nI (2)) rfl rfl (t := 23) rfl (fun c2 => ?_) (fun c2 => ?_)
      · -- 23
        refine pw_iload_n rfl rfl ?_
        refine pw_istore_n (ls1 := [some (.inr (some (103))), some (.inl (w)), some (.inl (nI (p))), none, none, none, none]) rfl (Nat.le_of_ble_eq_true rfl) rfl ?_
        refine pw_iinc (v := nI (p + 1)) (ls1 := [some (.inr (some (103))), some (.inl (w)), some (.inl (nI (p + 1))), none, none, none, none]) rfl rfl (iinc_n _) rfl ?_
        refine pw_goto (t := 4) rfl rfl ?_
        exact ih (p + 1) _ (by omega) (by simp only [twant, eq_false c2, if_true, if_false] at k; exact k)
      · -- 19
        refine pw_iconst (v := nI (2)) rfl (by decide) ?_
        refine pw_goto (t := 24) rfl rfl ?_
        refine pw_istore_n (ls1 := [some (.inr (some (103))), some (.inl (nI (2))), some (.inl (nI (p))), none, none, none, none]) rfl (Nat.le_of_ble_eq_true rfl) rfl ?_
        refine pw_iinc (v := nI (p + 1)) (ls1 := [some (.inr (some (103))), some (.inl (nI (2))), some (.inl (nI (p + 1))), none, none, none, none]) rfl rfl (iinc_n _) rfl ?_
        refine pw_goto (t := 4) rfl rfl ?_
        exact ih (p + 1) _ (by omega) (by simp only [twant, eq_true (Decidable.of_not_not c2), if_true, if_false] at k; exact k)
theorem t_sends_3 {L t : Nat} {w g : Int32} {F G : FN} {R : RN} {Q : Option PV → PH → Prop} : ∀ (n p : Nat) (bo : Option Nat) (o6 : Option PV), p + n = 4 → (∀ b, bo = some b → b < 4) → (∀ o, pw pP mSBModel_sends (136, [some (.inr (some (103))), some (.inl (w)), some (.inl (g)), some (.inl (nI (t))), some (.inl (oI (tbst G w g n p bo))), some (.inl (nI (4))), o], [], 0, 0, hb (sL L) F G R sO) Q) → pw pP mSBModel_sends (46, [some (.inr (some (103))), some (.inl (w)), some (.inl (g)), some (.inl (nI (t))), some (.inl (oI bo)), some (.inl (nI (p))), o6], [], 0, 0, hb (sL L) F G R sO) Q := by
  intro n
  induction n with
  | zero =>
    intro p bo o6 hn hbo k
    have e : p = 4 := by omega
    subst e
    refine pw_iload rfl rfl ?_
    refine pw_iconst (v := nI (4)) rfl (by decide) ?_
    refine pw_if2 (t := 136) rfl rfl (fun _ => ?_) (fun q => absurd q (by decide))
    exact k _
  | succ n ih =>
    intro p bo o6 hn hbo k
    have hb2 := tb2_lt (G := G) (w := w) (g := g) (bo := bo) (show p < 4 by omega) hbo
    cases bo with
    | none =>
      show pw pP mSBModel_sends (46, [some (.inr (some (103))), some (.inl (w)), some (.inl (g)), some (.inl (nI (t))), some (.inl (-1)), some (.inl (nI (p))), o6], [], 0, 0, hb (sL L) F G R sO) Q
      refine pw_iload rfl rfl ?_
      refine pw_iconst (v := nI (4)) rfl (by decide) ?_
      refine pw_if2p (cn_ge (by omega) (by omega)) rfl (t := 136) rfl (fun c1 => ?_) (fun c1 => ?_)
      · -- 136
        exact absurd c1 (by omega)
      · -- 52
        refine pw_aload_n rfl rfl ?_
        refine px_getr (r := some (107)) rfl rfl rfl rfl rfl ?_
        refine pw_iload rfl rfl ?_
        refine px_ialdn (x := G (107) (p)) rfl rfl (by omega) (by decide) (rfl) ?_
        refine pw_iload_n rfl rfl ?_
        refine pw_if2p (A := ¬ G (107) (p) = w) rfl rfl (t := 76) rfl (fun c2 => ?_) (fun c2 => ?_)
        · -- 76
          refine pw_iconst (v := nI (0)) rfl (by decide) ?_
          refine pw_istore (ls1 := [some (.inr (some (103))), some (.inl (w)), some (.inl (g)), some (.inl (nI (t))), some (.inl (-1)), some (.inl (nI (p))), some (.inl (nI (0)))]) rfl (Nat.le_of_ble_eq_true rfl) rfl ?_
          refine pw_iload rfl rfl ?_
          refine pw_if1 (t := 130) rfl rfl (fun _ => ?_) (fun q => absurd q (by decide))
          refine pw_iinc (v := nI (p + 1)) (ls1 := [some (.inr (some (103))), some (.inl (w)), some (.inl (g)), some (.inl (nI (t))), some (.inl (-1)), some (.inl (nI (p + 1))), some (.inl (nI (0)))]) rfl rfl (iinc_n _) rfl ?_
          refine pw_goto (t := 46) rfl rfl ?_
          have e : tb2 G w g p (none) = (none) := by simp only [tb2, eq_false c2, if_true, if_false]
          rw [e] at hb2
          exact ih (p + 1) (none) _ (by omega) hb2 (fun o => by have k := k o; simp only [tbst, e] at k; exact k)
        · -- 63
          refine pw_iload_n rfl rfl ?_
          refine pw_iload rfl rfl ?_
          refine pw_ishr (z := g >>> ((nI (p)) &&& 31)) rfl rfl ?_
          refine pw_iconst (v := nI (1)) rfl (by decide) ?_
          refine pw_iand (z := (g >>> ((nI (p)) &&& 31)) &&& (nI (1))) rfl rfl ?_
          refine pw_if1p (A := ¬ (g >>> ((nI (p)) &&& 31)) &&& (nI (1)) = 0) rfl rfl (t := 76) rfl (fun c3 => ?_) (fun c3 => ?_)
          · -- 76
            refine pw_iconst (v := nI (0)) rfl (by decide) ?_
            refine pw_istore (ls1 := [some (.inr (some (103))), some (.inl (w)), some (.inl (g)), some (.inl (nI (t))), some (.inl (-1)), some (.inl (nI (p))), some (.inl (nI (0)))]) rfl (Nat.le_of_ble_eq_true rfl) rfl ?_
            refine pw_iload rfl rfl ?_
            refine pw_if1 (t := 130) rfl rfl (fun _ => ?_) (fun q => absurd q (by decide))
            refine pw_iinc (v := nI (p + 1)) (ls1 := [some (.inr (some (103))), some (.inl (w)), some (.inl (g)), some (.inl (nI (t))), some (.inl (-1)), some (.inl (nI (p + 1))), some (.inl (nI (0)))]) rfl rfl (iinc_n _) rfl ?_
            refine pw_goto (t := 46) rfl rfl ?_
            have e : tb2 G w g p (none) = (none) := by simp only [tb2, eq_true (Decidable.of_not_not c2), eq_false c3, if_true, if_false]
            rw [e] at hb2
            exact ih (p + 1) (none) _ (by omega) hb2 (fun o => by have k := k o; simp only [tbst, e] at k; exact k)
          · -- 72
            refine pw_iconst (v := nI (1)) rfl (by decide) ?_
            refine pw_goto (t := 77) rfl rfl ?_
            refine pw_istore (ls1 := [some (.inr (some (103))), some (.inl (w)), some (.inl (g)), some (.inl (nI (t))), some (.inl (-1)), some (.inl (nI (p))), some (.inl (nI (1)))]) rfl (Nat.le_of_ble_eq_true rfl) rfl ?_
            refine pw_iload rfl rfl ?_
            refine pw_if1 (t := 130) rfl rfl (fun q => absurd q (by decide)) (fun _ => ?_)
            refine pw_iload rfl rfl ?_
            refine pw_if1p (A := -1 < 0) rfl rfl (t := 126) rfl (fun _ => ?_) (fun q => absurd (by decide) q)
            refine pw_iload rfl rfl ?_
            refine pw_istore (ls1 := [some (.inr (some (103))), some (.inl (w)), some (.inl (g)), some (.inl (nI (t))), some (.inl (nI (p))), some (.inl (nI (p))), some (.inl (nI (1)))]) rfl (Nat.le_of_ble_eq_true rfl) rfl ?_
            refine pw_iinc (v := nI (p + 1)) (ls1 := [some (.inr (some (103))), some (.inl (w)), some (.inl (g)), some (.inl (nI (t))), some (.inl (nI (p))), some (.inl (nI (p + 1))), some (.inl (nI (1)))]) rfl rfl (iinc_n _) rfl ?_
            refine pw_goto (t := 46) rfl rfl ?_
            have e : tb2 G w g p (none) = (some p) := by simp only [tb2, eq_true (Decidable.of_not_not c2), eq_true (Decidable.of_not_not c3), if_true, if_false]
            rw [e] at hb2
            exact ih (p + 1) (some p) _ (by omega) hb2 (fun o => by have k := k o; simp only [tbst, e] at k; exact k)
    | some b =>
      have hb4 : b < 4 := hbo b rfl
      show pw pP mSBModel_sends (46, [some (.inr (some (103))), some (.inl (w)), some (.inl (g)), some (.inl (nI (t))), some (.inl (nI (b))), some (.inl (nI (p))), o6], [], 0, 0, hb (sL L) F G R sO) Q
      refine pw_iload rfl rfl ?_
      refine pw_iconst (v := nI (4)) rfl (by decide) ?_
      refine pw_if2p (cn_ge (by omega) (by omega)) rfl (t := 136) rfl (fun c1 => ?_) (fun c1 => ?_)
      · -- 136
        exact absurd c1 (by omega)
      · -- 52
        refine pw_aload_n rfl rfl ?_
        refine px_getr (r := some (107)) rfl rfl rfl rfl rfl ?_
        refine pw_iload rfl rfl ?_
        refine px_ialdn (x := G (107) (p)) rfl rfl (by omega) (by decide) (rfl) ?_
        refine pw_iload_n rfl rfl ?_
        refine pw_if2p (A := ¬ G (107) (p) = w) rfl rfl (t := 76) rfl (fun c2 => ?_) (fun c2 => ?_)
        · -- 76
          refine pw_iconst (v := nI (0)) rfl (by decide) ?_
          refine pw_istore (ls1 := [some (.inr (some (103))), some (.inl (w)), some (.inl (g)), some (.inl (nI (t))), some (.inl (nI (b))), some (.inl (nI (p))), some (.inl (nI (0)))]) rfl (Nat.le_of_ble_eq_true rfl) rfl ?_
          refine pw_iload rfl rfl ?_
          refine pw_if1 (t := 130) rfl rfl (fun _ => ?_) (fun q => absurd q (by decide))
          refine pw_iinc (v := nI (p + 1)) (ls1 := [some (.inr (some (103))), some (.inl (w)), some (.inl (g)), some (.inl (nI (t))), some (.inl (nI (b))), some (.inl (nI (p + 1))), some (.inl (nI (0)))]) rfl rfl (iinc_n _) rfl ?_
          refine pw_goto (t := 46) rfl rfl ?_
          have e : tb2 G w g p (some b) = (some b) := by simp only [tb2, eq_false c2, if_true, if_false]
          rw [e] at hb2
          exact ih (p + 1) (some b) _ (by omega) hb2 (fun o => by have k := k o; simp only [tbst, e] at k; exact k)
        · -- 63
          refine pw_iload_n rfl rfl ?_
          refine pw_iload rfl rfl ?_
          refine pw_ishr (z := g >>> ((nI (p)) &&& 31)) rfl rfl ?_
          refine pw_iconst (v := nI (1)) rfl (by decide) ?_
          refine pw_iand (z := (g >>> ((nI (p)) &&& 31)) &&& (nI (1))) rfl rfl ?_
          refine pw_if1p (A := ¬ (g >>> ((nI (p)) &&& 31)) &&& (nI (1)) = 0) rfl rfl (t := 76) rfl (fun c3 => ?_) (fun c3 => ?_)
          · -- 76
            refine pw_iconst (v := nI (0)) rfl (by decide) ?_
            refine pw_istore (ls1 := [some (.inr (some (103))), some (.inl (w)), some (.inl (g)), some (.inl (nI (t))), some (.inl (nI (b))), some (.inl (nI (p))), some (.inl (nI (0)))]) rfl (Nat.le_of_ble_eq_true rfl) rfl ?_
            refine pw_iload rfl rfl ?_
            refine pw_if1 (t := 130) rfl rfl (fun _ => ?_) (fun q => absurd q (by decide))
            refine pw_iinc (v := nI (p + 1)) (ls1 := [some (.inr (some (103))), some (.inl (w)), some (.inl (g)), some (.inl (nI (t))), some (.inl (nI (b))), some (.inl (nI (p + 1))), some (.inl (nI (0)))]) rfl rfl (iinc_n _) rfl ?_
            refine pw_goto (t := 46) rfl rfl ?_
            have e : tb2 G w g p (some b) = (some b) := by simp only [tb2, eq_true (Decidable.of_not_not c2), eq_false c3, if_true, if_false]
            rw [e] at hb2
            exact ih (p + 1) (some b) _ (by omega) hb2 (fun o => by have k := k o; simp only [tbst, e] at k; exact k)
          · -- 72
            refine pw_iconst (v := nI (1)) rfl (by decide) ?_
            refine pw_goto (t := 77) rfl rfl ?_
            refine pw_istore (ls1 := [some (.inr (some (103))), some (.inl (w)), some (.inl (g)), some (.inl (nI (t))), some (.inl (nI (b))), some (.inl (nI (p))), some (.inl (nI (1)))]) rfl (Nat.le_of_ble_eq_true rfl) rfl ?_
            refine pw_iload rfl rfl ?_
            refine pw_if1 (t := 130) rfl rfl (fun q => absurd q (by decide)) (fun _ => ?_)
            refine pw_iload rfl rfl ?_
            refine pw_if1p (cz_lt (by omega)) rfl (t := 126) rfl (fun q => absurd q (by omega)) (fun _ => ?_)
            refine pw_aload_n rfl rfl ?_
            refine px_getr (r := some (112)) rfl rfl rfl rfl rfl ?_
            refine pw_iload rfl rfl ?_
            refine px_zaldn (x := G (112) (p)) rfl rfl (by omega) (by decide) (rfl) ?_
            refine pw_if1p (A := G (112) (p) = 0) rfl rfl (t := 130) rfl (fun c4 => ?_) (fun c4 => ?_)
            · -- 130
              refine pw_iinc (v := nI (p + 1)) (ls1 := [some (.inr (some (103))), some (.inl (w)), some (.inl (g)), some (.inl (nI (t))), some (.inl (nI (b))), some (.inl (nI (p + 1))), some (.inl (nI (1)))]) rfl rfl (iinc_n _) rfl ?_
              refine pw_goto (t := 46) rfl rfl ?_
              have e : tb2 G w g p (some b) = (some b) := by simp only [tb2, eq_true (Decidable.of_not_not c2), eq_true (Decidable.of_not_not c3), eq_true c4, if_true, if_false]
              rw [e] at hb2
              exact ih (p + 1) (some b) _ (by omega) hb2 (fun o => by have k := k o; simp only [tbst, e] at k; exact k)
            · -- 99
              refine pw_aload_n rfl rfl ?_
              refine px_getr (r := some (112)) rfl rfl rfl rfl rfl ?_
              refine pw_iload rfl rfl ?_
              refine px_zaldn (x := G (112) (b)) rfl rfl (by omega) (by decide) (rfl) ?_
              refine pw_if1p (A := G (112) (b) = 0) rfl rfl (t := 126) rfl (fun c5 => ?_) (fun c5 => ?_)
              · -- 126
                refine pw_iload rfl rfl ?_
                refine pw_istore (ls1 := [some (.inr (some (103))), some (.inl (w)), some (.inl (g)), some (.inl (nI (t))), some (.inl (nI (p))), some (.inl (nI (p))), some (.inl (nI (1)))]) rfl (Nat.le_of_ble_eq_true rfl) rfl ?_
                refine pw_iinc (v := nI (p + 1)) (ls1 := [some (.inr (some (103))), some (.inl (w)), some (.inl (g)), some (.inl (nI (t))), some (.inl (nI (p))), some (.inl (nI (p + 1))), some (.inl (nI (1)))]) rfl rfl (iinc_n _) rfl ?_
                refine pw_goto (t := 46) rfl rfl ?_
                have e : tb2 G w g p (some b) = (some p) := by simp only [tb2, eq_true (Decidable.of_not_not c2), eq_true (Decidable.of_not_not c3), eq_false c4, eq_true c5, if_true, if_false]
                rw [e] at hb2
                exact ih (p + 1) (some p) _ (by omega) hb2 (fun o => by have k := k o; simp only [tbst, e] at k; exact k)
              · -- 109
                refine pw_aload_n rfl rfl ?_
                refine px_getr (r := some (113)) rfl rfl rfl rfl rfl ?_
                refine pw_iload rfl rfl ?_
                refine px_ialdn (x := G (113) (p)) rfl rfl (by omega) (by decide) (rfl) ?_
                refine pw_aload_n rfl rfl ?_
                refine px_getr (r := some (113)) rfl rfl rfl rfl rfl ?_
                refine pw_iload rfl rfl ?_
                refine px_ialdn (x := G (113) (b)) rfl rfl (by omega) (by decide) (rfl) ?_
                refine pw_if2p (A := G (113) (b) ≤ G (113) (p)) rfl rfl (t := 130) rfl (fun c6 => ?_) (fun c6 => ?_)
                · -- 130
                  refine pw_iinc (v := nI (p + 1)) (ls1 := [some (.inr (some (103))), some (.inl (w)), some (.inl (g)), some (.inl (nI (t))), some (.inl (nI (b))), some (.inl (nI (p + 1))), some (.inl (nI (1)))]) rfl rfl (iinc_n _) rfl ?_
                  refine pw_goto (t := 46) rfl rfl ?_
                  have e : tb2 G w g p (some b) = (some b) := by simp only [tb2, eq_true (Decidable.of_not_not c2), eq_true (Decidable.of_not_not c3), eq_false c4, eq_false c5, eq_true c6, if_true, if_false]
                  rw [e] at hb2
                  exact ih (p + 1) (some b) _ (by omega) hb2 (fun o => by have k := k o; simp only [tbst, e] at k; exact k)
                · -- 126
                  refine pw_iload rfl rfl ?_
                  refine pw_istore (ls1 := [some (.inr (some (103))), some (.inl (w)), some (.inl (g)), some (.inl (nI (t))), some (.inl (nI (p))), some (.inl (nI (p))), some (.inl (nI (1)))]) rfl (Nat.le_of_ble_eq_true rfl) rfl ?_
                  refine pw_iinc (v := nI (p + 1)) (ls1 := [some (.inr (some (103))), some (.inl (w)), some (.inl (g)), some (.inl (nI (t))), some (.inl (nI (p))), some (.inl (nI (p + 1))), some (.inl (nI (1)))]) rfl rfl (iinc_n _) rfl ?_
                  refine pw_goto (t := 46) rfl rfl ?_
                  have e : tb2 G w g p (some b) = (some p) := by simp only [tb2, eq_true (Decidable.of_not_not c2), eq_true (Decidable.of_not_not c3), eq_false c4, eq_false c5, eq_false c6, if_true, if_false]
                  rw [e] at hb2
                  exact ih (p + 1) (some p) _ (by omega) hb2 (fun o => by have k := k o; simp only [tbst, e] at k; exact k)
/-- the path that gets a segment -/
def tsn (ab : Nat → Bool) (G : FN) (w : Int32) : Nat → Int32 → Option Nat
  | 0, _ => none
  | n + 1, g => match tbst G w g 4 0 none with
    | none => none
    | some b => match ab b with
      | true => some b
      | false => tsn ab G w n (g ||| (nI 1 <<< (nI b &&& 31)))
theorem tsn_none {ab : Nat → Bool} {G : FN} {w g : Int32} {n : Nat} (e : tbst G w g 4 0 none = none) : tsn ab G w (n + 1) g = none := by simp only [tsn, e]
theorem tsn_t {ab : Nat → Bool} {G : FN} {w g : Int32} {n b : Nat} (e : tbst G w g 4 0 none = some b) (h : ab b = true) : tsn ab G w (n + 1) g = some b := by simp only [tsn, e, h]
theorem tsn_f {ab : Nat → Bool} {G : FN} {w g : Int32} {n b : Nat} (e : tbst G w g 4 0 none = some b) (h : ab b = false) : tsn ab G w (n + 1) g = tsn ab G w n (g ||| (nI 1 <<< (nI b &&& 31))) := by simp only [tsn, e, h]
/-- can the path b get a segment -/
def tab (F G : FN) (kn ln ed : Nat) (lw hi : Nat → Nat) (b : Nat) : Bool := decide (to3 G b (hi b - lw b) (lw b) 0 < 3) && decide (tcan kn ln ed (lw b) (hi b) (lu F G b kn ln))
def tsr (o : Option Nat) : Nat := match o with
  | none => 0
  | some _ => 1
def tsF (F G : FN) (kn ln ed ms : Nat) (hi fl : Nat → Nat) (o : Option Nat) : FN × FN := match o with
  | none => (F, G)
  | some b => tbegin F G b (lu F G b kn ln) (lm F G b kn ln ed ms) (hi b) (fl b)
theorem to3_le {G : FN} {p : Nat} : ∀ (n j c : Nat), to3 G p n j c ≤ c + n
  | 0, _, _ => by simp only [to3]; omega
  | n + 1, j, c => by
    simp only [to3]
    split
    · have := to3_le (G := G) (p := p) n (j + 1) c
      omega
    · have := to3_le (G := G) (p := p) n (j + 1) (c + 1)
      omega
set_option maxHeartbeats 4000000 in
theorem t_sends_2 {L kn ln ed ms : Nat} {lw hi fl : Nat → Nat} {F G : FN} {R : RN} {Q : Option PV → PH → Prop} (hkn : F 103 22 = nI kn) (hln : tlen F = nI ln) (hl2 : ln ≤ 401) (hkl : kn ≤ ln) (hed : F 103 23 = nI ed) (hed2 : ed ≤ 500) (hms : F 103 0 = nI ms) (hms2 : ms ≤ 7) (hms1 : 1 ≤ ms) (hlw : ∀ b, b < 4 → G 115 b = nI (lw b)) (hhi : ∀ b, b < 4 → G 116 b = nI (hi b)) (hlh : ∀ b, b < 4 → lw b ≤ hi b) (hh : ∀ b, b < 4 → hi b ≤ 402) (hfl : ∀ b, b < 4 → G 124 (2 * b) = nI (fl b)) (hf6 : ∀ b, b < 4 → fl b ≤ 6) (hcap : ∀ b, b < 4 → (G 107 b = nI 2 ∨ G 107 b = nI 3) → tcan kn ln ed (lw b) (hi b) (lu F G b kn ln) → lu F G b kn ln + lm F G b kn ln ed ms ≤ 401 ∧ 0 < lm F G b kn ln ed ms ∧ hi b + lm F G b kn ln ed ms ≤ 402) {w : Int32} (hw : w = nI 2 ∨ w = nI 3) : ∀ (n t : Nat) (g : Int32) (o4 o5 o6 : Option PV), t + n = 4 → Q (some (.inl (nI (tsr (tsn (tab F G kn ln ed lw hi) G w n g))))) (hb (sL L) (tsF F G kn ln ed ms hi fl (tsn (tab F G kn ln ed lw hi) G w n g)).1 (tsF F G kn ln ed ms hi fl (tsn (tab F G kn ln ed lw hi) G w n g)).2 R sO) → pw pP mSBModel_sends (35, [some (.inr (some (103))), some (.inl (w)), some (.inl (g)), some (.inl (nI (t))), o4, o5, o6], [], 0, 0, hb (sL L) F G R sO) Q := by
  intro n
  induction n with
  | zero =>
    intro t g o4 o5 o6 hn k
    have e : t = 4 := by omega
    subst e
    refine pw_iload_n rfl rfl ?_
    refine pw_iconst (v := nI (4)) rfl (by decide) ?_
    refine pw_if2 (t := 177) rfl rfl (fun _ => ?_) (fun q => absurd q (by decide))
    refine pw_iconst (v := nI (0)) rfl (by decide) ?_
    exact pw_iret rfl rfl (Nat.zero_le _) (Nat.zero_le _) rfl k
  | succ n ih =>
    intro t g o4 o5 o6 hn k
    refine pw_iload_n rfl rfl ?_
    refine pw_iconst (v := nI (4)) rfl (by decide) ?_
    refine pw_if2p (cn_ge (by omega) (by omega)) rfl (t := 177) rfl (fun c1 => ?_) (fun c1 => ?_)
    · -- 177
      refine pw_iconst (v := nI (0)) rfl (by decide) ?_
      exact absurd c1 (by omega)
    · -- 40
      refine pw_iconst (v := (-1)) rfl (by decide) ?_
      refine pw_istore (ls1 := [some (.inr (some (103))), some (.inl (w)), some (.inl (g)), some (.inl (nI (t))), some (.inl ((-1))), o5, o6]) rfl (Nat.le_of_ble_eq_true rfl) rfl ?_
      refine pw_iconst (v := nI (0)) rfl (by decide) ?_
      refine pw_istore (ls1 := [some (.inr (some (103))), some (.inl (w)), some (.inl (g)), some (.inl (nI (t))), some (.inl ((-1))), some (.inl (nI (0))), o6]) rfl (Nat.le_of_ble_eq_true rfl) rfl ?_
      refine t_sends_3 4 0 none _ rfl (fun b q => by cases q) (fun o => ?_)
      cases e : tbst G w g 4 0 none with
      | none =>
        rw [tsn_none e] at k
        show pw pP mSBModel_sends (136, [some (.inr (some (103))), some (.inl (w)), some (.inl (g)), some (.inl (nI (t))), some (.inl (-1)), some (.inl (nI (4))), o], [], 0, 0, hb (sL L) F G R sO) Q
        refine pw_iload rfl rfl ?_
        refine pw_if1p (A := 0 ≤ -1) rfl rfl (t := 143) rfl (fun q => absurd q (by decide)) (fun _ => ?_)
        refine pw_iconst (v := nI (0)) rfl (by decide) ?_
        exact pw_iret rfl rfl (Nat.zero_le _) (Nat.zero_le _) rfl k
      | some b =>
        have hb4 : b < 4 := tbst_lt 4 0 none (by decide) (fun b q => by cases q) b e
        have h1 := hlh b hb4
        have h2 := hh b hb4
        have h3 := hf6 b hb4
        show pw pP mSBModel_sends (136, [some (.inr (some (103))), some (.inl (w)), some (.inl (g)), some (.inl (nI (t))), some (.inl (nI (b))), some (.inl (nI (4))), o], [], 0, 0, hb (sL L) F G R sO) Q
        have h9 : to3 G b (hi b - lw b) (lw b) 0 < 2 ^ 31 := Nat.lt_of_le_of_lt (to3_le _ _ _) (by omega)
        refine pw_iload rfl rfl ?_
        refine pw_if1p (cz_ge (by omega)) rfl (t := 143) rfl (fun _ => ?_) (fun q => absurd (by omega) q)
        refine pw_iload_n rfl rfl ?_
        refine pw_iconst (v := nI (1)) rfl (by decide) ?_
        refine pw_iload rfl rfl ?_
        refine pw_ishl (z := (nI (1)) <<< ((nI (b)) &&& 31)) rfl rfl ?_
        refine pw_ior (z := g ||| ((nI (1)) <<< ((nI (b)) &&& 31))) rfl rfl ?_
        refine pw_istore_n (ls1 := [some (.inr (some (103))), some (.inl (w)), some (.inl (g ||| ((nI (1)) <<< ((nI (b)) &&& 31)))), some (.inl (nI (t))), some (.inl (nI (b))), some (.inl (nI (4))), o]) rfl (Nat.le_of_ble_eq_true rfl) rfl ?_
        refine pw_aload_n rfl rfl ?_
        refine pw_iload rfl rfl ?_
        refine px_callv (as := [.inr (some (103)), .inl (nI (b))]) (rest := []) rfl rfl (by decide) rfl (Nat.le_of_ble_eq_true rfl) (Nat.le_of_ble_eq_true rfl) (Nat.le_of_ble_eq_true rfl) (Nat.le_of_ble_eq_true rfl) rfl rfl rfl rfl ?_
        refine t_open3 hb4 (hlw b hb4) (hhi b hb4) h1 h2 ?_
        show pw pP mSBModel_sends (156, [some (.inr (some (103))), some (.inl (w)), some (.inl (g ||| ((nI (1)) <<< ((nI (b)) &&& 31)))), some (.inl (nI (t))), some (.inl (nI (b))), some (.inl (nI (4))), o], [.inl (nI (to3 G b (hi b - lw b) (lw b) 0))], 0, 0, hb (sL L) F G R sO) _
        refine pw_iconst (v := nI (3)) rfl (by decide) ?_
        refine pw_if2p (cn_ge (by omega) (by omega)) rfl (t := 171) rfl (fun c2 => ?_) (fun c2 => ?_)
        · -- 171
          refine pw_iinc (v := nI (t + 1)) (ls1 := [some (.inr (some (103))), some (.inl (w)), some (.inl (g ||| ((nI (1)) <<< ((nI (b)) &&& 31)))), some (.inl (nI (t + 1))), some (.inl (nI (b))), some (.inl (nI (4))), o]) rfl rfl (iinc_n _) rfl ?_
          refine pw_goto (t := 35) rfl rfl ?_
          have ha : tab F G kn ln ed lw hi b = false := by simp only [tab, Bool.and_eq_false_iff, decide_eq_false_iff_not]; exact Or.inl (by omega)
          rw [tsn_f e ha] at k
          exact ih (t + 1) _ _ _ _ (by omega) k
        · -- 160
          by_cases hc : tcan kn ln ed (lw b) (hi b) (lu F G b kn ln)
          · have ha : tab F G kn ln ed lw hi b = true := by simp only [tab, Bool.and_eq_true, Bool.and_eq_false_iff, decide_eq_true_eq, decide_eq_false_iff_not]; exact ⟨by omega, hc⟩
            rw [tsn_t e ha] at k
            obtain ⟨g1, g2, g3⟩ := hcap b hb4 (by rw [tbst_w 4 0 none (fun b q => by cases q) b e]; exact hw) hc
            refine pw_aload_n rfl rfl ?_
            refine pw_iload rfl rfl ?_
            refine px_callv (as := [.inr (some (103)), .inl (nI (b))]) (rest := []) rfl rfl (by decide) rfl (Nat.le_of_ble_eq_true rfl) (Nat.le_of_ble_eq_true rfl) (Nat.le_of_ble_eq_true rfl) (Nat.le_of_ble_eq_true rfl) rfl rfl rfl rfl ?_
            refine t_load_yes hb4 hkn hln hl2 hkl hed hed2 hms hms2 hms1 (hlw b hb4) (by omega) (hhi b hb4) h2 (hfl b hb4) h3 hc g1 g2 g3 ?_
            show pw pP mSBModel_sends (166, [some (.inr (some (103))), some (.inl (w)), some (.inl (g ||| ((nI (1)) <<< ((nI (b)) &&& 31)))), some (.inl (nI (t))), some (.inl (nI (b))), some (.inl (nI (4))), o], [.inl (nI (1))], 0, 0, hb (sL L) (tbegin F G b (lu F G b kn ln) (lm F G b kn ln ed ms) (hi b) (fl b)).1 (tbegin F G b (lu F G b kn ln) (lm F G b kn ln ed ms) (hi b) (fl b)).2 R sO) _
            refine pw_if1 (t := 171) rfl rfl (fun q => absurd q (by decide)) (fun _ => ?_)
            refine pw_iconst (v := nI (1)) rfl (by decide) ?_
            exact pw_iret rfl rfl (Nat.zero_le _) (Nat.zero_le _) rfl k
          · have ha : tab F G kn ln ed lw hi b = false := by simp only [tab, Bool.and_eq_true, Bool.and_eq_false_iff, decide_eq_true_eq, decide_eq_false_iff_not]; exact Or.inr hc
            rw [tsn_f e ha] at k
            refine pw_aload_n rfl rfl ?_
            refine pw_iload rfl rfl ?_
            refine px_callv (as := [.inr (some (103)), .inl (nI (b))]) (rest := []) rfl rfl (by decide) rfl (Nat.le_of_ble_eq_true rfl) (Nat.le_of_ble_eq_true rfl) (Nat.le_of_ble_eq_true rfl) (Nat.le_of_ble_eq_true rfl) rfl rfl rfl rfl ?_
            refine t_load_no hb4 hkn hln hl2 hkl hed hed2 hms hms2 hms1 (hlw b hb4) (by omega) (hhi b hb4) h2 (hfl b hb4) h3 hc ?_
            show pw pP mSBModel_sends (166, [some (.inr (some (103))), some (.inl (w)), some (.inl (g ||| ((nI (1)) <<< ((nI (b)) &&& 31)))), some (.inl (nI (t))), some (.inl (nI (b))), some (.inl (nI (4))), o], [.inl (nI (0))], 0, 0, hb (sL L) F G R sO) _
            refine pw_if1 (t := 171) rfl rfl (fun _ => ?_) (fun q => absurd q (by decide))
            refine pw_iinc (v := nI (t + 1)) (ls1 := [some (.inr (some (103))), some (.inl (w)), some (.inl (g ||| ((nI (1)) <<< ((nI (b)) &&& 31)))), some (.inl (nI (t + 1))), some (.inl (nI (b))), some (.inl (nI (4))), o]) rfl rfl (iinc_n _) rfl ?_
            refine pw_goto (t := 35) rfl rfl ?_
            exact ih (t + 1) _ _ _ _ (by omega) k
/-- the path that gets a segment now -/
def tsb (F G : FN) (kn ln ed : Nat) (lw hi : Nat → Nat) : Option Nat := tsn (tab F G kn ln ed lw hi) G (twant G 4 0 (nI 3)) 4 (nI 0)
theorem t_sends {L kn ln ed ms : Nat} {lw hi fl : Nat → Nat} {F G : FN} {R : RN} {Q : Option PV → PH → Prop} (hkn : F 103 22 = nI kn) (hln : tlen F = nI ln) (hl2 : ln ≤ 401) (hkl : kn ≤ ln) (hed : F 103 23 = nI ed) (hed2 : ed ≤ 500) (hms : F 103 0 = nI ms) (hms2 : ms ≤ 7) (hms1 : 1 ≤ ms) (hlw : ∀ b, b < 4 → G 115 b = nI (lw b)) (hhi : ∀ b, b < 4 → G 116 b = nI (hi b)) (hlh : ∀ b, b < 4 → lw b ≤ hi b) (hh : ∀ b, b < 4 → hi b ≤ 402) (hfl : ∀ b, b < 4 → G 124 (2 * b) = nI (fl b)) (hf6 : ∀ b, b < 4 → fl b ≤ 6) (hcap : ∀ b, b < 4 → (G 107 b = nI 2 ∨ G 107 b = nI 3) → tcan kn ln ed (lw b) (hi b) (lu F G b kn ln) → lu F G b kn ln + lm F G b kn ln ed ms ≤ 401 ∧ 0 < lm F G b kn ln ed ms ∧ hi b + lm F G b kn ln ed ms ≤ 402) (k : Q (some (.inl (nI (tsr (tsb F G kn ln ed lw hi))))) (hb (sL L) (tsF F G kn ln ed ms hi fl (tsb F G kn ln ed lw hi)).1 (tsF F G kn ln ed ms hi fl (tsb F G kn ln ed lw hi)).2 R sO)) : pz pP mSBModel_sends [.inr (some 103)] (hb (sL L) F G R sO) Q := by
  show pw pP mSBModel_sends (0, [some (.inr (some (103))), none, none, none, none, none, none], [], 0, 0, hb (sL L) F G R sO) _
  refine pw_iconst (v := nI (3)) rfl (by decide) ?_
  refine pw_istore_n (ls1 := [some (.inr (some (103))), some (.inl (nI (3))), none, none, none, none, none]) rfl (Nat.le_of_ble_eq_true rfl) rfl ?_
  refine pw_iconst (v := nI (0)) rfl (by decide) ?_
  refine pw_istore_n (ls1 := [some (.inr (some (103))), some (.inl (nI (3))), some (.inl (nI (0))), none, none, none, none]) rfl (Nat.le_of_ble_eq_true rfl) rfl ?_
  refine t_sends_1 4 0 (nI 3) rfl ?_
  refine pw_iconst (v := nI (0)) rfl (by decide) ?_
  refine pw_istore_n (ls1 := [some (.inr (some (103))), some (.inl (twant G 4 0 (nI 3))), some (.inl (nI (0))), none, none, none, none]) rfl (Nat.le_of_ble_eq_true rfl) rfl ?_
  refine pw_iconst (v := nI (0)) rfl (by decide) ?_
  refine pw_istore_n (ls1 := [some (.inr (some (103))), some (.inl (twant G 4 0 (nI 3))), some (.inl (nI (0))), some (.inl (nI (0))), none, none, none]) rfl (Nat.le_of_ble_eq_true rfl) rfl ?_
  exact t_sends_2 hkn hln hl2 hkl hed hed2 hms hms2 hms1 hlw hhi hlh hh hfl hf6 hcap (twant_w 4 0 (nI 3) (.inr rfl)) 4 0 (nI 0) _ _ _ rfl k
