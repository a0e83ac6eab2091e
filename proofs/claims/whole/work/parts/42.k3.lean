/-! THE COUPLING, third part: copies come and go. Rows laid by a program (wip/whole/gen/k3.py). -/
def PG.sf (γ : PG) (n : Nat) : PG := PG.mk γ.st γ.to γ.tm γ.lw γ.hi γ.sc n γ.bl γ.nu γ.nm γ.su γ.sn γ.tr γ.pl
def PG.sb (γ : PG) (n : Nat) : PG := PG.mk γ.st γ.to γ.tm γ.lw γ.hi γ.sc γ.fl n γ.nu γ.nm γ.su γ.sn γ.tr γ.pl
def shn (F : FN) (a n : Nat) : Nat := if F a 6 = 0 then n else if 6 ≤ n then n else n + 1
theorem upG_upG {Γ : Nat → PG} {p : Nat} {γ1 γ2 : PG} : upG (upG Γ p γ1) p γ2 = upG Γ p γ2 := by
  funext q
  unfold upG
  split <;> rfl
theorem upG_id {Γ : Nat → PG} {p : Nat} : upG Γ p (Γ p) = Γ := by
  funext q
  by_cases e : q = p
  · subst e
    exact upG_eq
  · exact upG_ne e
theorem CX_sf {now ln p n : Nat} {γ : PG} {F : FN} {R : RN} {g : FN} (h : CX now ln p γ F R g) : CX now ln p (γ.sf n) F R g := h
theorem CX_sb {now ln p n : Nat} {γ : PG} {F : FN} {R : RN} {g : FN} (h : CX now ln p γ F R g) : CX now ln p (γ.sb n) F R g := h
theorem segR_congr {a : Nat} {R R2 : RN} (h : segR a R) (e : R2 (a + 17) = R (a + 17)) : segR a R2 := by
  unfold segR rx
  rw [e]
  exact h
theorem pipR_congr {a : Nat} {R R2 : RN} (h : pipR a R) (e : R2 (a + 1) = R (a + 1)) : pipR a R2 := by
  unfold pipR rx
  rw [e]
  exact h
theorem RW_dropf {R : RN} {p n kk : Nat} (h : RW R) (hp : p < 4) (h6 : n ≤ 6) (hk : kk < n) : RW (tout_R R (5 + 21 * p + 1) n kk (rx R (5 + 21 * p + 1 + 1) kk)) := by
  have hr : ∀ i, ¬ i = 5 + 21 * p + 1 + 1 → tout_R R (5 + 21 * p + 1) n kk (rx R (5 + 21 * p + 1 + 1) kk) i = R i := fun i hi => tout_row hi
  refine RW.mk (fun q hq => ?_) (fun q hq => ?_) (fun q hq => segR_congr (h.sg q hq) (hr _ (by omega))) (fun q hq => ?_) (fun q hq => ?_)
  · rw [hr _ (by omega)]; exact h.r4 q hq
  · rw [hr _ (by omega)]; exact h.r93 q hq
  · by_cases e : q = p
    · subst e
      exact tout_pipR (h.pf q hp) h6 hk
    · exact pipR_congr (h.pf q hq) (hr _ (by omega))
  · exact pipR_congr (h.pb q hq) (hr _ (by omega))
theorem CI_putf {θ : TG} {Γ : Nat → PG} {F G f g : FN} {R : RN} {p : Nat} {d k1 k2 k3 k4 k5 : Int32} (h : CI θ Γ F G R f g) (hp : p < 4) (h6 : (Γ p).fl < 6) (h4 : ¬ ((Γ p).st = 4 ∨ (Γ p).st = 0)) (hc : cpF (Γ p).hi θ.ln k1 k3 k4 k2) : CI θ (upG Γ p ((Γ p).sf ((Γ p).fl + 1))) (cput F (5 + 21 * p + 1) (rx R (5 + 21 * p + 1 + 1) (Γ p).fl) (Γ p).fl d k1 k2 k3 k4 k5) G R f (tput g (2 * p) (Γ p).fl k1 k3 k4 k5 k2 d) := by
  have hy := h.py p hp
  have hR := h.rw.pf p hp
  have hx := (hR.1 (Γ p).fl h6).2
  have hF : ∀ i k, ¬ (5 + 21 * p + 1 ≤ i ∧ i ≤ 5 + 21 * p + 1 + 7) → cput F (5 + 21 * p + 1) (rx R (5 + 21 * p + 1 + 1) (Γ p).fl) (Γ p).fl d k1 k2 k3 k4 k5 i k = F i k := fun i k a => cput_ne (by omega) (by omega)
  have hg : ∀ r m, ¬ m = 6 * (2 * p) + (Γ p).fl → ¬ r = 124 → tput g (2 * p) (Γ p).fl k1 k3 k4 k5 k2 d r m = g r m := by
    intro r m a b
    by_cases c : 125 ≤ r ∧ r ≤ 130
    · exact tput_at c.1 c.2 a
    · rw [tput_row (by omega)]
  have hg4 : ∀ s, ¬ s = 2 * p → tput g (2 * p) (Γ p).fl k1 k3 k4 k5 k2 d 124 s = g 124 s := fun s a => by rw [tput_124, up2_ne2 a]
  have hgr : ∀ r, r < 124 → tput g (2 * p) (Γ p).fl k1 k3 k4 k5 k2 d r = g r := fun r a => tput_row (by omega)
  refine CI_step1 h hp h.rw (fun i k a => hF i k (by omega)) (fun _ _ => rfl) (fun r a => hgr r (by omega)) (fun r s a b _ => by rw [hgr r (by omega)]) (fun r m a b _ => by rw [hgr r (by omega)]) (fun s a b => hg4 s (by omega)) (fun r m a b c => hg r m (by omega) (by omega)) rfl rfl (CX_sf (CX_congr (h.rw.sg p hp) (h.px p hp) (Nat.le_refl _) rfl (fun k _ => hF _ _ (by omega)) (fun i k a b => hF _ _ (by omega)) (fun r a b => by rw [hgr r (by omega)]) (fun r m a b _ => by rw [hgr r (by omega)]))) ?_
  have hq2 := hy.qb
  have ho := PQ_congr (F2 := cput F (5 + 21 * p + 1) (rx R (5 + 21 * p + 1 + 1) (Γ p).fl) (Γ p).fl d k1 k2 k3 k4 k5) (R2 := R) (g2 := tput g (2 * p) (Γ p).fl k1 k3 k4 k5 k2 d) (h.rw.pb p hp) hq2 rfl (hF _ _ (by omega)) (fun i k a b => hF _ _ (by omega)) (hg4 _ (by omega)) (fun r k a b c => hg r _ (by omega) (by omega))
  have hb6 := hq2.1
  refine CY.mk (qf := PQ_put hR hy.qf h6) (qb := ho) (cf := ?_) (cb := ?_) (s4 := fun e => absurd e h4)
  · intro k hk
    by_cases e : k = (Γ p).fl
    · subst e
      obtain ⟨t1, t2, t3, t4, t5, t6⟩ := tput_new (g := g) (q := 2 * p) (n := (Γ p).fl) (x1 := k1) (x2 := k3) (x3 := k4) (x4 := k5) (x5 := k2) (x6 := d)
      rw [t1, t2, t3, t5]
      exact hc
    · have hk2 : k < (Γ p).fl + 1 := hk
      rw [hg 125 _ (by omega) (by omega), hg 126 _ (by omega) (by omega), hg 127 _ (by omega) (by omega), hg 129 _ (by omega) (by omega)]
      exact hy.cf k (by omega)
  · intro k hk
    have hk2 : k < (Γ p).bl := hk
    rw [hg 125 _ (by omega) (by omega), hg 126 _ (by omega) (by omega), hg 127 _ (by omega) (by omega), hg 128 _ (by omega) (by omega), hg 129 _ (by omega) (by omega)]
    exact hy.cb k hk2
theorem CI_shipf {θ : TG} {Γ : Nat → PG} {F G f g : FN} {R : RN} {p : Nat} {k1 k2 k3 k4 k5 t : Int32} (h : CI θ Γ F G R f g) (hp : p < 4) (h4 : ¬ ((Γ p).st = 4 ∨ (Γ p).st = 0)) (ht : t = nI θ.now) (hc : cpF (Γ p).hi θ.ln k1 k3 k4 k2) : CI θ (upG Γ p ((Γ p).sf (shn F (5 + 21 * p) (Γ p).fl))) (cship F (5 + 21 * p) (5 + 21 * p + 1) (rx R (5 + 21 * p + 1 + 1) (Γ p).fl) (Γ p).fl t k1 k2 k3 k4 k5) G R f (tship f g (2 * p) (Γ p).fl k1 k3 k4 k5 k2) := by
  have hx := h.px p hp
  have e1 : (2 * p) / 2 = p := by omega
  have he : upG Γ p ((Γ p).sf (Γ p).fl) = Γ := upG_id
  unfold tship
  rw [e1, ← hx.f6, h.ct.n2]
  by_cases h0 : F (5 + 21 * p) 6 = 0
  · rw [show shn F (5 + 21 * p) (Γ p).fl = (Γ p).fl from if_pos h0, cship_0 h0, if_pos h0, he]
    exact h
  · by_cases h6 : 6 ≤ (Γ p).fl
    · rw [show shn F (5 + 21 * p) (Γ p).fl = (Γ p).fl from (if_neg h0).trans (if_pos h6), cship_6 h6, if_neg h0, if_pos h6, he]
      exact h
    · rw [show shn F (5 + 21 * p) (Γ p).fl = (Γ p).fl + 1 from (if_neg h0).trans (if_neg h6), cship_y h0 (by omega), if_neg h0, if_neg h6, ht]
      exact CI_putf h hp (by omega) h4 hc
theorem CI_dropf {θ : TG} {Γ : Nat → PG} {F G f g : FN} {R : RN} {p kk : Nat} (h : CI θ Γ F G R f g) (hp : p < 4) (hk : kk < (Γ p).fl) : CI θ (upG Γ p ((Γ p).sf ((Γ p).fl - 1))) (tout_F F (5 + 21 * p + 1) (Γ p).fl) G (tout_R R (5 + 21 * p + 1) (Γ p).fl kk (rx R (5 + 21 * p + 1 + 1) kk)) f (tdrop g (2 * p) (Γ p).fl kk) := by
  have hy := h.py p hp
  have hR := h.rw.pf p hp
  have h6 := hy.qf.1
  have hF : ∀ i k, ¬ i = 5 + 21 * p + 1 → tout_F F (5 + 21 * p + 1) (Γ p).fl i k = F i k := fun i k a => up2_ne1 a
  have hRr : ∀ i, ¬ i = 5 + 21 * p + 1 + 1 → tout_R R (5 + 21 * p + 1) (Γ p).fl kk (rx R (5 + 21 * p + 1 + 1) kk) i = R i := fun i a => tout_row a
  have hg : ∀ r m, ¬ (6 * (2 * p) + kk ≤ m ∧ m < 6 * (2 * p) + kk + ((Γ p).fl - 1 - kk)) → ¬ r = 124 → tdrop g (2 * p) (Γ p).fl kk r m = g r m := by
    intro r m a b
    by_cases c : 125 ≤ r ∧ r ≤ 130
    · rw [tdrop_at c.1 c.2, if_neg a]
    · rw [tdrop_row (by omega)]
  have hg4 : ∀ s, ¬ s = 2 * p → tdrop g (2 * p) (Γ p).fl kk 124 s = g 124 s := fun s a => by rw [tdrop_124, up2_ne2 a]
  have hgr : ∀ r, r < 124 → tdrop g (2 * p) (Γ p).fl kk r = g r := fun r a => tdrop_row (by omega)
  refine CI_step1 h hp (RW_dropf h.rw hp h6 hk) (fun i k a => hF i k (by omega)) (fun i a => hRr i (by omega)) (fun r a => hgr r (by omega)) (fun r s a b _ => by rw [hgr r (by omega)]) (fun r m a b _ => by rw [hgr r (by omega)]) (fun s a b => hg4 s (by omega)) (fun r m a b c => hg r m (by omega) (by omega)) rfl rfl (CX_sf (CX_congr (h.rw.sg p hp) (h.px p hp) (Nat.le_refl _) (hRr _ (by omega)) (fun k _ => hF _ _ (by omega)) (fun i k a b => hF _ _ (by omega)) (fun r a b => by rw [hgr r (by omega)]) (fun r m a b _ => by rw [hgr r (by omega)]))) ?_
  have hq2 := hy.qb
  have ho := PQ_congr (F2 := tout_F F (5 + 21 * p + 1) (Γ p).fl) (R2 := tout_R R (5 + 21 * p + 1) (Γ p).fl kk (rx R (5 + 21 * p + 1 + 1) kk)) (g2 := tdrop g (2 * p) (Γ p).fl kk) (h.rw.pb p hp) hq2 (hRr _ (by omega)) (hF _ _ (by omega)) (fun i k a b => hF _ _ (by omega)) (hg4 _ (by omega)) (fun r k a b c => hg r _ (by omega) (by omega))
  have hb6 := hq2.1
  refine CY.mk (qf := PQ_drop hR hy.qf hk) (qb := ho) (cf := ?_) (cb := ?_) (s4 := fun e => absurd (hy.s4 e).1 (by omega))
  · intro k hk1
    have hk2 : k < (Γ p).fl - 1 := hk1
    rw [tdrop_at (r := 125) (by omega) (by omega), tdrop_at (r := 126) (by omega) (by omega), tdrop_at (r := 127) (by omega) (by omega), tdrop_at (r := 129) (by omega) (by omega)]
    by_cases c : kk ≤ k
    · have hc : 6 * (2 * p) + kk ≤ 6 * (2 * p) + k ∧ 6 * (2 * p) + k < 6 * (2 * p) + kk + ((Γ p).fl - 1 - kk) := by omega
      simp only [if_pos hc]
      exact hy.cf (k + 1) (by omega)
    · have hc : ¬ (6 * (2 * p) + kk ≤ 6 * (2 * p) + k ∧ 6 * (2 * p) + k < 6 * (2 * p) + kk + ((Γ p).fl - 1 - kk)) := by omega
      simp only [if_neg hc]
      exact hy.cf k (by omega)
  · intro k hk
    have hk2 : k < (Γ p).bl := hk
    rw [hg 125 _ (by omega) (by omega), hg 126 _ (by omega) (by omega), hg 127 _ (by omega) (by omega), hg 128 _ (by omega) (by omega), hg 129 _ (by omega) (by omega)]
    exact hy.cb k hk2
theorem RW_dropb {R : RN} {p n kk : Nat} (h : RW R) (hp : p < 4) (h6 : n ≤ 6) (hk : kk < n) : RW (tout_R R (5 + 21 * p + 9) n kk (rx R (5 + 21 * p + 9 + 1) kk)) := by
  have hr : ∀ i, ¬ i = 5 + 21 * p + 9 + 1 → tout_R R (5 + 21 * p + 9) n kk (rx R (5 + 21 * p + 9 + 1) kk) i = R i := fun i hi => tout_row hi
  refine RW.mk (fun q hq => ?_) (fun q hq => ?_) (fun q hq => segR_congr (h.sg q hq) (hr _ (by omega))) (fun q hq => ?_) (fun q hq => ?_)
  · rw [hr _ (by omega)]; exact h.r4 q hq
  · rw [hr _ (by omega)]; exact h.r93 q hq
  · exact pipR_congr (h.pf q hq) (hr _ (by omega))
  · by_cases e : q = p
    · subst e
      exact tout_pipR (h.pb q hp) h6 hk
    · exact pipR_congr (h.pb q hq) (hr _ (by omega))
theorem CI_putb {θ : TG} {Γ : Nat → PG} {F G f g : FN} {R : RN} {p : Nat} {d k1 k2 k3 k4 k5 : Int32} (h : CI θ Γ F G R f g) (hp : p < 4) (h6 : (Γ p).bl < 6) (h4 : ¬ ((Γ p).st = 4 ∨ (Γ p).st = 0)) (hc : cpB θ.ln k1 k3 k4 k5 k2) : CI θ (upG Γ p ((Γ p).sb ((Γ p).bl + 1))) (cput F (5 + 21 * p + 9) (rx R (5 + 21 * p + 9 + 1) (Γ p).bl) (Γ p).bl d k1 k2 k3 k4 k5) G R f (tput g (2 * p + 1) (Γ p).bl k1 k3 k4 k5 k2 d) := by
  have hy := h.py p hp
  have hR := h.rw.pb p hp
  have hx := (hR.1 (Γ p).bl h6).2
  have hF : ∀ i k, ¬ (5 + 21 * p + 9 ≤ i ∧ i ≤ 5 + 21 * p + 9 + 7) → cput F (5 + 21 * p + 9) (rx R (5 + 21 * p + 9 + 1) (Γ p).bl) (Γ p).bl d k1 k2 k3 k4 k5 i k = F i k := fun i k a => cput_ne (by omega) (by omega)
  have hg : ∀ r m, ¬ m = 6 * (2 * p + 1) + (Γ p).bl → ¬ r = 124 → tput g (2 * p + 1) (Γ p).bl k1 k3 k4 k5 k2 d r m = g r m := by
    intro r m a b
    by_cases c : 125 ≤ r ∧ r ≤ 130
    · exact tput_at c.1 c.2 a
    · rw [tput_row (by omega)]
  have hg4 : ∀ s, ¬ s = 2 * p + 1 → tput g (2 * p + 1) (Γ p).bl k1 k3 k4 k5 k2 d 124 s = g 124 s := fun s a => by rw [tput_124, up2_ne2 a]
  have hgr : ∀ r, r < 124 → tput g (2 * p + 1) (Γ p).bl k1 k3 k4 k5 k2 d r = g r := fun r a => tput_row (by omega)
  refine CI_step1 h hp h.rw (fun i k a => hF i k (by omega)) (fun _ _ => rfl) (fun r a => hgr r (by omega)) (fun r s a b _ => by rw [hgr r (by omega)]) (fun r m a b _ => by rw [hgr r (by omega)]) (fun s a b => hg4 s (by omega)) (fun r m a b c => hg r m (by omega) (by omega)) rfl rfl (CX_sb (CX_congr (h.rw.sg p hp) (h.px p hp) (Nat.le_refl _) rfl (fun k _ => hF _ _ (by omega)) (fun i k a b => hF _ _ (by omega)) (fun r a b => by rw [hgr r (by omega)]) (fun r m a b _ => by rw [hgr r (by omega)]))) ?_
  have hq2 := hy.qf
  have ho := PQ_congr (F2 := cput F (5 + 21 * p + 9) (rx R (5 + 21 * p + 9 + 1) (Γ p).bl) (Γ p).bl d k1 k2 k3 k4 k5) (R2 := R) (g2 := tput g (2 * p + 1) (Γ p).bl k1 k3 k4 k5 k2 d) (h.rw.pf p hp) hq2 rfl (hF _ _ (by omega)) (fun i k a b => hF _ _ (by omega)) (hg4 _ (by omega)) (fun r k a b c => hg r _ (by omega) (by omega))
  have hb6 := hq2.1
  refine CY.mk (qb := PQ_put hR hy.qb h6) (qf := ho) (cf := ?_) (cb := ?_) (s4 := fun e => absurd e h4)
  · intro k hk
    have hk2 : k < (Γ p).fl := hk
    rw [hg 125 _ (by omega) (by omega), hg 126 _ (by omega) (by omega), hg 127 _ (by omega) (by omega), hg 129 _ (by omega) (by omega)]
    exact hy.cf k hk2
  · intro k hk
    by_cases e : k = (Γ p).bl
    · subst e
      obtain ⟨t1, t2, t3, t4, t5, t6⟩ := tput_new (g := g) (q := 2 * p + 1) (n := (Γ p).bl) (x1 := k1) (x2 := k3) (x3 := k4) (x4 := k5) (x5 := k2) (x6 := d)
      rw [t1, t2, t3, t4, t5]
      exact hc
    · have hk2 : k < (Γ p).bl + 1 := hk
      rw [hg 125 _ (by omega) (by omega), hg 126 _ (by omega) (by omega), hg 127 _ (by omega) (by omega), hg 128 _ (by omega) (by omega), hg 129 _ (by omega) (by omega)]
      exact hy.cb k (by omega)
theorem CI_shipb {θ : TG} {Γ : Nat → PG} {F G f g : FN} {R : RN} {p : Nat} {k1 k2 k3 k4 k5 t : Int32} (h : CI θ Γ F G R f g) (hp : p < 4) (h4 : ¬ ((Γ p).st = 4 ∨ (Γ p).st = 0)) (ht : t = nI θ.now) (hc : cpB θ.ln k1 k3 k4 k5 k2) : CI θ (upG Γ p ((Γ p).sb (shn F (5 + 21 * p) (Γ p).bl))) (cship F (5 + 21 * p) (5 + 21 * p + 9) (rx R (5 + 21 * p + 9 + 1) (Γ p).bl) (Γ p).bl t k1 k2 k3 k4 k5) G R f (tship f g (2 * p + 1) (Γ p).bl k1 k3 k4 k5 k2) := by
  have hx := h.px p hp
  have e1 : (2 * p + 1) / 2 = p := by omega
  have he : upG Γ p ((Γ p).sb (Γ p).bl) = Γ := upG_id
  unfold tship
  rw [e1, ← hx.f6, h.ct.n2]
  by_cases h0 : F (5 + 21 * p) 6 = 0
  · rw [show shn F (5 + 21 * p) (Γ p).bl = (Γ p).bl from if_pos h0, cship_0 h0, if_pos h0, he]
    exact h
  · by_cases h6 : 6 ≤ (Γ p).bl
    · rw [show shn F (5 + 21 * p) (Γ p).bl = (Γ p).bl from (if_neg h0).trans (if_pos h6), cship_6 h6, if_neg h0, if_pos h6, he]
      exact h
    · rw [show shn F (5 + 21 * p) (Γ p).bl = (Γ p).bl + 1 from (if_neg h0).trans (if_neg h6), cship_y h0 (by omega), if_neg h0, if_neg h6, ht]
      exact CI_putb h hp (by omega) h4 hc
theorem CI_dropb {θ : TG} {Γ : Nat → PG} {F G f g : FN} {R : RN} {p kk : Nat} (h : CI θ Γ F G R f g) (hp : p < 4) (hk : kk < (Γ p).bl) : CI θ (upG Γ p ((Γ p).sb ((Γ p).bl - 1))) (tout_F F (5 + 21 * p + 9) (Γ p).bl) G (tout_R R (5 + 21 * p + 9) (Γ p).bl kk (rx R (5 + 21 * p + 9 + 1) kk)) f (tdrop g (2 * p + 1) (Γ p).bl kk) := by
  have hy := h.py p hp
  have hR := h.rw.pb p hp
  have h6 := hy.qb.1
  have hF : ∀ i k, ¬ i = 5 + 21 * p + 9 → tout_F F (5 + 21 * p + 9) (Γ p).bl i k = F i k := fun i k a => up2_ne1 a
  have hRr : ∀ i, ¬ i = 5 + 21 * p + 9 + 1 → tout_R R (5 + 21 * p + 9) (Γ p).bl kk (rx R (5 + 21 * p + 9 + 1) kk) i = R i := fun i a => tout_row a
  have hg : ∀ r m, ¬ (6 * (2 * p + 1) + kk ≤ m ∧ m < 6 * (2 * p + 1) + kk + ((Γ p).bl - 1 - kk)) → ¬ r = 124 → tdrop g (2 * p + 1) (Γ p).bl kk r m = g r m := by
    intro r m a b
    by_cases c : 125 ≤ r ∧ r ≤ 130
    · rw [tdrop_at c.1 c.2, if_neg a]
    · rw [tdrop_row (by omega)]
  have hg4 : ∀ s, ¬ s = 2 * p + 1 → tdrop g (2 * p + 1) (Γ p).bl kk 124 s = g 124 s := fun s a => by rw [tdrop_124, up2_ne2 a]
  have hgr : ∀ r, r < 124 → tdrop g (2 * p + 1) (Γ p).bl kk r = g r := fun r a => tdrop_row (by omega)
  refine CI_step1 h hp (RW_dropb h.rw hp h6 hk) (fun i k a => hF i k (by omega)) (fun i a => hRr i (by omega)) (fun r a => hgr r (by omega)) (fun r s a b _ => by rw [hgr r (by omega)]) (fun r m a b _ => by rw [hgr r (by omega)]) (fun s a b => hg4 s (by omega)) (fun r m a b c => hg r m (by omega) (by omega)) rfl rfl (CX_sb (CX_congr (h.rw.sg p hp) (h.px p hp) (Nat.le_refl _) (hRr _ (by omega)) (fun k _ => hF _ _ (by omega)) (fun i k a b => hF _ _ (by omega)) (fun r a b => by rw [hgr r (by omega)]) (fun r m a b _ => by rw [hgr r (by omega)]))) ?_
  have hq2 := hy.qf
  have ho := PQ_congr (F2 := tout_F F (5 + 21 * p + 9) (Γ p).bl) (R2 := tout_R R (5 + 21 * p + 9) (Γ p).bl kk (rx R (5 + 21 * p + 9 + 1) kk)) (g2 := tdrop g (2 * p + 1) (Γ p).bl kk) (h.rw.pf p hp) hq2 (hRr _ (by omega)) (hF _ _ (by omega)) (fun i k a b => hF _ _ (by omega)) (hg4 _ (by omega)) (fun r k a b c => hg r _ (by omega) (by omega))
  have hb6 := hq2.1
  refine CY.mk (qb := PQ_drop hR hy.qb hk) (qf := ho) (cf := ?_) (cb := ?_) (s4 := fun e => absurd (hy.s4 e).2 (by omega))
  · intro k hk
    have hk2 : k < (Γ p).fl := hk
    rw [hg 125 _ (by omega) (by omega), hg 126 _ (by omega) (by omega), hg 127 _ (by omega) (by omega), hg 129 _ (by omega) (by omega)]
    exact hy.cf k hk2
  · intro k hk1
    have hk2 : k < (Γ p).bl - 1 := hk1
    rw [tdrop_at (r := 125) (by omega) (by omega), tdrop_at (r := 126) (by omega) (by omega), tdrop_at (r := 127) (by omega) (by omega), tdrop_at (r := 128) (by omega) (by omega), tdrop_at (r := 129) (by omega) (by omega)]
    by_cases c : kk ≤ k
    · have hc : 6 * (2 * p + 1) + kk ≤ 6 * (2 * p + 1) + k ∧ 6 * (2 * p + 1) + k < 6 * (2 * p + 1) + kk + ((Γ p).bl - 1 - kk) := by omega
      simp only [if_pos hc]
      exact hy.cb (k + 1) (by omega)
    · have hc : ¬ (6 * (2 * p + 1) + kk ≤ 6 * (2 * p + 1) + k ∧ 6 * (2 * p + 1) + k < 6 * (2 * p + 1) + kk + ((Γ p).bl - 1 - kk)) := by omega
      simp only [if_neg hc]
      exact hy.cb k (by omega)
def PG.shut (γ : PG) : PG := PG.mk 4 γ.to 0 γ.lw γ.hi 0 0 0 γ.nu γ.nm γ.su γ.sn γ.tr γ.pl
theorem CI_shut {θ : TG} {Γ : Nat → PG} {F G f g : FN} {R : RN} {p : Nat} (h : CI θ Γ F G R f g) (hp : p < 4) (h0 : ¬ (Γ p).st = 0) : CI θ (upG Γ p (Γ p).shut) (cshut_F F (5 + 21 * p)) G R f (shut_G g p) := by
  have hx := h.px p hp
  have hy := h.py p hp
  have hF : ∀ i k, ¬ (5 + 21 * p ≤ i ∧ i ≤ 5 + 21 * p + 9) → cshut_F F (5 + 21 * p) i k = F i k := by
    intro i k a
    unfold cshut_F
    rw [up2_ne (by omega), up2_ne (by omega), up2_ne (by omega), up2_ne (by omega), up2_ne (by omega)]
  have hF2 : ∀ k, ¬ k = 3 → ¬ k = 5 → ¬ k = 9 → cshut_F F (5 + 21 * p) (5 + 21 * p) k = F (5 + 21 * p) k := by
    intro k a b c
    unfold cshut_F
    rw [up2_ne (by omega), up2_ne (by omega), up2_ne (by omega), up2_ne (by omega), up2_ne (by omega)]
  have hg : ∀ r m, ¬ (r = 107 ∧ m = p) → ¬ (r = 111 ∧ m = p) → ¬ (r = 124 ∧ (m = 2 * p ∨ m = 2 * p + 1)) → shut_G g p r m = g r m := by
    intro r m a b c
    unfold shut_G
    rw [up2_ne (by omega), up2_ne (by omega), up2_ne (by omega), up2_ne (by omega)]
  refine CI_step1 h hp h.rw (fun i k a => hF i k (by omega)) (fun _ _ => rfl) (fun r a => by funext m; exact hg r m (by omega) (by omega) (by omega)) (fun r s a b c => hg r s (by omega) (by omega) (by omega)) (fun r m a b _ => hg r m (by omega) (by omega) (by omega)) (fun s a b => hg _ s (by omega) (by omega) (by omega)) (fun r m a b c => hg r m (by omega) (by omega) (by omega)) rfl rfl ?_ ?_
  · have z : ∀ P : Prop, ∀ j, j < 0 → P := fun P j hj => absurd hj (Nat.not_lt_zero j)
    refine CX.mk ?_ ?_ ?_ ?_ ?_ ?_ ?_ ?_ ?_ ?_ ?_ ?_ ?_ ?_ ?_ ?_ (Nat.zero_le _) hx.lh hx.h402 (Nat.le_refl _) hx.to6 hx.to120 (Nat.zero_le _) (fun e => absurd rfl e) (fun e => absurd (show (4 : Nat) = 0 from e) (by decide)) (fun _ => hx.s1 h0) (fun _ => rfl) (fun j hj => z _ j hj) (fun j hj => z _ j hj) (fun j hj => z _ j hj) (fun j hj => z _ j hj) (fun j hj => z _ j hj) ?_ ?_ (fun e => absurd rfl e) (fun e => absurd rfl e) (fun j hj => z _ (j + 1) hj) (fun j hj => absurd hj (Nat.succ_ne_zero j)) (fun j hj => z _ j hj) (fun j hj => z _ j hj) (fun j hj => z _ j hj) ?_ ?_ hx.pc
    · show up2 _ _ _ _ _ _ = _
      rw [up2_eq]; rfl
    · rw [hF2 _ (by omega) (by omega) (by omega)]; exact hx.f4
    · rw [hg _ _ (by omega) (by omega) (by omega)]; exact hx.g116
    · rw [hg _ _ (by omega) (by omega) (by omega)]; exact hx.g115
    · unfold cshut_F
      rw [up2_ne (by omega), up2_ne (by omega), up2_ne (by omega), up2_ne (by omega), up2_eq]
      rfl
    · unfold shut_G
      rw [up2_ne (by omega), up2_ne (by omega), up2_ne (by omega), up2_eq]
      rfl
    · rw [hF2 _ (by omega) (by omega) (by omega), hg _ _ (by omega) (by omega) (by omega)]; exact hx.f6
    · rw [hF2 _ (by omega) (by omega) (by omega), hg _ _ (by omega) (by omega) (by omega)]; exact hx.f7
    · rw [hF2 _ (by omega) (by omega) (by omega)]; exact hx.f8
    · rw [hg _ _ (by omega) (by omega) (by omega)]; exact hx.g110
    · unfold cshut_F
      rw [up2_ne (by omega), up2_eq]
      rfl
    · unfold shut_G
      rw [up2_ne (by omega), up2_ne (by omega), up2_eq]
      rfl
    · rw [hF2 _ (by omega) (by omega) (by omega), hg _ _ (by omega) (by omega) (by omega)]; exact hx.f10
    · rw [hF2 _ (by omega) (by omega) (by omega), hg _ _ (by omega) (by omega) (by omega)]; exact hx.f11
    · rw [hF2 _ (by omega) (by omega) (by omega), hg _ _ (by omega) (by omega) (by omega)]; exact hx.f12
    · rw [hF2 _ (by omega) (by omega) (by omega), hg _ _ (by omega) (by omega) (by omega)]; exact hx.f13
    · intro m a b
      rw [hg _ _ (by omega) (by omega) (by omega)]; exact hx.z2 m a b
    · intro m a b
      rw [hg _ _ (by omega) (by omega) (by omega)]; exact hx.z3 m a b
    · intro u hu
      rw [hg _ _ (by omega) (by omega) (by omega)]; exact hx.pg u hu
    · intro u hu a
      rw [hg _ _ (by omega) (by omega) (by omega)]; exact hx.pu u hu a
  · refine CY.mk ⟨Nat.zero_le _, ?_, ?_, fun k hk => absurd hk (Nat.not_lt_zero k)⟩ ⟨Nat.zero_le _, ?_, ?_, fun k hk => absurd hk (Nat.not_lt_zero k)⟩ (fun k hk => absurd hk (Nat.not_lt_zero k)) (fun k hk => absurd hk (Nat.not_lt_zero k)) (fun _ => ⟨rfl, rfl⟩)
    · unfold cshut_F
      rw [up2_ne (by omega), up2_ne (by omega), up2_ne (by omega), up2_eq]
      rfl
    · unfold shut_G
      rw [up2_ne (by omega), up2_eq]
      rfl
    · unfold cshut_F
      rw [up2_ne (by omega), up2_ne (by omega), up2_eq]
      rfl
    · unfold shut_G
      rw [up2_eq]
      rfl
theorem CI_delay {θ : TG} {Γ : Nat → PG} {F G f g : FN} {R : RN} {p : Nat} {x : Int32} (h : CI θ Γ F G R f g) (hp : p < 4) : CI θ Γ (up2 F (5 + 21 * p) 6 x) G R f (up2 g 108 p x) := by
  have hx := h.px p hp
  have hy := h.py p hp
  have hF : ∀ i k, ¬ (i = 5 + 21 * p ∧ k = 6) → up2 F (5 + 21 * p) 6 x i k = F i k := fun i k a => up2_ne a
  have hg : ∀ r m, ¬ (r = 108 ∧ m = p) → up2 g 108 p x r m = g r m := fun r m a => up2_ne a
  have key := CI_step1 (γ2 := Γ p) (F2 := up2 F (5 + 21 * p) 6 x) (g2 := up2 g 108 p x) h hp h.rw (fun i k a => hF i k (by omega)) (fun _ _ => rfl) (fun r a => up2_row (by omega)) (fun r s a b c => hg r s (by omega)) (fun r m a b _ => hg r m (by omega)) (fun s a b => hg _ s (by omega)) (fun r m a b c => hg r m (by omega)) rfl rfl
  rw [upG_id] at key
  have hs := h.rw.sg p hp
  have h3 := hx.sc3
  refine key ?_ (CY_congr (h.rw.pf p hp) (h.rw.pb p hp) hy (Nat.le_refl _) (Nat.le_refl _) rfl rfl id rfl rfl (fun i k a b => hF _ _ (by omega)) (fun s hs => hg _ _ (by omega)) (fun s r k hs a b c => hg _ _ (by omega)))
  refine CX.mk ?_ ?_ ?_ ?_ ?_ ?_ ?_ ?_ ?_ ?_ ?_ ?_ ?_ ?_ ?_ ?_ hx.sc3 hx.lh hx.h402 hx.st4 hx.to6 hx.to120 hx.tmb hx.t0 hx.s0 hx.s1 hx.s4 ?_ ?_ hx.sb ?_ ?_ ?_ ?_ hx.ch0 hx.ch1 hx.ch2 hx.ch3 hx.sy hx.dt ?_ ?_ ?_ hx.pc
  · rw [hF _ _ (by omega)]; exact hx.f3
  · rw [hF _ _ (by omega)]; exact hx.f4
  · rw [hg _ _ (by omega)]; exact hx.g116
  · rw [hg _ _ (by omega)]; exact hx.g115
  · rw [hF _ _ (by omega)]; exact hx.f5
  · rw [hg _ _ (by omega)]; exact hx.g107
  · rw [up2_eq, up2_eq]
  · rw [hF _ _ (by omega), hg _ _ (by omega)]; exact hx.f7
  · rw [hF _ _ (by omega)]; exact hx.f8
  · rw [hg _ _ (by omega)]; exact hx.g110
  · rw [hF _ _ (by omega)]; exact hx.f9
  · rw [hg _ _ (by omega)]; exact hx.g111
  · rw [hF _ _ (by omega), hg _ _ (by omega)]; exact hx.f10
  · rw [hF _ _ (by omega), hg _ _ (by omega)]; exact hx.f11
  · rw [hF _ _ (by omega), hg _ _ (by omega)]; exact hx.f12
  · rw [hF _ _ (by omega), hg _ _ (by omega)]; exact hx.f13
  · intro j hj
    have := (hs.1 j (by omega)).2
    rw [hF _ _ (by omega), hF _ _ (by omega), hF _ _ (by omega), hF _ _ (by omega), hF _ _ (by omega)]
    exact hx.sg j hj
  · intro j hj
    rw [hg _ _ (by omega), hg _ _ (by omega)]; exact hx.sh j hj
  · intro j hj a
    have := (hs.1 j (by omega)).2
    rw [hF _ _ (by omega), hg _ _ (by omega)]; exact hx.s8 j hj a
  · intro j hj i a b
    rw [hg _ _ (by omega)]; exact hx.z1 j hj i a b
  · intro m a b
    rw [hg _ _ (by omega)]; exact hx.z2 m a b
  · intro m a b
    rw [hg _ _ (by omega)]; exact hx.z3 m a b
  · intro j hj a i b
    rw [hg _ _ (by omega)]; exact hx.d2 j hj a i b
  · intro u hu
    rw [hg _ _ (by omega)]; exact hx.pg u hu
  · intro u hu a
    rw [hg _ _ (by omega)]; exact hx.pu u hu a
