/-! THE COUPLING, ninth part: a timer rings. -/
def rto (to : Nat) : Nat := if to ≤ 60 then 2 * to else 120
def rst (st : Nat) : Nat := if st = 2 then 3 else st
def PG.ring (γ : PG) (now : Nat) : PG := PG.mk (rst γ.st) (rto γ.to) (now + rto γ.to) γ.lw γ.hi γ.sc γ.fl γ.bl γ.nu γ.nm γ.su γ.sn (ups γ.tr 0 (γ.tr 0 + 1)) γ.pl
theorem ring_eq {θ : TG} {F f g : FN} {R : RN} {p fl : Nat} {γ : PG} (hx : CX θ.now θ.ln p γ F R g) (h3 : f 103 3 = nI θ.now) : ring_G f g p γ.lw fl = trans_G f (up2 (up2 (up2 g 110 p (nI (rto γ.to))) 111 p (nI (θ.now + rto γ.to))) 107 p (nI (rst γ.st))) p γ.lw fl := by
  have a1 := hx.to6
  have a2 := hx.to120
  have a3 := hx.st4
  unfold ring_G rto rst
  rw [hx.g110, hx.g107, h3, pk_mul]
  by_cases e : γ.to ≤ 60
  · rw [if_pos ((nI_leI (by omega) (by omega)).mpr e), if_pos e, nI_add]
    by_cases e2 : γ.st = 2
    · rw [if_pos e2, if_neg (fun q => q (by rw [e2]))]
    · rw [if_neg e2, if_pos (fun q => e2 ((nI_eq (by omega) (by omega)).mp q))]
  · rw [if_neg (fun q => e ((nI_leI (by omega) (by omega)).mp q)), if_neg e, nI_add]
    by_cases e2 : γ.st = 2
    · rw [if_pos e2, if_neg (fun q => q (by rw [e2]))]
    · rw [if_neg e2, if_pos (fun q => e2 ((nI_eq (by omega) (by omega)).mp q))]
theorem cri_eq {θ : TG} {F g : FN} {R : RN} {p : Nat} {γ : PG} (hx : CX θ.now θ.ln p γ F R g) : cri F (5 + 21 * p) (nI θ.now) = up2 (up2 (up2 F (5 + 21 * p) 8 (nI (rto γ.to))) (5 + 21 * p) 9 (nI (θ.now + rto γ.to))) (5 + 21 * p) 5 (nI (rst γ.st)) := by
  have a1 := hx.to6
  have a2 := hx.to120
  have a3 := hx.st4
  unfold cri rto rst
  rw [hx.f8, hx.f5, pk_mul]
  have e0 : (if nI 120 < nI (2 * γ.to) then nI 120 else nI (2 * γ.to)) = nI (if γ.to ≤ 60 then 2 * γ.to else 120) := by
    by_cases e : γ.to ≤ 60
    · rw [if_pos e, if_neg (fun q => by rw [nI_ltI (by omega) (by omega)] at q; omega)]
    · rw [if_neg e, if_pos ((nI_ltI (by omega) (by omega)).mpr (by omega))]
  rw [e0, nI_add]
  dsimp only
  by_cases e2 : γ.st = 2
  · rw [if_pos e2, if_pos (show nI γ.st = nI 2 by rw [e2])]
  · rw [if_neg e2, if_neg (show ¬ nI γ.st = nI 2 from fun q => e2 ((nI_eq (by omega) (by omega)).mp q))]
    symm
    refine up2_id ?_
    (repeat (first | rw [up2_eq] | rw [up2_ne (by omega)]))
    exact hx.f5
theorem CI_ringc {θ : TG} {Γ : Nat → PG} {F G f g : FN} {R : RN} {p : Nat} (h : CI θ Γ F G R f g) (hp : p < 4) (htm : (Γ p).tm = θ.now) (hn : θ.now < 2 ^ 20) (hn0 : 0 < θ.now) :
    CI θ (upG Γ p ((Γ p).ring θ.now)) (ctr (cri F (5 + 21 * p) (nI θ.now)) (5 + 21 * p) (rx R (5 + 21 * p + 17) 0) (nI θ.now)) G R f (tcnt (up2 (up2 (up2 g 110 p (nI (rto (Γ p).to))) 111 p (nI (θ.now + rto (Γ p).to))) 107 p (nI (rst (Γ p).st))) p (Γ p).lw) := by
  have hx := h.px p hp
  have hy := h.py p hp
  have hsc := hx.t0 (by omega)
  have hsc3 := hx.sc3
  have hs := (h.rw.sg p hp).1 0 (by omega)
  have hst : ¬ (Γ p).st = 4 := fun e => by have := hx.s4 e; omega
  have hnu := hx.ch0 hst hsc
  have hnn := fun j hj => CX_hn hx (j := j) hj
  have hpos := fun j hj => (hx.sb j hj).1
  have hn00 := hnn 0 hsc
  have hp00 := hpos 0 hsc
  have hh4 := hx.h402
  have hlh := hx.lh
  have a1 := hx.to6
  have a2 := hx.to120
  have r1 : 6 ≤ rto (Γ p).to ∧ rto (Γ p).to ≤ 120 := by unfold rto; split <;> omega
  have r2 : rst (Γ p).st ≤ 4 ∧ (rst (Γ p).st = 4 ↔ (Γ p).st = 4) ∧ (rst (Γ p).st = 0 ↔ (Γ p).st = 0) := by
    have := hx.st4
    unfold rst
    split <;> omega
  have hinj : ∀ j k, j < (Γ p).sc → k < (Γ p).sc → (Γ p).nu j = (Γ p).nu k → j = k := by
    intro j k hj hk e
    have c0 : 1 < (Γ p).sc → (Γ p).nu 1 = (Γ p).nu 0 + (Γ p).nm 0 := fun q => hx.ch2 0 q
    have c1 : 2 < (Γ p).sc → (Γ p).nu 2 = (Γ p).nu 1 + (Γ p).nm 1 := fun q => hx.ch2 1 q
    have d1 : 1 < (Γ p).sc → 1 ≤ (Γ p).nm 1 := fun q => hpos 1 q
    have tj : j = 0 ∨ j = 1 ∨ j = 2 := by omega
    have tk : k = 0 ∨ k = 1 ∨ k = 2 := by omega
    rcases tj with t | t | t <;> subst t <;> rcases tk with t | t | t <;> subst t <;> omega
  rw [cri_eq hx]
  obtain ⟨F2, hF2⟩ : ∃ F2, F2 = ctr (up2 (up2 (up2 F (5 + 21 * p) 8 (nI (rto (Γ p).to))) (5 + 21 * p) 9 (nI (θ.now + rto (Γ p).to))) (5 + 21 * p) 5 (nI (rst (Γ p).st))) (5 + 21 * p) (rx R (5 + 21 * p + 17) 0) (nI θ.now) := ⟨_, rfl⟩
  obtain ⟨g2, hg2⟩ : ∃ g2, g2 = tcnt (up2 (up2 (up2 g 110 p (nI (rto (Γ p).to))) 111 p (nI (θ.now + rto (Γ p).to))) 107 p (nI (rst (Γ p).st))) p (Γ p).lw := ⟨_, rfl⟩
  rw [← hF2, ← hg2]
  have hFo : ∀ i k, ¬ (i = 5 + 21 * p ∧ (k = 8 ∨ k = 9 ∨ k = 5 ∨ k = 13)) → ¬ (i = rx R (5 + 21 * p + 17) 0 ∧ (k = 4 ∨ k = 5)) → F2 i k = F i k := by
    intro i k a b
    subst hF2
    unfold ctr
    (repeat (first | rw [up2_eq] | rw [up2_ne (by omega)]))
  have hgo : ∀ r w, ¬ (w = p ∧ (r = 110 ∨ r = 111 ∨ r = 107 ∨ r = 117)) → ¬ (r = 121 ∧ w = 402 * p + (Γ p).lw) → g2 r w = g r w := by
    intro r w a b
    subst hg2
    unfold tcnt
    (repeat (first | rw [up2_eq] | rw [up2_ne (by omega)]))
  have hrx : ∀ j, j < (Γ p).sc → ¬ j = 0 → ¬ rx R (5 + 21 * p + 17) j = rx R (5 + 21 * p + 17) 0 := fun j hj h0 e => h0 ((h.rw.sg p hp).2 j 0 (by omega) (by omega) e)
  have hrb : ∀ j, j < (Γ p).sc → 5 + 21 * p + 18 ≤ rx R (5 + 21 * p + 17) j ∧ rx R (5 + 21 * p + 17) j ≤ 5 + 21 * p + 20 := fun j hj => ((h.rw.sg p hp).1 j (by omega)).2
  have hnj : ∀ j, j < (Γ p).sc → ¬ j = 0 → ¬ (Γ p).nu j = (Γ p).lw := fun j hj h0 e => h0 (hinj j 0 hj hsc (by omega))
  refine CI_step1 h hp h.rw (fun i k a => hFo i k (by omega) (by omega)) (fun _ _ => rfl) (fun r a => by funext w; exact hgo r w (by omega) (by omega)) (fun r q a b c => hgo r q (by omega) (by omega)) (fun r w a b c => hgo r w (by omega) (by omega)) (fun q a b => hgo _ _ (by omega) (by omega)) (fun r w a b c => hgo _ _ (by omega) (by omega)) rfl rfl ?_ ?_
  · refine CX.mk ?_ ?_ ?_ ?_ ?_ ?_ ?_ ?_ ?_ ?_ ?_ ?_ ?_ ?_ ?_ ?_ hx.sc3 hx.lh hx.h402 r2.1 r1.1 r1.2 ?_ (fun _ => hsc) (fun e => hx.s0 (r2.2.2.mp e)) (fun e => hx.s1 (fun q => e (r2.2.2.mpr q))) (fun e => absurd (r2.2.1.mp e) hst) ?_ ?_ ?_ ?_ ?_ ?_ ?_ (fun _ => hx.ch0 hst) (fun _ => hx.ch1 hst) hx.ch2 hx.ch3 hx.sy hx.dt ?_ ?_ ?_ hx.pc
    · rw [hFo _ _ (by omega) (by omega)]; exact hx.f3
    · rw [hFo _ _ (by omega) (by omega)]; exact hx.f4
    · rw [hgo _ _ (by omega) (by omega)]; exact hx.g116
    · rw [hgo _ _ (by omega) (by omega)]; exact hx.g115
    · subst hF2; unfold ctr; (repeat (first | rw [up2_eq] | rw [up2_ne (by omega)])); rfl
    · subst hg2; unfold tcnt; (repeat (first | rw [up2_eq] | rw [up2_ne (by omega)])); rfl
    · rw [hFo _ _ (by omega) (by omega), hgo _ _ (by omega) (by omega)]; exact hx.f6
    · rw [hFo _ _ (by omega) (by omega), hgo _ _ (by omega) (by omega)]; exact hx.f7
    · subst hF2; unfold ctr; (repeat (first | rw [up2_eq] | rw [up2_ne (by omega)])); rfl
    · subst hg2; unfold tcnt; (repeat (first | rw [up2_eq] | rw [up2_ne (by omega)])); rfl
    · show _ = if θ.now + rto (Γ p).to = 0 then -1 else nI (θ.now + rto (Γ p).to)
      rw [if_neg (by omega)]
      subst hF2; unfold ctr; (repeat (first | rw [up2_eq] | rw [up2_ne (by omega)]))
    · subst hg2; unfold tcnt; (repeat (first | rw [up2_eq] | rw [up2_ne (by omega)])); rfl
    · rw [hFo _ _ (by omega) (by omega), hgo _ _ (by omega) (by omega)]; exact hx.f10
    · rw [hFo _ _ (by omega) (by omega), hgo _ _ (by omega) (by omega)]; exact hx.f11
    · rw [hFo _ _ (by omega) (by omega), hgo _ _ (by omega) (by omega)]; exact hx.f12
    · subst hF2 hg2; unfold ctr tcnt; (repeat (first | rw [up2_eq] | rw [up2_ne (by omega)])); rw [hx.f13]
    · show θ.now + rto (Γ p).to ≤ θ.now + 120
      omega
    · intro j hj
      show _ ∧ _ ∧ _ ∧ _ ∧ _ = nI (ups (Γ p).tr 0 ((Γ p).tr 0 + 1) j)
      obtain ⟨d1, d2, d3, d4, d5⟩ := hx.sg j hj
      have hrbj := hrb j hj
      rw [hFo _ 0 (by omega) (by omega), hFo _ 1 (by omega) (by omega), hFo _ 2 (by omega) (by omega), hFo _ 3 (by omega) (by omega)]
      refine ⟨d1, d2, d3, d4, ?_⟩
      by_cases e : j = 0
      · subst e
        rw [ups_eq]
        subst hF2
        unfold ctr
        (repeat (first | rw [up2_eq] | rw [up2_ne (by omega)]))
        rw [d5, nI_add]
      · have := hrx j hj e
        rw [ups_ne e, hFo _ _ (by omega) (by omega)]
        exact d5
    · intro j hj
      show _ = nI (ups (Γ p).tr 0 ((Γ p).tr 0 + 1) j) ∧ _
      obtain ⟨d1, d2⟩ := hx.sh j hj
      rw [hgo 119 _ (by omega) (by omega)]
      refine ⟨?_, d2⟩
      have q : (Γ p).ring θ.now = (Γ p).ring θ.now := rfl
      by_cases e : j = 0
      · subst e
        rw [ups_eq]
        show g2 121 (402 * p + (Γ p).nu 0) = _
        rw [hnu]
        rw [hnu] at d1
        subst hg2
        unfold tcnt
        (repeat (first | rw [up2_eq] | rw [up2_ne (by omega)]))
        rw [d1, nI_add]
      · have := hnj j hj e
        rw [ups_ne e]
        show g2 121 (402 * p + (Γ p).nu j) = _
        rw [hgo _ _ (by omega) (by omega)]
        exact d1
    · intro j hj
      show 1 ≤ (Γ p).nm j ∧ (Γ p).nm j ≤ 7 ∧ 1 ≤ ups (Γ p).tr 0 ((Γ p).tr 0 + 1) j ∧ ups (Γ p).tr 0 ((Γ p).tr 0 + 1) j ≤ θ.now + 1 ∧ (θ.now + rto (Γ p).to = θ.now → ups (Γ p).tr 0 ((Γ p).tr 0 + 1) j ≤ θ.now)
      obtain ⟨d1, d2, d3, d4, d5⟩ := hx.sb j hj
      have d5 := d5 htm
      by_cases e : j = 0
      · subst e
        rw [ups_eq]
        omega
      · rw [ups_ne e]
        omega
    · intro j hj ht
      have ht : ups (Γ p).tr 0 ((Γ p).tr 0 + 1) j = 1 := ht
      have hrbj := hrb j hj
      by_cases e : j = 0
      · subst e
        rw [ups_eq] at ht
        have := (hx.sb 0 hj).2.2.1
        omega
      · rw [ups_ne e] at ht
        have := hrx j hj e
        rw [hFo _ _ (by omega) (by omega), hgo _ _ (by omega) (by omega)]
        exact hx.s8 j hj ht
    · intro j hj i i0 i1
      rw [hgo _ _ (by omega) (by omega)]
      exact hx.z1 j hj i i0 i1
    · intro m a b
      rw [hgo _ _ (by omega) (by omega)]
      exact hx.z2 m a b
    · intro m a b
      have a2 : (Γ p).hi ≤ m := a
      rw [hgo _ _ (by omega) (by omega)]
      exact hx.z3 m a b
    · intro j hj a i hi
      rw [hgo _ _ (by omega) (by omega)]
      exact hx.d2 j hj a i hi
    · intro u hu
      rw [hgo _ _ (by omega) (by omega)]
      exact hx.pg u hu
    · intro u hu a
      obtain ⟨d1, d2⟩ := hx.pu u hu a
      refine ⟨d1, ?_⟩
      rw [hgo _ _ (by omega) (by omega)]
      exact d2
  · exact CY_congr (h.rw.pf p hp) (h.rw.pb p hp) hy (Nat.le_refl _) (Nat.le_refl _) rfl rfl (fun e => e.elim (fun e => .inl (r2.2.1.mp e)) (fun e => .inr (r2.2.2.mp e))) rfl rfl (fun i k a b => hFo i k (by omega) (by omega)) (fun q hq => hgo _ _ (by omega) (by omega)) (fun q r k hq a b c => hgo _ _ (by omega) (by omega))
theorem CI_ring0 {θ : TG} {Γ : Nat → PG} {F G f g : FN} {R : RN} {p : Nat} (h : CI θ Γ F G R f g) (hp : p < 4) (htm : (Γ p).tm = θ.now) (hn : θ.now < 2 ^ 20) (hn0 : 0 < θ.now) (h0 : (Γ p).nu 0 = 0) :
    CI θ (upG Γ p (((Γ p).ring θ.now).sf (shn F (5 + 21 * p) (Γ p).fl))) (ctr0_F (cri F (5 + 21 * p) (nI θ.now)) (5 + 21 * p) (rx R (5 + 21 * p + 17) 0) (rx R (5 + 21 * p + 1 + 1) (Γ p).fl) (Γ p).fl (nI θ.now)) G R f (ring_G f g p (Γ p).lw (Γ p).fl) := by
  have hx := h.px p hp
  have hsc := hx.t0 (by omega)
  have hst : ¬ (Γ p).st = 4 := fun e => by have := hx.s4 e; omega
  have hnu := hx.ch0 hst hsc
  have h2 := CI_ringc h hp htm hn hn0
  have h3 := CI_shipf (k1 := nI 0) (k2 := nI 0) (k3 := nI 0) (k4 := g 109 p) (k5 := nI 0) (t := nI θ.now) h2 hp (by rw [upG_eq]; show ¬ (rst (Γ p).st = 4 ∨ rst (Γ p).st = 0); have := CX_hn hx hsc; have := (hx.sb 0 hsc).1; have := hx.s0; unfold rst; split <;> omega) rfl (.inl ⟨rfl, rfl⟩)
  rw [upG_eq, upG_upG] at h3
  have hs6 := ((h.rw.sg p hp).1 0 (by omega)).2
  have hF36 : ctr (cri F (5 + 21 * p) (nI θ.now)) (5 + 21 * p) (rx R (5 + 21 * p + 17) 0) (nI θ.now) (5 + 21 * p) 6 = F (5 + 21 * p) 6 := by
    rw [ctr_ne (by omega) (by omega) (by omega), cri_ne (by omega) (by omega) (by omega)]
  unfold shn at h3 ⊢
  rw [hF36] at h3
  rw [ring_eq hx h.ct.n2]
  have e0 : (Γ p).lw = 0 := by omega
  rw [e0] at h3 ⊢
  rw [trans_0]
  unfold ctr0_F
  have e7 : cri F (5 + 21 * p) (nI θ.now) (5 + 21 * p) 7 = g 109 p := by
    rw [cri_ne (by omega) (by omega) (by omega)]
    exact hx.f7
  have e9 : up2 (up2 (up2 g 110 p (nI (rto (Γ p).to))) 111 p (nI (θ.now + rto (Γ p).to))) 107 p (nI (rst (Γ p).st)) 109 p = g 109 p := by
    (repeat (first | rw [up2_eq] | rw [up2_ne (by omega)]))
  rw [e7, e9]
  exact h3
theorem CI_ring1 {θ : TG} {Γ : Nat → PG} {F G f g : FN} {R : RN} {p : Nat} (h : CI θ Γ F G R f g) (hp : p < 4) (htm : (Γ p).tm = θ.now) (hn : θ.now < 2 ^ 20) (hn0 : 0 < θ.now) (h0 : ¬ (Γ p).nu 0 = 0) :
    CI θ (upG Γ p (((Γ p).ring θ.now).sf (shn F (5 + 21 * p) (Γ p).fl))) (ctr1_F (cri F (5 + 21 * p) (nI θ.now)) G (5 + 21 * p) (rx R (5 + 21 * p + 17) 0) (rx R (5 + 21 * p + 1 + 1) (Γ p).fl) (Γ p).fl (nI θ.now) ((Γ p).nu 0) ((Γ p).su 0) ((Γ p).nm 0) θ.ln) G R f (ring_G f g p (Γ p).lw (Γ p).fl) := by
  have hx := h.px p hp
  have hsc := hx.t0 (by omega)
  have hst : ¬ (Γ p).st = 4 := fun e => by have := hx.s4 e; omega
  have hnu := hx.ch0 hst hsc
  have h2 := CI_ringc h hp htm hn hn0
  obtain ⟨d1, d2, d3⟩ := hx.dt 0 hsc (by omega)
  obtain ⟨b1, b2, _⟩ := hx.sb 0 hsc
  have hnn := CX_hn hx hsc
  have h3 := CI_shipf (k1 := nI 1) (k2 := nI ((Γ p).nm 0)) (k3 := nI ((Γ p).nu 0)) (k4 := nI ((Γ p).su 0)) (k5 := clast G ((Γ p).su 0 + (Γ p).nm 0 - 1) θ.ln) (t := nI θ.now) h2 hp (by rw [upG_eq]; show ¬ (rst (Γ p).st = 4 ∨ rst (Γ p).st = 0); have := CX_hn hx hsc; have := (hx.sb 0 hsc).1; have := hx.s0; unfold rst; split <;> omega) rfl (.inr ⟨rfl, (Γ p).nu 0, (Γ p).su 0, (Γ p).nm 0, rfl, rfl, rfl, b1, b2, by omega, by rw [upG_eq]; exact hnn, d2⟩)
  rw [upG_eq, upG_upG] at h3
  have hs6 := ((h.rw.sg p hp).1 0 (by omega)).2
  have hF36 : ctr (cri F (5 + 21 * p) (nI θ.now)) (5 + 21 * p) (rx R (5 + 21 * p + 17) 0) (nI θ.now) (5 + 21 * p) 6 = F (5 + 21 * p) 6 := by
    rw [ctr_ne (by omega) (by omega) (by omega), cri_ne (by omega) (by omega) (by omega)]
  unfold shn at h3 ⊢
  rw [hF36] at h3
  rw [ring_eq hx h.ct.n2, trans_1 (by omega)]
  unfold ctr1_F
  have e8 : up2 (up2 (up2 g 110 p (nI (rto (Γ p).to))) 111 p (nI (θ.now + rto (Γ p).to))) 107 p (nI (rst (Γ p).st)) 118 (402 * p + (Γ p).lw) = nI ((Γ p).su 0) := by
    (repeat (first | rw [up2_eq] | rw [up2_ne (by omega)]))
    rw [← hnu]
    exact hx.d2 0 hsc (by omega) 0 (by omega)
  have e9 : up2 (up2 (up2 g 110 p (nI (rto (Γ p).to))) 111 p (nI (θ.now + rto (Γ p).to))) 107 p (nI (rst (Γ p).st)) 119 (402 * p + (Γ p).lw) = nI ((Γ p).nm 0) := by
    (repeat (first | rw [up2_eq] | rw [up2_ne (by omega)]))
    rw [← hnu]
    exact (hx.sh 0 hsc).2
  have t3 : tlast f (up2 (up2 (up2 g 110 p (nI (rto (Γ p).to))) 111 p (nI (θ.now + rto (Γ p).to))) 107 p (nI (rst (Γ p).st))) p (Γ p).lw = clast G ((Γ p).su 0 + (Γ p).nm 0 - 1) θ.ln := by
    unfold tlast
    rw [e8, e9]
    exact last_same h.ct b1 d2
  rw [e8, e9, t3, hnu]
  rw [hnu] at h3
  exact h3
