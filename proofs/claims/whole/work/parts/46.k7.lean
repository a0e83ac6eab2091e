/-! THE COUPLING, seventh part: a SYN is sent. -/
def tcnt (G : FN) (p f : Nat) : FN := up2 (up2 G 121 (402 * p + f) (G 121 (402 * p + f) + nI 1)) 117 p (G 117 p + nI 1)
def tlast (F G : FN) (p f : Nat) : Int32 := if F 103 6 = 0 then nI 0 else if ¬ G 118 (402 * p + f) + G 119 (402 * p + f) - nI 1 = F 103 5 then nI 0 else nI 1
theorem trans_0 {F G : FN} {p fl : Nat} : trans_G F G p 0 fl = tship F (tcnt G p 0) (2 * p) fl (nI 0) (nI 0) (G 109 p) (nI 0) (nI 0) := by
  unfold trans_G
  rw [if_neg (fun h => h rfl)]
  rfl
theorem trans_1 {F G : FN} {p f fl : Nat} (h : ¬ f = 0) : trans_G F G p f fl = tship F (tcnt G p f) (2 * p) fl (nI 1) (nI f) (G 118 (402 * p + f)) (tlast F G p f) (G 119 (402 * p + f)) := by
  unfold trans_G tlast
  rw [if_pos h]
  split
  · rfl
  · split <;> rfl
theorem CX_st0 {now ln p : Nat} {γ : PG} {F : FN} {R : RN} {g : FN} (h : CX now ln p γ F R g) (h0 : γ.st = 0) : γ.hi = 0 ∧ γ.sc = 0 ∧ γ.tm = 0 ∧ γ.lw = 0 := by
  have h1 := h.s0 h0
  have h2 : γ.sc = 0 := by
    by_cases e : γ.sc = 0
    · exact e
    · have := h.ch3 (γ.sc - 1) (by omega)
      have := (h.sb (γ.sc - 1) (by omega)).1
      omega
  have h3 := h.t0
  have h4 := h.lh
  refine ⟨h1, h2, ?_, by omega⟩
  by_cases e : γ.tm = 0
  · exact e
  · have := h3 e
    omega
theorem CI_open {θ : TG} {Γ : Nat → PG} {F G f g : FN} {R : RN} {p : Nat} {d tk : Int32} (h : CI θ Γ F G R f g) (hp : p < 4) (h0 : (Γ p).st = 0) (hn : θ.now < 2 ^ 20) :
    ∃ Γ2, CI θ Γ2 (ctr0_F (csf (csyn (up2 F (5 + 21 * p) 6 d) (5 + 21 * p) (rx R (5 + 21 * p + 17) 0) 0 0 tk) (5 + 21 * p) (nI θ.now)) (5 + 21 * p) (rx R (5 + 21 * p + 17) 0) (rx R (5 + 21 * p + 1 + 1) (Γ p).fl) (Γ p).fl (nI θ.now)) G R f
      (bendS f (up2 (tb0 f (up2 (up2 (up2 g 107 p (nI 1)) 108 p d) 109 p tk) p 1 0) 118 (402 * p + 0 + 0) ((-1) + nI 0)) p 0 (Γ p).fl) := by
  have hx := h.px p hp
  have hy := h.py p hp
  obtain ⟨z1, z2, z3, z4⟩ := CX_st0 hx h0
  have hs := (h.rw.sg p hp).1 0 (by omega)
  have hto := hx.to6
  have hto2 := hx.to120
  obtain ⟨F1, hF1⟩ : ∃ F1, F1 = csyn (up2 F (5 + 21 * p) 6 d) (5 + 21 * p) (rx R (5 + 21 * p + 17) 0) 0 0 tk := ⟨_, rfl⟩
  have hF1e : ∀ i k, ¬ (5 + 21 * p ≤ i ∧ i ≤ 5 + 21 * p + 20) → F1 i k = F i k := by
    intro i k a
    subst hF1
    unfold csyn cadd_F
    (repeat (first | rw [up2_eq] | rw [up2_ne (by omega)]))
  have e9 : F1 (5 + 21 * p) 9 = -1 := by
    subst hF1
    unfold csyn cadd_F
    (repeat (first | rw [up2_eq] | rw [up2_ne (by omega)]))
    rw [hx.f9, if_pos z3]
  have e8 : F1 (5 + 21 * p) 8 = nI (Γ p).to := by
    subst hF1
    unfold csyn cadd_F
    (repeat (first | rw [up2_eq] | rw [up2_ne (by omega)]))
    exact hx.f8
  rw [← hF1, show csf F1 (5 + 21 * p) (nI θ.now) = up2 F1 (5 + 21 * p) 9 (nI θ.now + F1 (5 + 21 * p) 8) from if_pos e9, e8, nI_add]
  obtain ⟨g1, hg1⟩ : ∃ g1, g1 = up2 (tb0 f (up2 (up2 (up2 g 107 p (nI 1)) 108 p d) 109 p tk) p 1 0) 118 (402 * p + 0 + 0) ((-1) + nI 0) := ⟨_, rfl⟩
  have k11 : g1 111 p = 0 := by
    subst hg1
    unfold tb0
    (repeat (first | rw [up2_eq] | rw [up2_ne (by omega)]))
    rw [hx.g111, z3, nI_0]
  have k10 : g1 110 p = nI (Γ p).to := by
    subst hg1
    unfold tb0
    (repeat (first | rw [up2_eq] | rw [up2_ne (by omega)]))
    exact hx.g110
  rw [← hg1, show bendS f g1 p 0 (Γ p).fl = trans_G f (up2 (up2 g1 116 p (nI (0 + 1))) 111 p (f 103 3 + g1 110 p)) p 0 (Γ p).fl from if_neg (fun q => q k11), h.ct.n2, k10, nI_add, trans_0]
  obtain ⟨F2, hF2⟩ : ∃ F2, F2 = ctr (up2 F1 (5 + 21 * p) 9 (nI (θ.now + (Γ p).to))) (5 + 21 * p) (rx R (5 + 21 * p + 17) 0) (nI θ.now) := ⟨_, rfl⟩
  obtain ⟨g2, hg2⟩ : ∃ g2, g2 = tcnt (up2 (up2 g1 116 p (nI (0 + 1))) 111 p (nI (θ.now + (Γ p).to))) p 0 := ⟨_, rfl⟩
  have hF2e : ∀ i k, ¬ (5 + 21 * p ≤ i ∧ i ≤ 5 + 21 * p + 20) → F2 i k = F i k := by
    intro i k a
    subst hF2
    unfold ctr
    (repeat (first | rw [up2_eq] | rw [up2_ne (by omega)]))
    exact hF1e i k a
  have hF2p : ∀ i k, 5 + 21 * p + 1 ≤ i → i ≤ 5 + 21 * p + 20 → ¬ i = rx R (5 + 21 * p + 17) 0 → F2 i k = F i k := by
    intro i k a b c
    subst hF2 hF1
    unfold ctr csyn cadd_F
    (repeat (first | rw [up2_eq] | rw [up2_ne (by omega)]))
  have hg2e : ∀ r m, ¬ (107 ≤ r ∧ r ≤ 117 ∧ m = p) → ¬ (118 ≤ r ∧ r ≤ 121 ∧ m = 402 * p) → g2 r m = g r m := by
    intro r m a b
    subst hg2 hg1
    unfold tcnt tb0
    (repeat (first | rw [up2_eq] | rw [up2_ne (by omega)]))
  have hcx : CX θ.now θ.ln p ((Γ p).add θ.now 1 1 0 0 (Γ p).pl) F2 R g2 := by
    refine CX_add (h.rw.sg p hp) hx (by omega) (by omega) (by omega) (by omega) (by omega) (by omega) (by omega) (by omega) hn (fun a b => absurd z3 b) ?_ ?_ ?_ ?_ ?_ ?_ ?_ ?_ ?_ ?_ ?_ ?_ ?_ ?_ ?_ ?_ ?_ ?_ ?_ ?_ ?_ ?_ ?_ ?_ (fun _ => ⟨rfl, rfl, rfl⟩) (fun a => by omega) (fun a => by omega) (fun w a b => by omega) (fun w _ => rfl) (fun w hw => ?_) (fun w hw a => ?_) ?_
    all_goals (try rw [z2]); (try rw [z1])
    · subst hF2 hF1; unfold ctr csyn cadd_F; (repeat (first | rw [up2_eq] | rw [up2_ne (by omega)]))
    · subst hF2 hF1; unfold ctr csyn cadd_F; (repeat (first | rw [up2_eq] | rw [up2_ne (by omega)]))
    · subst hF2 hF1; unfold ctr csyn cadd_F; (repeat (first | rw [up2_eq] | rw [up2_ne (by omega)]))
    · subst hF2 hF1; unfold ctr csyn cadd_F; (repeat (first | rw [up2_eq] | rw [up2_ne (by omega)]))
    · subst hF2 hF1; unfold ctr csyn cadd_F; (repeat (first | rw [up2_eq] | rw [up2_ne (by omega)])); rfl
    · subst hF2 hF1; unfold ctr csyn cadd_F; (repeat (first | rw [up2_eq] | rw [up2_ne (by omega)]))
    · subst hF2 hF1; unfold ctr csyn cadd_F; (repeat (first | rw [up2_eq] | rw [up2_ne (by omega)]))
    · subst hF2 hF1; unfold ctr csyn cadd_F; (repeat (first | rw [up2_eq] | rw [up2_ne (by omega)]))
    · subst hF2 hF1; unfold ctr csyn cadd_F; (repeat (first | rw [up2_eq] | rw [up2_ne (by omega)]))
    · subst hF2 hF1 hg2 hg1; unfold ctr csyn cadd_F tcnt tb0; (repeat (first | rw [up2_eq] | rw [up2_ne (by omega)]))
    · subst hF2 hF1 hg2 hg1; unfold ctr csyn cadd_F tcnt tb0; (repeat (first | rw [up2_eq] | rw [up2_ne (by omega)]))
    · rw [if_pos z3]; subst hF2 hF1; unfold ctr csyn cadd_F; (repeat (first | rw [up2_eq] | rw [up2_ne (by omega)]))
    · subst hF2 hF1; unfold ctr csyn cadd_F; (repeat (first | rw [up2_eq] | rw [up2_ne (by omega)]))
    · intro k hk; subst hF2 hF1; unfold ctr csyn cadd_F; (repeat (first | rw [up2_eq] | rw [up2_ne (by omega)]))
    · intro i k a b c; exact hF2p i k (by omega) b c
    · subst hg2 hg1; unfold tcnt tb0; (repeat (first | rw [up2_eq] | rw [up2_ne (by omega)]))
    · rw [if_pos z3]; subst hg2 hg1; unfold tcnt tb0; (repeat (first | rw [up2_eq] | rw [up2_ne (by omega)]))
    · subst hg2 hg1; unfold tcnt tb0; (repeat (first | rw [up2_eq] | rw [up2_ne (by omega)]))
    · subst hg2 hg1; unfold tcnt tb0; (repeat (first | rw [up2_eq] | rw [up2_ne (by omega)]))
    · intro r hr; subst hg2 hg1; unfold tcnt tb0; (repeat (first | rw [up2_eq] | rw [up2_ne (by omega)]))
    · subst hg2 hg1; unfold tcnt tb0; (repeat (first | rw [up2_eq] | rw [up2_ne (by omega)]))
    · subst hg2 hg1; unfold tcnt tb0; (repeat (first | rw [up2_eq] | rw [up2_ne (by omega)])); exact h.ct.n2
    · subst hg2 hg1; unfold tcnt tb0; (repeat (first | rw [up2_eq] | rw [up2_ne (by omega)])); rw [hx.z3 0 (by omega) (by omega)]; rfl
    · intro r w a b c e; exact hg2e r _ (by omega) (by omega)
    · rw [hg2e _ _ (by omega) (by omega)]; exact hx.pg w hw
    · have := (hx.pu w hw a).1; omega
    · have := hx.pc; rw [z1] at this; omega
  have hcy : CY θ.ln p ((Γ p).add θ.now 1 1 0 0 (Γ p).pl) F2 R g2 := CY_congr (h.rw.pf p hp) (h.rw.pb p hp) hy (Nat.le_refl _) (Nat.le_add_right _ _) rfl rfl (fun e => absurd (show (1 : Nat) = 4 ∨ (1 : Nat) = 0 from e) (by decide)) rfl rfl (fun i k a b => hF2p i k a (by omega) (by omega)) (fun q hq => hg2e _ _ (by omega) (by omega)) (fun q r k hq a b c => hg2e _ _ (by omega) (by omega))
  have h2 : CI θ (upG Γ p ((Γ p).add θ.now 1 1 0 0 (Γ p).pl)) F2 G R f g2 := CI_step1 h hp h.rw hF2e (fun _ _ => rfl) (fun r a => by funext m; exact hg2e r m (by omega) (by omega)) (fun r q a b c => hg2e r q (by omega) (by omega)) (fun r m a b c => hg2e r m (by omega) (by omega)) (fun q a b => hg2e _ _ (by omega) (by omega)) (fun r m a b c => hg2e _ _ (by omega) (by omega)) rfl rfl hcx hcy
  obtain ⟨n, hn3⟩ : ∃ n, n = shn F2 (5 + 21 * p) (upG Γ p ((Γ p).add θ.now 1 1 0 0 (Γ p).pl) p).fl := ⟨_, rfl⟩
  have h3 := CI_shipf (k1 := nI 0) (k2 := nI 0) (k3 := nI 0) (k4 := tk) (k5 := nI 0) (t := nI θ.now) h2 hp (by rw [upG_eq]; exact fun e => absurd (show (1 : Nat) = 4 ∨ (1 : Nat) = 0 from e) (by decide)) rfl (.inl ⟨rfl, rfl⟩)
  rw [← hn3, upG_eq] at h3
  refine ⟨upG (upG Γ p ((Γ p).add θ.now 1 1 0 0 (Γ p).pl)) p (((Γ p).add θ.now 1 1 0 0 (Γ p).pl).sf n), ?_⟩
  · unfold ctr0_F
    have e7 : up2 F1 (5 + 21 * p) 9 (nI (θ.now + (Γ p).to)) (5 + 21 * p) 7 = tk := by
      subst hF1; unfold csyn cadd_F; (repeat (first | rw [up2_eq] | rw [up2_ne (by omega)]))
    have e9 : up2 (up2 g1 116 p (nI (0 + 1))) 111 p (nI (θ.now + (Γ p).to)) 109 p = tk := by
      subst hg1; unfold tb0; (repeat (first | rw [up2_eq] | rw [up2_ne (by omega)]))
    rw [e7, e9, ← hF2, ← hg2]
    exact h3
