/-! THE COUPLING, fourth part: the stream, host B, the clock. -/
theorem CI_top {θ θ2 : TG} {Γ : Nat → PG} {F G f g F2 G2 f2 g2 : FN} {R : RN} (h : CI θ Γ F G R f g) (hF : ∀ i k, 5 ≤ i → i < 89 → F2 i k = F i k) (hG : ∀ u, u < 401 → G2 90 u = G 90 u) (hg : ∀ r, 107 ≤ r → r ≤ 130 → ¬ r = 123 → g2 r = g r) (hnow : θ2.now = θ.now) (hln : θ.ln ≤ θ2.ln) (hct : CT θ2 F2 G2 f2 g2) : CI θ2 Γ F2 G2 R f2 g2 := by
  refine CI.mk h.rw hct (fun u hu => by rw [hG u hu]; exact h.st u hu) (fun q hq => ?_) (fun q hq => ?_)
  · rw [hnow]
    exact CX_congr (h.rw.sg q hq) (h.px q hq) hln rfl (fun k _ => hF _ _ (by omega) (by omega)) (fun i k a b => hF _ _ (by omega) (by omega)) (fun r a b => by rw [hg r (by omega) (by omega) (by omega)]) (fun r m a b _ => by rw [hg r (by omega) (by omega) (by omega)])
  · exact CY_congr (h.rw.pf q hq) (h.rw.pb q hq) (h.py q hq) hln (Nat.le_refl _) rfl rfl id rfl rfl (fun i k a b => hF _ _ (by omega) (by omega)) (fun s _ => by rw [hg 124 (by omega) (by omega) (by omega)]) (fun s r k _ a b _ => by rw [hg r (by omega) (by omega) (by omega)])
/-! leading ones -/
theorem lead_spec (f : Nat → Int32) : ∀ n u, u ≤ lead f n u ∧ lead f n u ≤ u + n ∧ (∀ k, u ≤ k → k < lead f n u → ¬ f k = 0) ∧ (lead f n u < u + n → f (lead f n u) = 0)
  | 0, u => ⟨Nat.le_refl _, Nat.le_refl _, fun k a b => absurd b (by rw [lead]; omega), fun a => absurd a (by rw [lead]; omega)⟩
  | n + 1, u => by
    by_cases h : f u = 0
    · rw [lead_z h]
      exact ⟨Nat.le_refl _, by omega, fun k a b => by omega, fun _ => h⟩
    · rw [lead_s h]
      obtain ⟨a, b, c, d⟩ := lead_spec f n (u + 1)
      refine ⟨by omega, by omega, fun k e1 e2 => ?_, fun e1 => d (by omega)⟩
      by_cases e : k = u
      · subst e; exact h
      · exact c k (by omega) e2
theorem lead_uniq {f : Nat → Int32} {n u v : Nat} (h1 : u ≤ v) (h2 : v ≤ u + n) (h3 : ∀ k, u ≤ k → k < v → ¬ f k = 0) (h4 : v < u + n → f v = 0) : lead f n u = v := by
  obtain ⟨a, b, c, d⟩ := lead_spec f n u
  by_cases e : lead f n u < v
  · exact absurd (d (by omega)) (h3 _ a e)
  · by_cases e2 : v < lead f n u
    · exact absurd (h4 (by omega)) (c v h1 e2)
    · omega
theorem lead_from {f : Nat → Int32} {n x : Nat} (hx : x ≤ n) (h : ∀ k, k < x → ¬ f k = 0) : lead f n 0 = lead f (n - x) x := by
  obtain ⟨a, b, c, d⟩ := lead_spec f (n - x) x
  refine lead_uniq (Nat.zero_le _) (by omega) (fun k _ hk => ?_) (fun e => d (by omega))
  by_cases e : k < x
  · exact h k e
  · exact c k (by omega) hk
theorem lead_congr {f g : Nat → Int32} {n : Nat} (h : ∀ k, k < n → f k = g k) : lead f n 0 = lead g n 0 := by
  obtain ⟨a, b, c, d⟩ := lead_spec g n 0
  refine lead_uniq (Nat.zero_le _) b (fun k _ hk => ?_) (fun e => ?_)
  · rw [h k (by omega)]; exact c k (by omega) hk
  · rw [h _ (by omega)]; exact d e
theorem tex_lead (g : FN) (p : Nat) : ∀ n e, tex g p n e = if lead (fun k => g 105 (402 * p + k)) n 0 = n then n + e else lead (fun k => g 105 (402 * p + k)) n 0
  | 0, e => by
    rw [tex, lead, if_pos rfl]; omega
  | n + 1, e => by
    obtain ⟨a, b, c, d⟩ := lead_spec (fun k => g 105 (402 * p + k)) n 0
    rw [tex, tex_lead g p n]
    by_cases h : lead (fun k => g 105 (402 * p + k)) n 0 = n
    · rw [if_pos h]
      by_cases z : g 105 (402 * p + n) = 0
      · have : lead (fun k => g 105 (402 * p + k)) (n + 1) 0 = n := lead_uniq (Nat.zero_le _) (by omega) (fun k e1 e2 => c k e1 (by omega)) (fun _ => z)
        rw [if_pos z, this, if_neg (by omega)]; omega
      · have : lead (fun k => g 105 (402 * p + k)) (n + 1) 0 = n + 1 := lead_uniq (Nat.zero_le _) (by omega) (fun k e1 e2 => by
          by_cases e : k = n
          · subst e; exact z
          · exact c k e1 (by omega)) (fun e => by omega)
        rw [if_neg z, this, if_pos rfl]; omega
    · have : lead (fun k => g 105 (402 * p + k)) (n + 1) 0 = lead (fun k => g 105 (402 * p + k)) n 0 := lead_uniq (Nat.zero_le _) (by omega) c (fun _ => d (by omega))
      rw [if_neg h, this, if_neg (by omega)]
theorem tex_eq (g : FN) (p : Nat) : tex g p 402 0 = lead (fun k => g 105 (402 * p + k)) 402 0 := by
  rw [tex_lead]
  split
  · omega
  · rfl
theorem CT_rc {θ : TG} {F G f g : FN} (h : CT θ F G f g) : θ.rc ≤ θ.ln ∧ θ.ln ≤ 401 ∧ (∀ u, u < θ.rc → ¬ g 106 u = 0) ∧ (θ.rc < 401 → g 106 θ.rc = 0) := by
  obtain ⟨a, b, c, d⟩ := lead_spec (g 106) 401 0
  have h1 := h.rcl
  have h2 := h.lc
  have h3 := h.en1
  have h4 := h.ct4
  rw [← h1] at a b c d
  refine ⟨?_, by omega, fun u hu => c u (Nat.zero_le _) hu, fun e => d (by omega)⟩
  by_cases e : θ.rc ≤ θ.ln
  · exact e
  · exact absurd (h.hu θ.ln (by omega) (Nat.le_refl _)) (c _ (Nat.zero_le _) (by omega))
/-! read -/
theorem read_same {θ : TG} {F G f g : FN} (h : CT θ F G f g) : cnext_r F G θ.nx θ.rc θ.ln = read_r f g θ.nx := by
  obtain ⟨r1, r2, r3, r4⟩ := CT_rc h
  have h1 := h.nxr
  have h2 := h.lc
  have h3 := h.en1
  have h4 := h.ct4
  unfold cnext_r read_r
  by_cases c : θ.nx < θ.rc
  · rw [if_pos c, if_neg (show ¬ 400 < θ.nx by omega), if_pos (r3 _ c)]
    have hv : cval_r G θ.nx θ.ln = nI (if θ.nx = θ.ct then 256 else θ.tx θ.nx) := by
      unfold cval_r
      rw [if_neg (by omega)]
      exact h.vl _ (by omega)
    rw [hv, h.l3, h.l4, Nat.add_sub_cancel]
    by_cases e : θ.nx = θ.ct
    · have hen : θ.en = 1 := by omega
      rw [if_pos e, hen, if_neg (by intro q; exact q rfl), if_neg (by decide), if_neg (by intro q; exact q (by rw [e]))]
    · have ht := h.tx2 θ.nx (by omega)
      rw [if_neg e, if_pos (by intro q; rw [nI_eq (by omega) (by omega)] at q; omega), h.tx1 _ (by omega)]
      by_cases z : nI θ.en = 0
      · rw [if_pos z]
      · rw [if_neg z, if_pos (by rw [nI_eq (by omega) (by omega)]; exact e)]
  · have e : θ.nx = θ.rc := by omega
    rw [if_neg c]
    by_cases z : 400 < θ.nx
    · rw [if_pos z]
    · rw [if_neg z, if_neg (by rw [e]; intro q; exact q (r4 (by omega)))]
theorem CI_read {θ : TG} {Γ : Nat → PG} {F G f g : FN} {R : RN} (h : CI θ Γ F G R f g) : ∃ θ2 : TG, θ2.now = θ.now ∧ CI θ2 Γ (cnext_F F G θ.nx θ.rc θ.ln) G R (read_F f g θ.nx) g := by
  have hc := h.ct
  obtain ⟨r1, r2, r3, r4⟩ := CT_rc hc
  have h1 := hc.nxr
  have h2 := hc.lc
  have h3 := hc.en1
  have h4 := hc.ct4
  unfold cnext_F read_F
  by_cases c : θ.nx < θ.rc
  · rw [if_pos c, if_neg (show ¬ 400 < θ.nx by omega), if_pos (r3 _ c)]
    have hv : cval_r G θ.nx θ.ln = nI (if θ.nx = θ.ct then 256 else θ.tx θ.nx) := by
      unfold cval_r
      rw [if_neg (by omega)]
      exact hc.vl _ (by omega)
    rw [hv, hc.l3, hc.l4]
    by_cases e : θ.nx = θ.ct
    · have hen : θ.en = 1 := by omega
      refine ⟨θ, rfl, ?_⟩
      rw [if_pos e, hen, if_neg (by intro q; exact q rfl), if_neg (by decide), if_neg (by intro q; exact q (by rw [e]))]
      exact h
    · have ht := hc.tx2 θ.nx (by omega)
      have hs : (if nI θ.en = 0 then up2 f 103 10 (nI (θ.nx + 1)) else if ¬ nI θ.nx = nI θ.ct then up2 f 103 10 (nI (θ.nx + 1)) else f) = up2 f 103 10 (nI (θ.nx + 1)) := by
        by_cases z : nI θ.en = 0
        · rw [if_pos z]
        · rw [if_neg z, if_pos (by rw [nI_eq (by omega) (by omega)]; exact e)]
      rw [if_neg e, if_pos (by intro q; rw [nI_eq (by omega) (by omega)] at q; omega), hs]
      refine ⟨TG.mk θ.now θ.ct θ.ln θ.en θ.kn θ.ed θ.ms θ.bu (θ.nx + 1) θ.rc θ.tx θ.ex, rfl, ?_⟩
      have hF : ∀ i k, ¬ (i = 92 ∧ k = 6) → up2 F 92 6 (nI (θ.nx + 1)) i k = F i k := fun i k a => up2_ne a
      have hf : ∀ k, ¬ k = 10 → up2 f 103 10 (nI (θ.nx + 1)) 103 k = f 103 k := fun k a => up2_ne2 a
      refine CI_top h (fun i k a b => hF _ _ (by omega)) (fun _ _ => rfl) (fun _ _ _ _ => rfl) rfl (Nat.le_refl _) ?_
      refine CT.mk ?_ ?_ ?_ ?_ ?_ ?_ hc.en1 hc.lc hc.ct4 hc.tx1 hc.tx2 hc.vl ?_ ?_ hc.kl ?_ ?_ hc.ed4 ?_ ?_ hc.ms1 hc.ms7 ?_ ?_ hc.a9 ?_ ?_ hc.bu5 ?_ ?_ ?_ hc.rcl hc.hu ?_ ?_ ?_ ?_ hc.b4 ?_ hc.e2 hc.e3
      · rw [hF _ _ (by omega)]; exact hc.n1
      · rw [hf _ (by omega)]; exact hc.n2
      · rw [hF _ _ (by omega)]; exact hc.l1
      · rw [hF _ _ (by omega)]; exact hc.l2
      · rw [hf _ (by omega)]; exact hc.l3
      · rw [hf _ (by omega)]; exact hc.l4
      · rw [hF _ _ (by omega)]; exact hc.a5
      · rw [hf _ (by omega)]; exact hc.fa5
      · rw [hF _ _ (by omega)]; exact hc.a6
      · rw [hf _ (by omega)]; exact hc.fa6
      · rw [hF _ _ (by omega)]; exact hc.a2
      · rw [hf _ (by omega)]; exact hc.fa2
      · rw [hF _ _ (by omega), hf _ (by omega)]; exact hc.a7
      · rw [hF _ _ (by omega), hf _ (by omega)]; exact hc.a8
      · rw [hF _ _ (by omega)]; exact hc.b1
      · rw [hf _ (by omega)]; exact hc.fb1
      · rw [hF _ _ (by omega), hf _ (by omega)]; exact hc.b2
      · rw [hF _ _ (by omega), hf _ (by omega)]; exact hc.b0
      · rw [hF _ _ (by omega)]; exact hc.b5
      · exact up2_eq
      · exact up2_eq
      · exact c
      · rw [hF _ _ (by omega), hf _ (by omega)]; exact hc.b7
      · intro p hp
        rw [hF _ _ (by omega)]; exact hc.e1 p hp
  · have e : θ.nx = θ.rc := by omega
    refine ⟨θ, rfl, ?_⟩
    rw [if_neg c]
    by_cases z : 400 < θ.nx
    · rw [if_pos z]; exact h
    · rw [if_neg z, if_neg (by rw [e]; intro q; exact q (r4 (by omega)))]; exact h
/-! the clock -/
theorem CI_tick {θ : TG} {Γ : Nat → PG} {F G f g : FN} {R : RN} (h : CI θ Γ F G R f g) : CI (TG.mk (θ.now + 1) θ.ct θ.ln θ.en θ.kn θ.ed θ.ms θ.bu θ.nx θ.rc θ.tx θ.ex) Γ (up2 F 1 5 (nI (θ.now + 1))) G R (up2 f 103 3 (nI (θ.now + 1))) g := by
  have hc := h.ct
  have hF : ∀ i k, ¬ (i = 1 ∧ k = 5) → up2 F 1 5 (nI (θ.now + 1)) i k = F i k := fun i k a => up2_ne a
  have hf : ∀ k, ¬ k = 3 → up2 f 103 3 (nI (θ.now + 1)) 103 k = f 103 k := fun k a => up2_ne2 a
  refine CI.mk h.rw ?_ h.st (fun q hq => ?_) (fun q hq => ?_)
  · refine CT.mk ?_ ?_ ?_ ?_ ?_ ?_ hc.en1 hc.lc hc.ct4 hc.tx1 hc.tx2 hc.vl ?_ ?_ hc.kl ?_ ?_ hc.ed4 ?_ ?_ hc.ms1 hc.ms7 ?_ ?_ hc.a9 ?_ ?_ hc.bu5 ?_ ?_ ?_ hc.rcl hc.hu ?_ ?_ hc.nxr ?_ hc.b4 ?_ hc.e2 hc.e3
    · exact up2_eq
    · exact up2_eq
    · rw [hF _ _ (by omega)]; exact hc.l1
    · rw [hF _ _ (by omega)]; exact hc.l2
    · rw [hf _ (by omega)]; exact hc.l3
    · rw [hf _ (by omega)]; exact hc.l4
    · rw [hF _ _ (by omega)]; exact hc.a5
    · rw [hf _ (by omega)]; exact hc.fa5
    · rw [hF _ _ (by omega)]; exact hc.a6
    · rw [hf _ (by omega)]; exact hc.fa6
    · rw [hF _ _ (by omega)]; exact hc.a2
    · rw [hf _ (by omega)]; exact hc.fa2
    · rw [hF _ _ (by omega), hf _ (by omega)]; exact hc.a7
    · rw [hF _ _ (by omega), hf _ (by omega)]; exact hc.a8
    · rw [hF _ _ (by omega)]; exact hc.b1
    · rw [hf _ (by omega)]; exact hc.fb1
    · rw [hF _ _ (by omega), hf _ (by omega)]; exact hc.b2
    · rw [hF _ _ (by omega), hf _ (by omega)]; exact hc.b0
    · rw [hF _ _ (by omega)]; exact hc.b5
    · rw [hF _ _ (by omega)]; exact hc.b6
    · rw [hf _ (by omega)]; exact hc.fb6
    · rw [hF _ _ (by omega), hf _ (by omega)]; exact hc.b7
    · intro p hp
      rw [hF _ _ (by omega)]; exact hc.e1 p hp
  · have hx := CX_congr (F2 := up2 F 1 5 (nI (θ.now + 1))) (h.rw.sg q hq) (h.px q hq) (Nat.le_refl _) rfl (fun k _ => hF _ _ (by omega)) (fun i k a b => hF _ _ (by omega)) (fun r a b => rfl) (fun r m a b _ => rfl)
    refine CX.mk hx.f3 hx.f4 hx.g116 hx.g115 hx.f5 hx.g107 hx.f6 hx.f7 hx.f8 hx.g110 hx.f9 hx.g111 hx.f10 hx.f11 hx.f12 hx.f13 hx.sc3 hx.lh hx.h402 hx.st4 hx.to6 hx.to120 ?_ hx.t0 hx.s0 hx.s1 hx.s4 hx.sg hx.sh ?_ hx.s8 hx.z1 hx.z2 hx.z3 hx.ch0 hx.ch1 hx.ch2 hx.ch3 hx.sy hx.dt hx.d2 hx.pg hx.pu hx.pc
    · have := hx.tmb
      show (Γ q).tm ≤ θ.now + 1 + 120
      omega
    · intro j hj
      obtain ⟨a, b, c, d, e⟩ := hx.sb j hj
      exact ⟨a, b, c, Nat.le_succ_of_le d, fun _ => d⟩
  · exact CY_congr (h.rw.pf q hq) (h.rw.pb q hq) (h.py q hq) (Nat.le_refl _) (Nat.le_refl _) rfl rfl id rfl rfl (fun i k a b => hF _ _ (by omega)) (fun s _ => rfl) (fun s r k _ a b _ => rfl)
/-! finish -/
theorem finish_same {θ : TG} {F G f g : FN} (h : CT θ F G f g) : cend_r F G θ.ln = finish_r f := by
  have h2 := h.lc
  have h3 := h.en1
  have h4 := h.ct4
  unfold cend_r finish_r
  rw [h.l2, h.l3]
  by_cases z : nI θ.en = 0
  · have e0 : θ.en = 0 := by
      have : θ.en = 0 ∨ θ.en = 1 := by omega
      rcases this with e | e
      · exact e
      · rw [e] at z; exact absurd z (by decide)
    rw [if_neg (fun q => q z), if_pos (by omega), if_neg (fun q => q z)]
  · rw [if_pos z, if_pos z]
theorem CI_finish {θ : TG} {Γ : Nat → PG} {F G f g : FN} {R : RN} (h : CI θ Γ F G R f g) : ∃ θ2 : TG, θ2.now = θ.now ∧ CI θ2 Γ (cend_F F G θ.ln) (cend_G F G θ.ln) R (finish_F f) g := by
  have hc := h.ct
  have h2 := hc.lc
  have h3 := hc.en1
  have h4 := hc.ct4
  have hf : ∀ k, ¬ k = 6 → finish_F f 103 k = f 103 k := fun k a => up2_ne2 a
  have hf6 : finish_F f 103 6 = nI 1 := up2_eq
  unfold cend_F cend_G
  rw [hc.l2]
  by_cases z : nI θ.en = 0
  · have e0 : θ.en = 0 := by
      have : θ.en = 0 ∨ θ.en = 1 := by omega
      rcases this with e | e
      · exact e
      · rw [e] at z; exact absurd z (by decide)
    rw [if_neg (fun q => q z), if_pos (by omega), if_neg (fun q => q z), if_pos (by omega)]
    have el : θ.ln = θ.ct := by omega
    refine ⟨TG.mk θ.now θ.ct (θ.ct + 1) 1 θ.kn θ.ed θ.ms θ.bu θ.nx θ.rc θ.tx θ.ex, rfl, ?_⟩
    have hF : ∀ i k, ¬ (i = 2 ∧ k = 1) → ¬ (i = 2 ∧ k = 2) → up2 (up2 F 2 1 (nI (θ.ln + 1))) 2 2 (nI 1) i k = F i k := fun i k a b => by rw [up2_ne b, up2_ne a]
    have hG : ∀ i, ¬ i = 3 → up2 G 3 θ.ln (nI 256) i = G i := fun i a => up2_row a
    refine CI_top h (fun i k a b => hF _ _ (by omega) (by omega)) (fun u _ => by rw [hG _ (by omega)]) (fun _ _ _ _ => rfl) rfl (by show θ.ln ≤ θ.ct + 1; omega) ?_
    refine CT.mk ?_ ?_ ?_ ?_ hf6 ?_ (Nat.le_refl _) rfl hc.ct4 hc.tx1 hc.tx2 ?_ ?_ ?_ ?_ ?_ ?_ hc.ed4 ?_ ?_ hc.ms1 hc.ms7 ?_ ?_ ?_ ?_ ?_ hc.bu5 ?_ ?_ ?_ hc.rcl ?_ ?_ ?_ hc.nxr ?_ ?_ ?_ hc.e2 ?_
    · rw [hF _ _ (by omega) (by omega)]; exact hc.n1
    · rw [hf _ (by omega)]; exact hc.n2
    · rw [up2_ne2 (by decide), up2_eq, el]
    · exact up2_eq
    · rw [hf _ (by omega)]; exact hc.l4
    · intro u hu
      have hu2 : u < θ.ct + 1 := hu
      show up2 G 3 θ.ln (nI 256) 3 u = nI (if u = θ.ct then 256 else θ.tx u)
      by_cases e : u = θ.ct
      · rw [if_pos e, e, ← el, up2_eq]
      · rw [up2_ne2 (by omega)]
        exact hc.vl u (by omega)
    · rw [hF _ _ (by omega) (by omega)]; exact hc.a5
    · rw [hf _ (by omega)]; exact hc.fa5
    · have := hc.kl
      show θ.kn ≤ θ.ct + 1
      omega
    · rw [hF _ _ (by omega) (by omega)]; exact hc.a6
    · rw [hf _ (by omega)]; exact hc.fa6
    · rw [hF _ _ (by omega) (by omega)]; exact hc.a2
    · rw [hf _ (by omega)]; exact hc.fa2
    · rw [hF _ _ (by omega) (by omega), hf _ (by omega)]; exact hc.a7
    · rw [hF _ _ (by omega) (by omega), hf _ (by omega)]; exact hc.a8
    · rw [hG _ (by omega)]; exact hc.a9
    · rw [hF _ _ (by omega) (by omega)]; exact hc.b1
    · rw [hf _ (by omega)]; exact hc.fb1
    · rw [hF _ _ (by omega) (by omega), hf _ (by omega)]; exact hc.b2
    · rw [hF _ _ (by omega) (by omega), hf _ (by omega)]; exact hc.b0
    · rw [hF _ _ (by omega) (by omega)]; exact hc.b5
    · intro u hu a
      have a2 : θ.ct + 1 ≤ u := a
      exact hc.hu u hu (by omega)
    · rw [hF _ _ (by omega) (by omega)]; exact hc.b6
    · rw [hf _ (by omega)]; exact hc.fb6
    · rw [hF _ _ (by omega) (by omega), hf _ (by omega)]; exact hc.b7
    · rw [hG _ (by omega)]; exact hc.b4
    · intro p hp
      rw [hF _ _ (by omega) (by omega)]; exact hc.e1 p hp
    · intro p hp
      rw [hG _ (by omega)]; exact hc.e3 p hp
  · have e1 : θ.en = 1 := by
      have : θ.en = 0 ∨ θ.en = 1 := by omega
      rcases this with e | e
      · rw [e] at z; exact absurd rfl z
      · exact e
    rw [if_pos z, if_pos z]
    refine ⟨θ, rfl, ?_⟩
    have hff : finish_F f = f := up2_id (by rw [hc.l3, e1])
    rw [hff]
    exact h
