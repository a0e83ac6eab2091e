/-! BOTH TOGETHER, fourth part: a tick, and pass. -/
theorem dels_lp {L : Nat} : ∀ (m : Nat) (C : CC) (p ar : Nat) (Q : Option PV → PH → Prop), p + m = 4 → okC C → C.1.now < 2 ^ 20 → 0 < C.1.now →
    (∀ (C2 : CC) (a : Nat), okC C2 → C2.1.now = C.1.now → frK C C2 → (∀ (mm j ar2 : Nat) (o5 : Option PV), tps mSBModel_pass 34 [some (.inr (some 103)), some (.inl (nI mm)), some (.inl (nI ar2)), some (.inl (nI j)), some (.inl (nI (2 * p))), o5] 34 [some (.inr (some 103)), some (.inl (nI mm)), some (.inl (nI (ar2 + a))), some (.inl (nI j)), some (.inl (nI 8)), o5] C C2) →
      pw pP mSB_tick (14, [some (.inr (some 1)), some (.inl (nI (ar + a))), some (.inl (nI 4))], [], 0, 0, hb (sL L) C2.2.2.1 C2.2.2.2.1 C2.2.2.2.2 sO) Q) →
    pw pP mSB_tick (14, [some (.inr (some 1)), some (.inl (nI ar)), some (.inl (nI p))], [], 0, 0, hb (sL L) C.2.2.1 C.2.2.2.1 C.2.2.2.2 sO) Q := by
  intro m
  induction m with
  | zero =>
    intro C p ar Q hpm hok hnw hn0 K
    have e : p = 4 := by omega
    subst e
    exact K C 0 hok rfl frC_id (fun mm j ar2 o5 L f g Rt Q hC k => k f g hC frT_id)
  | succ m ih =>
    intro C p ar Q hpm hok hnw hn0 K
    have hp : p < 4 := by omega
    refine ct_f hp ?_
    refine dvf hp hok hnw hn0 (fun C2 a1 q1 q2 q3 q4 => ?_)
    show pw pP mSB_tick (25, [some (.inr (some 1)), some (.inl (nI ar)), some (.inl (nI p))], [.inl (nI a1), .inl (nI ar)], 0, 0, hb (sL L) C2.2.2.1 C2.2.2.2.1 C2.2.2.2.2 sO) Q
    refine ct_b ?_
    refine dvb hp q1 (by rw [q2]; exact hnw) (by rw [q2]; exact hn0) (fun C3 a2 r1 r2 r3 r4 => ?_)
    show pw pP mSB_tick (33, [some (.inr (some 1)), some (.inl (nI (ar + a1))), some (.inl (nI p))], [.inl (nI a2), .inl (nI (ar + a1))], 0, 0, hb (sL L) C3.2.2.1 C3.2.2.2.1 C3.2.2.2.2 sO) Q
    refine ct_n ?_
    have hnow : C3.1.now = C.1.now := r2.trans q2
    refine ih C3 (p + 1) (ar + a1 + a2) Q (by omega) r1 (by rw [hnow]; exact hnw) (by rw [hnow]; exact hn0) (fun C4 a3 s1 s2 s3 s4 => ?_)
    have K2 := K C4 (a1 + a2 + a3) s1 (s2.trans hnow) (frC_trans (frC_trans q3 r3) s3) (fun mm j ar2 o5 L f g Rt Q hC k => ?_)
    · rw [show ar + a1 + a2 + a3 = ar + (a1 + a2 + a3) from by omega]
      exact K2
    · refine tp_d (by omega) ?_
      refine q4 L f g Rt _ hC (fun f2 g2 u1 u2 => ?_)
      show pw pP mSBModel_pass (48, [some (.inr (some 103)), some (.inl (nI mm)), some (.inl (nI ar2)), some (.inl (nI j)), some (.inl (nI (2 * p))), o5], [.inl (nI a1), .inl (nI ar2)], 0, 0, hb (sL L) f2 g2 Rt sO) Q
      refine tp_d2 ?_
      refine tp_d (by omega) ?_
      refine r4 L f2 g2 Rt _ u1 (fun f3 g3 v1 v2 => ?_)
      show pw pP mSBModel_pass (48, [some (.inr (some 103)), some (.inl (nI mm)), some (.inl (nI (ar2 + a1))), some (.inl (nI j)), some (.inl (nI (2 * p + 1))), o5], [.inl (nI a2), .inl (nI (ar2 + a1))], 0, 0, hb (sL L) f3 g3 Rt sO) Q
      refine tp_d2 ?_
      refine s4 mm j (ar2 + a1 + a2) o5 L f3 g3 Rt Q v1 (fun f4 g4 w1 w2 => ?_)
      rw [show ar2 + a1 + a2 + a3 = ar2 + (a1 + a2 + a3) from by omega]
      exact k f4 g4 w1 (frT_trans (frT_trans u2 v2) w2)
theorem tickB {L : Nat} {C : CC} {Q : Option PV → PH → Prop} (hok : okC C) (hnw : C.1.now + 1 < 2 ^ 20) (K : ∀ (C2 : CC) (a : Nat), okC C2 → C2.1.now = C.1.now + 1 → frK C C2 → (∃ t2 : Nat, ∀ (mm j ar : Nat) (o4 o5 : Option PV), j < mm → mm ≤ 60 → tps mSBModel_pass 16 [some (.inr (some 103)), some (.inl (nI mm)), some (.inl (nI ar)), some (.inl (nI j)), o4, o5] 16 [some (.inr (some 103)), some (.inl (nI mm)), some (.inl (nI (ar + a))), some (.inl (nI (j + 1))), some (.inl (nI 0)), some (.inl (nI t2))] C C2) → Q (some (.inl (nI a))) (hb (sL L) C2.2.2.1 C2.2.2.2.1 C2.2.2.2.2 sO)) :
    pz pP mSB_tick [.inr (some 1)] (hb (sL L) C.2.2.1 C.2.2.2.1 C.2.2.2.2 sO) Q := by
  obtain ⟨θ, Γ, F, G, R⟩ := C
  obtain ⟨f0, g0, h⟩ := hok
  have h : CI θ Γ F G R f0 g0 := h
  have hnw : θ.now + 1 < 2 ^ 20 := hnw
  refine ct_0 h.ct.n1 ?_
  refine dels_lp 4 (TG.mk (θ.now + 1) θ.ct θ.ln θ.en θ.kn θ.ed θ.ms θ.bu θ.nx θ.rc θ.tx θ.ex, Γ, up2 F 1 5 (nI (θ.now + 1)), G, R) 0 0 Q rfl ⟨_, _, CI_tick h⟩ hnw (Nat.succ_pos _) (fun C2 a q1 q2 q3 q4 => ?_)
  have q2 : C2.1.now = θ.now + 1 := q2
  rw [Nat.zero_add]
  refine ct_4 ?_
  refine rings_lp 4 C2 0 a Q rfl q1 (by rw [q2]; exact hnw) (by rw [q2]; exact Nat.succ_pos _) (fun C3 r1 r2 r3 r4 => ?_)
  have r2 : C3.1.now = θ.now + 1 := r2.trans q2
  obtain ⟨f3, g3, h3⟩ := r1
  have h3 : CI C3.1 C3.2.1 C3.2.2.1 C3.2.2.2.1 C3.2.2.2.2 f3 g3 := h3
  refine ct_s h3.ct.n1 ?_
  refine cs_0 h3.rw.r4 (fun q hq => rw_path h3.rw hq) ?_
  have hS : scS C3.2.1 ≤ 12 := by
    have a0 := (h3.px 0 (by omega)).sc3
    have a1 := (h3.px 1 (by omega)).sc3
    have a2 := (h3.px 2 (by omega)).sc3
    have a3 := (h3.px 3 (by omega)).sc3
    unfold scS
    omega
  refine sends_lp (12 - scS C3.2.1) C3 0 _ _ (by omega) (by omega) ⟨f3, g3, h3⟩ (by rw [r2]; exact hnw) (by rw [r2]; exact Nat.succ_pos _) (fun C4 s1 s2 s3 ⟨t2, s4⟩ => ?_)
  show pw pP mSB_tick (98, [some (.inr (some 1)), some (.inl (nI a)), some (.inl (nI 4))], [], 0, 0, hb (sL L) C4.2.2.1 C4.2.2.2.1 C4.2.2.2.2 sO) Q
  refine ct_e ?_
  refine K C4 a s1 (s2.trans r2) (frC_trans (frC_trans (frC_trans ⟨fun i k a => up2_ne (by omega), fun i a => rfl⟩ q3) r3) s3) ⟨t2, fun mm j ar o4 o5 hj hm L f g Rt Q hC k => ?_⟩
  have hC : CI θ Γ F G R f g := hC
  refine tp_t hm hj hC.ct.n2 ?_
  refine q4 mm j ar o5 L _ g Rt Q (CI_tick hC) (fun f2 g2 u1 u2 => ?_)
  refine tp_d8 ?_
  refine r4 mm j (ar + a) o5 L f2 g2 Rt Q u1 (fun f3 g3 v1 v2 => ?_)
  refine tp_r4 ?_
  refine s4 mm j (ar + a) L f3 g3 Rt Q v1 (fun f4 g4 w1 w2 => ?_)
  exact k f4 g4 w1 (frT_trans (frT_trans (frT_trans ⟨fun i k a => up2_ne (by omega), fun i a => rfl⟩ u2) v2) w2)
theorem pass_lp {L n : Nat} (hn : n ≤ 60) : ∀ (r : Nat) (C : CC) (j ar : Nat) (Q : Option PV → PH → Prop), j + r = n → okC C → C.1.now + r < 2 ^ 20 →
    (∀ (C2 : CC) (ar2 : Nat), okC C2 → C2.1.now = C.1.now + r → frK C C2 → (∀ o4 o5 : Option PV, tpw mSBModel_pass 16 [some (.inr (some 103)), some (.inl (nI n)), some (.inl (nI ar)), some (.inl (nI j)), o4, o5] C C2 (some (.inl (nI ar2)))) → Q (some (.inl (nI ar2))) (hb (sL L) C2.2.2.1 C2.2.2.2.1 C2.2.2.2.2 sO)) →
    pw pP mSB_pass (16, [some (.inr (some 1)), some (.inl (nI n)), some (.inl (nI ar)), some (.inl (nI j))], [], 0, 0, hb (sL L) C.2.2.1 C.2.2.2.1 C.2.2.2.2 sO) Q := by
  intro r
  induction r with
  | zero =>
    intro C j ar Q hj hok hnw K
    have e : n = j := by omega
    subst e
    exact cp_e hn (K C ar hok rfl frC_id (fun o4 o5 L f g Rt Q hC k => tp_e hn (k f g hC frT_id)))
  | succ r ih =>
    intro C j ar Q hj hok hnw K
    refine cp_t hn (by omega) ?_
    refine tickB hok (by omega) (fun C2 a q1 q2 q3 ⟨t2, q4⟩ => ?_)
    show pw pP mSB_pass (26, [some (.inr (some 1)), some (.inl (nI n)), some (.inl (nI ar)), some (.inl (nI j))], [.inl (nI a), .inl (nI ar)], 0, 0, hb (sL L) C2.2.2.1 C2.2.2.2.1 C2.2.2.2.2 sO) Q
    refine cp_n ?_
    refine ih C2 (j + 1) (ar + a) Q (by omega) q1 (by omega) (fun C3 ar3 r1 r2 r3 r4 => ?_)
    refine K C3 ar3 r1 (by omega) (frC_trans q3 r3) (fun o4 o5 L f g Rt Q hC k => ?_)
    refine q4 n j ar o4 o5 (by omega) hn L f g Rt Q hC (fun f2 g2 u1 u2 => ?_)
    exact r4 _ _ L f2 g2 Rt Q u1 (fun f3 g3 v1 v2 => k f3 g3 v1 (frT_trans u2 v2))
theorem passB {L n : Nat} (hn : n ≤ 60) {C : CC} {Q : Option PV → PH → Prop} (hok : okC C) (hnw : C.1.now + n < 2 ^ 20) (K : ∀ (C2 : CC) (ar2 : Nat), okC C2 → C2.1.now = C.1.now + n → frK C C2 → tpz mSBModel_pass [.inr (some 103), .inl (nI n)] C C2 (some (.inl (nI ar2))) → Q (some (.inl (nI ar2))) (hb (sL L) C2.2.2.1 C2.2.2.2.1 C2.2.2.2.2 sO)) : pz pP mSB_pass [.inr (some 1), .inl (nI n)] (hb (sL L) C.2.2.1 C.2.2.2.1 C.2.2.2.2 sO) Q := by
  refine cp_0 hn ?_
  refine pass_lp hn n C 0 0 Q (by omega) hok hnw (fun C2 ar2 q1 q2 q3 q4 => K C2 ar2 q1 q2 q3 (fun L f g Rt Q hC k => ?_))
  refine tp_0 hn ?_
  exact q4 _ _ L f g Rt Q hC k
