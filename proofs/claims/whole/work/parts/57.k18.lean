/-! BOTH TOGETHER, second part: A hears; a pipe delivers. Rows written by wip/whole/gen/k18.py. -/
theorem hearA {L p x : Nat} {θ : TG} {Γ : Nat → PG} {F G : FN} {R : RN} (hok : ∃ f g, CI θ Γ F G R f g) (hp : p < 4) (hst : ¬ ((Γ p).st = 4 ∨ (Γ p).st = 0)) (hsx : (sL L)[x]? = some (2, 1, [0, 0, 0, 0, 0, 0], 0)) (hx9 : x < 89) (hn : θ.now < 2 ^ 20) (hn0 : 0 < θ.now) (hc : cpB θ.ln (F x 0) (F x 2) (F x 3) (F x 4) (F x 1)) :
    ∃ C2 : CC, okC C2 ∧ C2.1.now = θ.now ∧ frC F C2.2.2.1 G C2.2.2.2.1 ∧ ((C2.2.1 p).bl = 0 ∨ ((C2.2.1 p).bl = (Γ p).bl ∧ (∀ k, rx C2.2.2.2.2 (5 + 21 * p + 9 + 1) k = rx R (5 + 21 * p + 9 + 1) k) ∧ ∀ i k, 5 + 21 * p + 9 ≤ i → i ≤ 5 + 21 * p + 16 → C2.2.2.1 i k = F i k)) ∧ (∀ Q : Option PV → PH → Prop, Q none (hb (sL L) C2.2.2.1 C2.2.2.2.1 C2.2.2.2.2 sO) → pz pP mHostA_hear [.inr (some 89), .inr (some x), .inr (some (5 + 21 * p)), .inl (nI θ.now)] (hb (sL L) F G R sO) Q) ∧
      tpz mSBModel_atA [.inr (some 103), .inl (nI p), .inl (F x 0), .inl (F x 2), .inl (F x 3), .inl (F x 4)] (θ, Γ, F, G, R) C2 none := by
  obtain ⟨f0, g0, h⟩ := hok
  have hP : pathok L (5 + 21 * p) R := rw_path h.rw hp
  have hx := h.px p hp
  have hl := CT_ln h.ct
  have hsc3 := hx.sc3
  have hS : sgs F R (5 + 21 * p) (Γ p).sc (Γ p).nu (Γ p).nm (Γ p).su (Γ p).sn := by
    refine ⟨hx.f3, hsc3, fun j hj => ?_⟩
    obtain ⟨d1, d2, d3, d4, d5⟩ := hx.sg j hj
    have hh := CX_hn hx hj
    have := hx.h402
    refine ⟨d1, d2, d3, d4, by omega, ?_⟩
    by_cases e : (Γ p).nu j = 0
    · obtain ⟨s1, s2, s3⟩ := hx.sy j hj e
      omega
    · obtain ⟨s1, s2, s3⟩ := hx.dt j hj (by omega)
      omega
  have st4 : ¬ (Γ p).st = 4 := fun q => hst (.inl q)
  obtain ⟨hu, hk | ⟨hk, a, b, c, ha, hb1, hc1, ha4, hbl, hc4⟩⟩ := hc
  · refine ⟨(θ, upG Γ p (Γ p).shut, cshut_F F (5 + 21 * p), G, R), ⟨_, _, CI_shut h hp (fun q => hst (.inr q))⟩, rfl, ⟨fun i k a => cshut_fr (by omega), fun i a => rfl⟩, .inl (by show (upG Γ p _ p).bl = _; rw [upG_eq]; rfl), fun Q k => t_ahear3 hP hsx hk k, fun L f g Rt Q hC k => ?_⟩
    rw [hk]
    exact t_atA3 hp (k _ _ (CI_shut hC hp (fun q => hst (.inr q))) ⟨fun i k a => rfl, fun i a => shut_fr a⟩)
  · by_cases h0 : cst a 3 (Γ p).sc (Γ p).nu (Γ p).nm = 0
    · refine ⟨(ackT θ b c, Γ, cak F x, G, R), ⟨_, _, CI_ack0 h hb1 hc1 hbl hc4⟩, rfl, ⟨fun i k a => cak_ne (by omega) (by omega), fun i a => rfl⟩, .inr ⟨rfl, fun _ => rfl, fun i k a b => cak_ne (by omega) (by omega)⟩, fun Q k => t_ahear_0 hP (by omega) hsx hx9 hk ha (by omega) (h.rw.sg p hp) hS h0 k, fun L f g Rt Q hC k => ?_⟩
      have hxC : CX θ.now θ.ln p (Γ p) F R g := hC.px p hp
      have e1 := tla_cst (lm := a) hxC st4 (by omega)
      rw [if_pos h0] at e1
      rw [hk, ha, hb1, hc1]
      refine t_atA (by decide) hp hxC.g115 hxC.g116 hxC.lh hxC.h402 ?_
      unfold a5F a5G
      rw [e1]
      exact k _ _ (CI_ack0 hC hb1 hc1 hbl hc4) ⟨fun i k a => akF_fr a, fun i a => rfl⟩
    · have hks := cst_le (lm := a) 3 (Γ p).sc (Γ p).nu (Γ p).nm
      obtain ⟨to, t1, t2, t3⟩ := CI_ack h hp st4 hb1 hc1 hbl hc4 h0 hks hn hn0
      refine ⟨(ackT θ b c, upG Γ p ((Γ p).ack θ.now to (cst a 3 (Γ p).sc (Γ p).nu (Γ p).nm)), _, _, _), ⟨_, _, t3⟩, rfl, ⟨fun i k a => ?_, fun i a => ?_⟩, .inr ⟨by show (upG Γ p _ p).bl = _; rw [upG_eq]; rfl, fun k => ?_, fun i k a b => ?_⟩, fun Q k => t_ahear hP (by omega) hsx hx9 hk ha (by omega) (h.rw.sg p hp) hS rfl h0 rfl k, fun L f g Rt Q hC k => ?_⟩
      · show cae _ _ _ _ _ i k = _
        rw [cae_fr (by omega) (by omega), stF_ne (by omega), cak_ne (by omega) (by omega)]
      · show stG _ _ _ _ i = _
        exact (stG_spec _ _ _ _).2 i (by omega)
      · exact rx_row (stR_row (by omega) _ _ _)
      · show cae _ _ _ _ _ i k = _
        rw [cae_fr (by omega) (by omega), stF_ne (by omega), cak_ne (by omega) (by omega)]
      · have hxC : CX θ.now θ.ln p (Γ p) F R g := hC.px p hp
        have e1 := tla_cst (lm := a) hxC st4 (by omega)
        rw [if_neg h0] at e1
        obtain ⟨to2, u1, u2, u3⟩ := CI_ack hC hp st4 hb1 hc1 hbl hc4 h0 hks hn hn0
        have e2 : to2 = to := by
          have e3 : nI to2 = nI to := u2.symm.trans t2
          rw [nI_eq (by omega) (by omega)] at e3
          exact e3
        subst e2
        rw [hk, ha, hb1, hc1]
        refine t_atA (by decide) hp hxC.g115 hxC.g116 hxC.lh hxC.h402 ?_
        unfold a5F a5G
        rw [e1]
        exact k _ _ u3 ⟨fun i k a => by
          show aeF _ i k = _
          unfold aeF
          rw [up2_ne (by omega), akF_fr a], fun i a => aeG_fr a⟩
theorem cdu_none {F : FN} {R : RN} {e : Nat} {d : Int32} : ∀ n j, cdu F R e d n j = none → ∀ k, j ≤ k → k < j + n → ¬ F (rx R (e + 1) k) 5 = d
  | 0, j, _, k, a, b => by omega
  | n + 1, j, h, k, a, b => by
    rw [cdu] at h
    split at h
    · exact absurd h (by simp)
    · rename_i c
      by_cases e2 : k = j
      · subst e2; exact c
      · exact cdu_none n (j + 1) h k (by omega) (by omega)
theorem cdu_some {F : FN} {R : RN} {e i : Nat} {d : Int32} : ∀ n j, cdu F R e d n j = some i → j ≤ i ∧ i < j + n ∧ F (rx R (e + 1) i) 5 = d ∧ ∀ k, j ≤ k → k < i → ¬ F (rx R (e + 1) k) 5 = d
  | 0, j, h => by rw [cdu] at h; exact absurd h (by simp)
  | n + 1, j, h => by
    rw [cdu] at h
    split at h
    · rename_i c
      injection h with h
      subst h
      exact ⟨Nat.le_refl _, by omega, c, fun k a b => by omega⟩
    · rename_i c
      obtain ⟨a1, a2, a3, a4⟩ := cdu_some n (j + 1) h
      refine ⟨by omega, by omega, a3, fun k a b => ?_⟩
      by_cases e2 : k = j
      · subst e2; exact c
      · exact a4 k (by omega) b
theorem tskip0 {L p n fl now : Nat} {F G : FN} {R : RN} {Q : Option PV → PH → Prop} (hp : p < 4) (hfl : G 124 (2 * p) = nI fl) (hf : fl ≤ 6) (hn : F 103 3 = nI now) (hnw : now < 2 ^ 31) : ∀ (d kk t : Nat) (o5 o6 o7 o8 o9 o10 : Option PV), t + d ≤ 6 → kk + d ≤ fl → (∀ k, kk ≤ k → k < kk + d → ¬ G 130 (6 * (2 * p) + k) = nI now) → (∀ o5 o6 o7 o8 o9 o10 : Option PV, pw pP mSBModel_deliver (7, [some (.inr (some 103)), some (.inl (nI (2 * p))), some (.inl (nI (n))), some (.inl (nI (kk + d))), some (.inl (nI (t + d))), o5, o6, o7, o8, o9, o10], [], 0, 0, hb (sL L) F G R sO) Q) → pw pP mSBModel_deliver (7, [some (.inr (some 103)), some (.inl (nI (2 * p))), some (.inl (nI (n))), some (.inl (nI (kk))), some (.inl (nI (t))), o5, o6, o7, o8, o9, o10], [], 0, 0, hb (sL L) F G R sO) Q
  | 0, kk, t, o5, o6, o7, o8, o9, o10, _, _, _, k => k o5 o6 o7 o8 o9 o10
  | d + 1, kk, t, o5, o6, o7, o8, o9, o10, h1, h2, h3, k => by
    refine td0_not hp hfl hf (by omega) (by omega) hn hnw (by omega) (h3 kk (by omega) (by omega)) ?_
    refine tskip0 hp hfl hf hn hnw d (kk + 1) (t + 1) _ _ _ _ _ _ (by omega) (by omega) (fun k a b => h3 k (by omega) (by omega)) (fun o5 o6 o7 o8 o9 o10 => ?_)
    have k2 := k o5 o6 o7 o8 o9 o10
    rw [show kk + 1 + d = kk + (d + 1) from by omega, show t + 1 + d = t + (d + 1) from by omega]
    exact k2
theorem tidle0 {L p n fl now : Nat} {F G : FN} {R : RN} {Q : Option PV → PH → Prop} (hp : p < 4) (hfl : G 124 (2 * p) = nI fl) (hf : fl ≤ 6) (hn : F 103 3 = nI now) (hnw : now < 2 ^ 31) (hnd : ∀ k, k < fl → ¬ G 130 (6 * (2 * p) + k) = nI now) (k : Q (some (.inl (nI n))) (hb (sL L) F G R sO)) : ∀ (r kk t : Nat) (o5 o6 o7 o8 o9 o10 : Option PV), t + r = 6 → kk + r ≤ 12 → pw pP mSBModel_deliver (7, [some (.inr (some 103)), some (.inl (nI (2 * p))), some (.inl (nI (n))), some (.inl (nI (kk))), some (.inl (nI (t))), o5, o6, o7, o8, o9, o10], [], 0, 0, hb (sL L) F G R sO) Q
  | 0, kk, t, o5, o6, o7, o8, o9, o10, h1, _ => by
    have e : t = 6 := by omega
    subst e
    exact td_end k
  | r + 1, kk, t, o5, o6, o7, o8, o9, o10, h1, h2 => by
    by_cases c : fl ≤ kk
    · refine td0_far hp hfl hf (by omega) (by omega) hn hnw c ?_
      exact tidle0 hp hfl hf hn hnw hnd k r (kk + 1) (t + 1) _ _ _ _ _ _ (by omega) (by omega)
    · refine td0_not hp hfl hf (by omega) (by omega) hn hnw (by omega) (hnd kk (by omega)) ?_
      exact tidle0 hp hfl hf hn hnw hnd k r (kk + 1) (t + 1) _ _ _ _ _ _ (by omega) (by omega)
theorem dvf_lp {L p : Nat} (hp : p < 4) : ∀ (m : Nat) (C : CC) (i n t kk : Nat) (o4 : Option PV) (Q : Option PV → PH → Prop), i + m = 6 → i ≤ t → t ≤ 6 → kk ≤ t → okC C → C.1.now < 2 ^ 20 → 0 < C.1.now → (∀ k, k < kk → k < (C.2.1 p).fl → ¬ C.2.2.1 (rx C.2.2.2.2 (5 + 21 * p + 1 + 1) k) 5 = nI C.1.now) → (C.2.1 p).fl + t ≤ kk + 6 →
    (∀ (C2 : CC) (n2 : Nat), okC C2 → C2.1.now = C.1.now → frK C C2 → (∀ o5 o6 o7 o8 o9 o10 : Option PV, tpw mSBModel_deliver 7 [some (.inr (some 103)), some (.inl (nI (2 * p))), some (.inl (nI (n))), some (.inl (nI (kk))), some (.inl (nI (t))), o5, o6, o7, o8, o9, o10] C C2 (some (.inl (nI n2)))) → Q (some (.inl (nI n2))) (hb (sL L) C2.2.2.1 C2.2.2.2.1 C2.2.2.2.2 sO)) →
    pw pP mSB_deliverForward (4, [some (.inr (some 1)), some (.inl (nI p)), some (.inl (nI n)), some (.inl (nI i)), o4], [], 0, 0, hb (sL L) C.2.2.1 C.2.2.2.1 C.2.2.2.2 sO) Q := by
  intro m
  induction m with
  | zero =>
    intro C i n t kk o4 Q him hit ht hkt hok hnw hn0 hnd hfl K
    have e : i = 6 := by omega
    have e2 : t = 6 := by omega
    subst e e2
    refine cdf_end ?_
    exact K C n hok rfl frC_id (fun o5 o6 o7 o8 o9 o10 L f g Rt Q hC k => td_end (k f g hC frT_id))
  | succ m ih =>
    intro C i n t kk o4 Q him hit ht hkt hok hnw hn0 hnd hfl K
    obtain ⟨θ, Γ, F, G, R⟩ := C
    have hnw : θ.now < 2 ^ 20 := hnw
    have hn0 : 0 < θ.now := hn0
    have hnd : ∀ k, k < kk → k < (Γ p).fl → ¬ F (rx R (5 + 21 * p + 1 + 1) k) 5 = nI θ.now := hnd
    have hfl : (Γ p).fl + t ≤ kk + 6 := hfl
    obtain ⟨f0, g0, h⟩ := hok
    have h : CI θ Γ F G R f0 g0 := h
    have hP : pathok L (5 + 21 * p) R := rw_path h.rw hp
    have hy := h.py p hp
    have hR := h.rw.pf p hp
    have b6 := hy.qf.1
    have hsz := hy.qf.2.1
    refine cdf_due hp (h.rw.r4 p hp) hP h.ct.n1 (by omega) ?_
    cases hc : cdu F R (5 + 21 * p + 1) (nI θ.now) (Γ p).fl 0 with
    | none =>
      refine t_tdu_none hP.2.2.1 hsz b6 hc ?_
      show pw pP mSB_deliverForward (26, [some (.inr (some 1)), some (.inl (nI p)), some (.inl (nI n)), some (.inl (nI i)), o4], [.inr none], 0, 0, hb (sL L) F G R sO) Q
      refine cdf_null ?_
      have hno := cdu_none _ _ hc
      refine K (θ, Γ, F, G, R) n ⟨f0, g0, h⟩ rfl frC_id (fun o5 o6 o7 o8 o9 o10 L f g Rt Q hC k => ?_)
      have hC : CI θ Γ F G R f g := hC
      have hq := (hC.py p hp).qf
      refine tidle0 hp hq.2.2.1 b6 hC.ct.n2 (by omega) (fun k2 hk2 => ?_) (k f g hC frT_id) (6 - t) kk t _ _ _ _ _ _ (by omega) (by omega)
      have := (hq.2.2.2 k2 hk2).2.2.2.2.2
      rw [← this]
      exact hno k2 (by omega) (by omega)
    | some j =>
      obtain ⟨j1, j2, j3, j4⟩ := cdu_some _ _ hc
      rw [Nat.zero_add] at j2
      have hkj : kk ≤ j := by
        by_cases w : j < kk
        · exact absurd j3 (hnd j w j2)
        · omega
      refine t_tdu_some hP.2.2.1 hsz b6 hc ?_
      show pw pP mSB_deliverForward (26, [some (.inr (some 1)), some (.inl (nI p)), some (.inl (nI n)), some (.inl (nI i)), o4], [.inr (some (rx R (5 + 21 * p + 1 + 1) j))], 0, 0, hb (sL L) (tout_F F (5 + 21 * p + 1) (Γ p).fl) G (tout_R R (5 + 21 * p + 1) (Γ p).fl j (rx R (5 + 21 * p + 1 + 1) j)) sO) Q
      obtain ⟨x1, x2, x3⟩ := hR.1 j (by omega)
      have hsx : (sL L)[rx R (5 + 21 * p + 1 + 1) j]? = some (2, 1, [0, 0, 0, 0, 0, 0], 0) := sl_copyf hp x2 x3
      have h1 := CI_dropf h hp j2
      have hst1 : ¬ ((upG Γ p ((Γ p).sf ((Γ p).fl - 1)) p).st = 4 ∨ (upG Γ p ((Γ p).sf ((Γ p).fl - 1)) p).st = 0) := by
        rw [upG_eq]
        intro w
        have := hy.s4 w
        omega
      have hFx : ∀ c, tout_F F (5 + 21 * p + 1) (Γ p).fl (rx R (5 + 21 * p + 1 + 1) j) c = F (rx R (5 + 21 * p + 1 + 1) j) c := fun c => up2_ne1 (by omega)
      obtain ⟨c0, c1, c2, c3, c4, c5⟩ := hy.qf.2.2.2 j j2
      have hcp : cpF (upG Γ p ((Γ p).sf ((Γ p).fl - 1)) p).hi θ.ln (tout_F F (5 + 21 * p + 1) (Γ p).fl (rx R (5 + 21 * p + 1 + 1) j) 0) (tout_F F (5 + 21 * p + 1) (Γ p).fl (rx R (5 + 21 * p + 1 + 1) j) 2) (tout_F F (5 + 21 * p + 1) (Γ p).fl (rx R (5 + 21 * p + 1 + 1) j) 3) (tout_F F (5 + 21 * p + 1) (Γ p).fl (rx R (5 + 21 * p + 1 + 1) j) 1) := by
        rw [hFx 0, hFx 2, hFx 3, hFx 1, c0, c2, c3, c1, upG_eq]
        exact hy.cf j j2
      refine cdf_take hp (h1.rw.r4 p hp) (rw_path h1.rw hp) h1.ct.n1 hsx ?_
      obtain ⟨C2, k1, k2, k3, k4, k5, k6, k7, k8⟩ := hearB (L := L) (x := rx R (5 + 21 * p + 1 + 1) j) (θ := θ) (Γ := upG Γ p ((Γ p).sf ((Γ p).fl - 1))) (F := tout_F F (5 + 21 * p + 1) (Γ p).fl) (G := G) (R := tout_R R (5 + 21 * p + 1) (Γ p).fl j (rx R (5 + 21 * p + 1 + 1) j)) ⟨f0, _, CI_dropf h hp j2⟩ hp hst1 hsx (by omega) hcp
      have keep : (C2.2.1 p).fl = 0 ∨ ((C2.2.1 p).fl = (Γ p).fl - 1 ∧ (∀ k, rx C2.2.2.2.2 (5 + 21 * p + 1 + 1) k = rx (tout_R R (5 + 21 * p + 1) (Γ p).fl j (rx R (5 + 21 * p + 1 + 1) j)) (5 + 21 * p + 1 + 1) k) ∧ ∀ i k, 5 + 21 * p + 1 ≤ i → i ≤ 5 + 21 * p + 8 → C2.2.2.1 i k = tout_F F (5 + 21 * p + 1) (Γ p).fl i k) := by
        refine .inr ⟨?_, fun k => by rw [k4], k5⟩
        rw [k6, upG_eq]
        rfl
      refine k7 _ ?_
      show pw pP mSB_deliverForward (59, [some (.inr (some 1)), some (.inl (nI p)), some (.inl (nI (n + 1))), some (.inl (nI i)), some (.inr (some (rx R (5 + 21 * p + 1 + 1) j)))], [], 0, 0, hb (sL L) C2.2.2.1 C2.2.2.2.1 C2.2.2.2.2 sO) Q
      refine cdf_next ?_
      refine ih C2 (i + 1) (n + 1) (t + (j - kk) + 1) j _ Q (by omega) (by omega) (by omega) (by omega) k1 (by rw [k2]; exact hnw) (by rw [k2]; exact hn0) (fun k a b => ?_) ?_ (fun C3 n3 q1 q2 q3 q4 => ?_)
      · rcases keep with w | ⟨w1, w2, w3⟩
        · omega
        · have hx := (hR.1 k (by omega)).2
          rw [w2, tout_rx j2, if_neg (by omega), if_neg (by omega), w3 _ _ (by omega) (by omega), k2]
          rw [show tout_F F (5 + 21 * p + 1) (Γ p).fl (rx R (5 + 21 * p + 1 + 1) k) 5 = F (rx R (5 + 21 * p + 1 + 1) k) 5 from up2_ne1 (by omega)]
          exact j4 k (by omega) a
      · rcases keep with w | ⟨w1, w2, w3⟩
        · omega
        · omega
      · refine K C3 n3 q1 (q2.trans k2) (frC_trans (frC_trans ⟨fun i k a => up2_ne1 (by omega), fun i a => rfl⟩ k3) q3) (fun o5 o6 o7 o8 o9 o10 L f g Rt Q hC k => ?_)
        have hC : CI θ Γ F G R f g := hC
        have hq := (hC.py p hp).qf
        have hdu := fun k2 hk2 => (hq.2.2.2 k2 hk2).2.2.2.2.2
        refine tskip0 hp hq.2.2.1 b6 hC.ct.n2 (by omega) (j - kk) kk t _ _ _ _ _ _ (by omega) (by omega) (fun k2 a b => ?_) (fun o5 o6 o7 o8 o9 o10 => ?_)
        · rw [← hdu k2 (by omega)]
          exact j4 k2 (by omega) (by omega)
        · rw [show kk + (j - kk) = j from by omega]
          refine td0_take hp hq.2.2.1 b6 (by omega) (by omega) hC.ct.n2 (by omega) j2 ((hdu j j2).symm.trans j3) ?_
          obtain ⟨v0, v1, v2, v3, v4, v5⟩ := hq.2.2.2 j j2
          have k9 := k8
          rw [hFx 0, hFx 2, hFx 3, hFx 1, v0, v2, v3, v1] at k9
          refine k9 L f _ Rt _ (CI_dropf hC hp j2) (fun f2 g2 r1 r2 => ?_)
          show pw pP mSBModel_deliver (121, [some (.inr (some 103)), some (.inl (nI (2 * p))), some (.inl (nI (n + 1))), some (.inl (nI j)), some (.inl (nI (t + (j - kk)))), some (.inl (nI (6 * (2 * p) + j))), some (.inl (g 125 (6 * (2 * p) + j))), some (.inl (g 126 (6 * (2 * p) + j))), some (.inl (g 127 (6 * (2 * p) + j))), some (.inl (g 128 (6 * (2 * p) + j))), some (.inl (g 129 (6 * (2 * p) + j)))], [], 0, 0, hb (sL L) f2 g2 Rt sO) Q
          refine td0_next ?_
          exact q4 _ _ _ _ _ _ L f2 g2 Rt Q r1 (fun f3 g3 r3 r4 => k f3 g3 r3 (frT_trans (frT_trans ⟨fun i k a => rfl, fun i a => tdrop_row (by omega)⟩ r2) r4))
theorem dvf {L p : Nat} (hp : p < 4) {C : CC} {Q : Option PV → PH → Prop} (hok : okC C) (hnw : C.1.now < 2 ^ 20) (hn0 : 0 < C.1.now) (K : ∀ (C2 : CC) (n2 : Nat), okC C2 → C2.1.now = C.1.now → frK C C2 → tpz mSBModel_deliver [.inr (some 103), .inl (nI (2 * p))] C C2 (some (.inl (nI n2))) → Q (some (.inl (nI n2))) (hb (sL L) C2.2.2.1 C2.2.2.2.1 C2.2.2.2.2 sO)) : pz pP mSB_deliverForward [.inr (some 1), .inl (nI p)] (hb (sL L) C.2.2.1 C.2.2.2.1 C.2.2.2.2 sO) Q := by
  refine cdf_0 ?_
  have b6 : (C.2.1 p).fl ≤ 6 := by
    obtain ⟨f, g, h⟩ := hok
    exact (CI.py h p hp).qf.1
  refine dvf_lp hp 6 C 0 0 0 0 _ Q rfl (by omega) (by omega) (by omega) hok hnw hn0 (fun k a b => by omega) (by omega) (fun C2 n2 q1 q2 q3 q4 => K C2 n2 q1 q2 q3 (fun L f g Rt Q hC k => ?_))
  refine td0_0 ?_
  exact q4 _ _ _ _ _ _ L f g Rt Q hC k
theorem tskip1 {L p n fl now : Nat} {F G : FN} {R : RN} {Q : Option PV → PH → Prop} (hp : p < 4) (hfl : G 124 (2 * p + 1) = nI fl) (hf : fl ≤ 6) (hn : F 103 3 = nI now) (hnw : now < 2 ^ 31) : ∀ (d kk t : Nat) (o5 o6 o7 o8 o9 o10 : Option PV), t + d ≤ 6 → kk + d ≤ fl → (∀ k, kk ≤ k → k < kk + d → ¬ G 130 (6 * (2 * p + 1) + k) = nI now) → (∀ o5 o6 o7 o8 o9 o10 : Option PV, pw pP mSBModel_deliver (7, [some (.inr (some 103)), some (.inl (nI (2 * p + 1))), some (.inl (nI (n))), some (.inl (nI (kk + d))), some (.inl (nI (t + d))), o5, o6, o7, o8, o9, o10], [], 0, 0, hb (sL L) F G R sO) Q) → pw pP mSBModel_deliver (7, [some (.inr (some 103)), some (.inl (nI (2 * p + 1))), some (.inl (nI (n))), some (.inl (nI (kk))), some (.inl (nI (t))), o5, o6, o7, o8, o9, o10], [], 0, 0, hb (sL L) F G R sO) Q
  | 0, kk, t, o5, o6, o7, o8, o9, o10, _, _, _, k => k o5 o6 o7 o8 o9 o10
  | d + 1, kk, t, o5, o6, o7, o8, o9, o10, h1, h2, h3, k => by
    refine td1_not hp hfl hf (by omega) (by omega) hn hnw (by omega) (h3 kk (by omega) (by omega)) ?_
    refine tskip1 hp hfl hf hn hnw d (kk + 1) (t + 1) _ _ _ _ _ _ (by omega) (by omega) (fun k a b => h3 k (by omega) (by omega)) (fun o5 o6 o7 o8 o9 o10 => ?_)
    have k2 := k o5 o6 o7 o8 o9 o10
    rw [show kk + 1 + d = kk + (d + 1) from by omega, show t + 1 + d = t + (d + 1) from by omega]
    exact k2
theorem tidle1 {L p n fl now : Nat} {F G : FN} {R : RN} {Q : Option PV → PH → Prop} (hp : p < 4) (hfl : G 124 (2 * p + 1) = nI fl) (hf : fl ≤ 6) (hn : F 103 3 = nI now) (hnw : now < 2 ^ 31) (hnd : ∀ k, k < fl → ¬ G 130 (6 * (2 * p + 1) + k) = nI now) (k : Q (some (.inl (nI n))) (hb (sL L) F G R sO)) : ∀ (r kk t : Nat) (o5 o6 o7 o8 o9 o10 : Option PV), t + r = 6 → kk + r ≤ 12 → pw pP mSBModel_deliver (7, [some (.inr (some 103)), some (.inl (nI (2 * p + 1))), some (.inl (nI (n))), some (.inl (nI (kk))), some (.inl (nI (t))), o5, o6, o7, o8, o9, o10], [], 0, 0, hb (sL L) F G R sO) Q
  | 0, kk, t, o5, o6, o7, o8, o9, o10, h1, _ => by
    have e : t = 6 := by omega
    subst e
    exact td_end k
  | r + 1, kk, t, o5, o6, o7, o8, o9, o10, h1, h2 => by
    by_cases c : fl ≤ kk
    · refine td1_far hp hfl hf (by omega) (by omega) hn hnw c ?_
      exact tidle1 hp hfl hf hn hnw hnd k r (kk + 1) (t + 1) _ _ _ _ _ _ (by omega) (by omega)
    · refine td1_not hp hfl hf (by omega) (by omega) hn hnw (by omega) (hnd kk (by omega)) ?_
      exact tidle1 hp hfl hf hn hnw hnd k r (kk + 1) (t + 1) _ _ _ _ _ _ (by omega) (by omega)
theorem dvb_lp {L p : Nat} (hp : p < 4) : ∀ (m : Nat) (C : CC) (i n t kk : Nat) (o4 : Option PV) (Q : Option PV → PH → Prop), i + m = 6 → i ≤ t → t ≤ 6 → kk ≤ t → okC C → C.1.now < 2 ^ 20 → 0 < C.1.now → (∀ k, k < kk → k < (C.2.1 p).bl → ¬ C.2.2.1 (rx C.2.2.2.2 (5 + 21 * p + 9 + 1) k) 5 = nI C.1.now) → (C.2.1 p).bl + t ≤ kk + 6 →
    (∀ (C2 : CC) (n2 : Nat), okC C2 → C2.1.now = C.1.now → frK C C2 → (∀ o5 o6 o7 o8 o9 o10 : Option PV, tpw mSBModel_deliver 7 [some (.inr (some 103)), some (.inl (nI (2 * p + 1))), some (.inl (nI (n))), some (.inl (nI (kk))), some (.inl (nI (t))), o5, o6, o7, o8, o9, o10] C C2 (some (.inl (nI n2)))) → Q (some (.inl (nI n2))) (hb (sL L) C2.2.2.1 C2.2.2.2.1 C2.2.2.2.2 sO)) →
    pw pP mSB_deliverBack (4, [some (.inr (some 1)), some (.inl (nI p)), some (.inl (nI n)), some (.inl (nI i)), o4], [], 0, 0, hb (sL L) C.2.2.1 C.2.2.2.1 C.2.2.2.2 sO) Q := by
  intro m
  induction m with
  | zero =>
    intro C i n t kk o4 Q him hit ht hkt hok hnw hn0 hnd hfl K
    have e : i = 6 := by omega
    have e2 : t = 6 := by omega
    subst e e2
    refine cdb_end ?_
    exact K C n hok rfl frC_id (fun o5 o6 o7 o8 o9 o10 L f g Rt Q hC k => td_end (k f g hC frT_id))
  | succ m ih =>
    intro C i n t kk o4 Q him hit ht hkt hok hnw hn0 hnd hfl K
    obtain ⟨θ, Γ, F, G, R⟩ := C
    have hnw : θ.now < 2 ^ 20 := hnw
    have hn0 : 0 < θ.now := hn0
    have hnd : ∀ k, k < kk → k < (Γ p).bl → ¬ F (rx R (5 + 21 * p + 9 + 1) k) 5 = nI θ.now := hnd
    have hfl : (Γ p).bl + t ≤ kk + 6 := hfl
    obtain ⟨f0, g0, h⟩ := hok
    have h : CI θ Γ F G R f0 g0 := h
    have hP : pathok L (5 + 21 * p) R := rw_path h.rw hp
    have hy := h.py p hp
    have hR := h.rw.pb p hp
    have b6 := hy.qb.1
    have hsz := hy.qb.2.1
    refine cdb_due hp (h.rw.r4 p hp) hP h.ct.n1 (by omega) ?_
    cases hc : cdu F R (5 + 21 * p + 9) (nI θ.now) (Γ p).bl 0 with
    | none =>
      refine t_tdu_none hP.2.2.2.1 hsz b6 hc ?_
      show pw pP mSB_deliverBack (26, [some (.inr (some 1)), some (.inl (nI p)), some (.inl (nI n)), some (.inl (nI i)), o4], [.inr none], 0, 0, hb (sL L) F G R sO) Q
      refine cdb_null ?_
      have hno := cdu_none _ _ hc
      refine K (θ, Γ, F, G, R) n ⟨f0, g0, h⟩ rfl frC_id (fun o5 o6 o7 o8 o9 o10 L f g Rt Q hC k => ?_)
      have hC : CI θ Γ F G R f g := hC
      have hq := (hC.py p hp).qb
      refine tidle1 hp hq.2.2.1 b6 hC.ct.n2 (by omega) (fun k2 hk2 => ?_) (k f g hC frT_id) (6 - t) kk t _ _ _ _ _ _ (by omega) (by omega)
      have := (hq.2.2.2 k2 hk2).2.2.2.2.2
      rw [← this]
      exact hno k2 (by omega) (by omega)
    | some j =>
      obtain ⟨j1, j2, j3, j4⟩ := cdu_some _ _ hc
      rw [Nat.zero_add] at j2
      have hkj : kk ≤ j := by
        by_cases w : j < kk
        · exact absurd j3 (hnd j w j2)
        · omega
      refine t_tdu_some hP.2.2.2.1 hsz b6 hc ?_
      show pw pP mSB_deliverBack (26, [some (.inr (some 1)), some (.inl (nI p)), some (.inl (nI n)), some (.inl (nI i)), o4], [.inr (some (rx R (5 + 21 * p + 9 + 1) j))], 0, 0, hb (sL L) (tout_F F (5 + 21 * p + 9) (Γ p).bl) G (tout_R R (5 + 21 * p + 9) (Γ p).bl j (rx R (5 + 21 * p + 9 + 1) j)) sO) Q
      obtain ⟨x1, x2, x3⟩ := hR.1 j (by omega)
      have hsx : (sL L)[rx R (5 + 21 * p + 9 + 1) j]? = some (2, 1, [0, 0, 0, 0, 0, 0], 0) := sl_copyb hp x2 x3
      have h1 := CI_dropb h hp j2
      have hst1 : ¬ ((upG Γ p ((Γ p).sb ((Γ p).bl - 1)) p).st = 4 ∨ (upG Γ p ((Γ p).sb ((Γ p).bl - 1)) p).st = 0) := by
        rw [upG_eq]
        intro w
        have := hy.s4 w
        omega
      have hFx : ∀ c, tout_F F (5 + 21 * p + 9) (Γ p).bl (rx R (5 + 21 * p + 9 + 1) j) c = F (rx R (5 + 21 * p + 9 + 1) j) c := fun c => up2_ne1 (by omega)
      obtain ⟨c0, c1, c2, c3, c4, c5⟩ := hy.qb.2.2.2 j j2
      have hcp : cpB θ.ln (tout_F F (5 + 21 * p + 9) (Γ p).bl (rx R (5 + 21 * p + 9 + 1) j) 0) (tout_F F (5 + 21 * p + 9) (Γ p).bl (rx R (5 + 21 * p + 9 + 1) j) 2) (tout_F F (5 + 21 * p + 9) (Γ p).bl (rx R (5 + 21 * p + 9 + 1) j) 3) (tout_F F (5 + 21 * p + 9) (Γ p).bl (rx R (5 + 21 * p + 9 + 1) j) 4) (tout_F F (5 + 21 * p + 9) (Γ p).bl (rx R (5 + 21 * p + 9 + 1) j) 1) := by
        rw [hFx 0, hFx 2, hFx 3, hFx 4, hFx 1, c0, c2, c3, c4, c1]
        exact hy.cb j j2
      refine cdb_take hp (h1.rw.r4 p hp) (rw_path h1.rw hp) h1.ct.n1 hsx ?_
      obtain ⟨C2, k1, k2, k3, k5, k7, k8⟩ := hearA (L := L) (x := rx R (5 + 21 * p + 9 + 1) j) (θ := θ) (Γ := upG Γ p ((Γ p).sb ((Γ p).bl - 1))) (F := tout_F F (5 + 21 * p + 9) (Γ p).bl) (G := G) (R := tout_R R (5 + 21 * p + 9) (Γ p).bl j (rx R (5 + 21 * p + 9 + 1) j)) ⟨f0, _, CI_dropb h hp j2⟩ hp hst1 hsx (by omega) hnw hn0 hcp
      have keep : (C2.2.1 p).bl = 0 ∨ ((C2.2.1 p).bl = (Γ p).bl - 1 ∧ (∀ k, rx C2.2.2.2.2 (5 + 21 * p + 9 + 1) k = rx (tout_R R (5 + 21 * p + 9) (Γ p).bl j (rx R (5 + 21 * p + 9 + 1) j)) (5 + 21 * p + 9 + 1) k) ∧ ∀ i k, 5 + 21 * p + 9 ≤ i → i ≤ 5 + 21 * p + 16 → C2.2.2.1 i k = tout_F F (5 + 21 * p + 9) (Γ p).bl i k) := by
        rw [upG_eq] at k5
        exact k5
      refine k7 _ ?_
      show pw pP mSB_deliverBack (58, [some (.inr (some 1)), some (.inl (nI p)), some (.inl (nI (n + 1))), some (.inl (nI i)), some (.inr (some (rx R (5 + 21 * p + 9 + 1) j)))], [], 0, 0, hb (sL L) C2.2.2.1 C2.2.2.2.1 C2.2.2.2.2 sO) Q
      refine cdb_next ?_
      refine ih C2 (i + 1) (n + 1) (t + (j - kk) + 1) j _ Q (by omega) (by omega) (by omega) (by omega) k1 (by rw [k2]; exact hnw) (by rw [k2]; exact hn0) (fun k a b => ?_) ?_ (fun C3 n3 q1 q2 q3 q4 => ?_)
      · rcases keep with w | ⟨w1, w2, w3⟩
        · omega
        · have hx := (hR.1 k (by omega)).2
          rw [w2, tout_rx j2, if_neg (by omega), if_neg (by omega), w3 _ _ (by omega) (by omega), k2]
          rw [show tout_F F (5 + 21 * p + 9) (Γ p).bl (rx R (5 + 21 * p + 9 + 1) k) 5 = F (rx R (5 + 21 * p + 9 + 1) k) 5 from up2_ne1 (by omega)]
          exact j4 k (by omega) a
      · rcases keep with w | ⟨w1, w2, w3⟩
        · omega
        · omega
      · refine K C3 n3 q1 (q2.trans k2) (frC_trans (frC_trans ⟨fun i k a => up2_ne1 (by omega), fun i a => rfl⟩ k3) q3) (fun o5 o6 o7 o8 o9 o10 L f g Rt Q hC k => ?_)
        have hC : CI θ Γ F G R f g := hC
        have hq := (hC.py p hp).qb
        have hdu := fun k2 hk2 => (hq.2.2.2 k2 hk2).2.2.2.2.2
        refine tskip1 hp hq.2.2.1 b6 hC.ct.n2 (by omega) (j - kk) kk t _ _ _ _ _ _ (by omega) (by omega) (fun k2 a b => ?_) (fun o5 o6 o7 o8 o9 o10 => ?_)
        · rw [← hdu k2 (by omega)]
          exact j4 k2 (by omega) (by omega)
        · rw [show kk + (j - kk) = j from by omega]
          refine td1_take hp hq.2.2.1 b6 (by omega) (by omega) hC.ct.n2 (by omega) j2 ((hdu j j2).symm.trans j3) ?_
          obtain ⟨v0, v1, v2, v3, v4, v5⟩ := hq.2.2.2 j j2
          have k9 := k8
          rw [hFx 0, hFx 2, hFx 3, hFx 4, v0, v2, v3, v4] at k9
          refine k9 L f _ Rt _ (CI_dropb hC hp j2) (fun f2 g2 r1 r2 => ?_)
          show pw pP mSBModel_deliver (139, [some (.inr (some 103)), some (.inl (nI (2 * p + 1))), some (.inl (nI (n + 1))), some (.inl (nI j)), some (.inl (nI (t + (j - kk)))), some (.inl (nI (6 * (2 * p + 1) + j))), some (.inl (g 125 (6 * (2 * p + 1) + j))), some (.inl (g 126 (6 * (2 * p + 1) + j))), some (.inl (g 127 (6 * (2 * p + 1) + j))), some (.inl (g 128 (6 * (2 * p + 1) + j))), some (.inl (g 129 (6 * (2 * p + 1) + j)))], [], 0, 0, hb (sL L) f2 g2 Rt sO) Q
          refine td1_next ?_
          exact q4 _ _ _ _ _ _ L f2 g2 Rt Q r1 (fun f3 g3 r3 r4 => k f3 g3 r3 (frT_trans (frT_trans ⟨fun i k a => rfl, fun i a => tdrop_row (by omega)⟩ r2) r4))
theorem dvb {L p : Nat} (hp : p < 4) {C : CC} {Q : Option PV → PH → Prop} (hok : okC C) (hnw : C.1.now < 2 ^ 20) (hn0 : 0 < C.1.now) (K : ∀ (C2 : CC) (n2 : Nat), okC C2 → C2.1.now = C.1.now → frK C C2 → tpz mSBModel_deliver [.inr (some 103), .inl (nI (2 * p + 1))] C C2 (some (.inl (nI n2))) → Q (some (.inl (nI n2))) (hb (sL L) C2.2.2.1 C2.2.2.2.1 C2.2.2.2.2 sO)) : pz pP mSB_deliverBack [.inr (some 1), .inl (nI p)] (hb (sL L) C.2.2.1 C.2.2.2.1 C.2.2.2.2 sO) Q := by
  refine cdb_0 ?_
  have b6 : (C.2.1 p).bl ≤ 6 := by
    obtain ⟨f, g, h⟩ := hok
    exact (CI.py h p hp).qb.1
  refine dvb_lp hp 6 C 0 0 0 0 _ Q rfl (by omega) (by omega) (by omega) hok hnw hn0 (fun k a b => by omega) (by omega) (fun C2 n2 q1 q2 q3 q4 => K C2 n2 q1 q2 q3 (fun L f g Rt Q hC k => ?_))
  refine td1_0 ?_
  exact q4 _ _ _ _ _ _ L f g Rt Q hC k
