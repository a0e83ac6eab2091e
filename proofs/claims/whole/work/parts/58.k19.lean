/-! BOTH TOGETHER, third part: timers ring; A sends. -/
theorem CI_pipef {L p : Nat} {θ : TG} {Γ : Nat → PG} {F G f g : FN} {R : RN} (h : CI θ Γ F G R f g) (hp : p < 4) : (Γ p).fl < 6 → R (5 + 21 * p + 1 + 1) (Γ p).fl = some (rx R (5 + 21 * p + 1 + 1) (Γ p).fl) ∧ (sL L)[rx R (5 + 21 * p + 1 + 1) (Γ p).fl]? = some (2, 1, [0, 0, 0, 0, 0, 0], 0) ∧ 5 + 21 * p + 3 ≤ rx R (5 + 21 * p + 1 + 1) (Γ p).fl ∧ rx R (5 + 21 * p + 1 + 1) (Γ p).fl ≤ 5 + 21 * p + 8 := by
  intro q
  obtain ⟨w1, w2, w3⟩ := (h.rw.pf p hp).1 (Γ p).fl q
  exact ⟨w1, sl_copyf hp w2 w3, by omega, by omega⟩
theorem ctr0_frx {F : FN} {a s x sz i k : Nat} {t : Int32} (h1 : ¬ i = a) (h2 : ¬ i = s) (h3 : ¬ i = a + 1) (h4 : sz < 6 → ¬ i = x) : ctr0_F F a s x sz t i k = F i k := by
  unfold ctr0_F
  rw [cship_frx h3 h4, ctr_ne (by omega) (by omega) (by omega)]
theorem ctr1_frx {F G : FN} {a s x sz c u m ln i k : Nat} {t : Int32} (h1 : ¬ i = a) (h2 : ¬ i = s) (h3 : ¬ i = a + 1) (h4 : sz < 6 → ¬ i = x) : ctr1_F F G a s x sz t c u m ln i k = F i k := by
  unfold ctr1_F
  rw [cship_frx h3 h4, ctr_ne (by omega) (by omega) (by omega)]
theorem ringB {L p : Nat} {θ : TG} {Γ : Nat → PG} {F G : FN} {R : RN} (hok : ∃ f g, CI θ Γ F G R f g) (hp : p < 4) (htm : (Γ p).tm = θ.now) (hn : θ.now < 2 ^ 20) (hn0 : 0 < θ.now) :
    ∃ C2 : CC, okC C2 ∧ C2.1.now = θ.now ∧ frC F C2.2.2.1 G C2.2.2.2.1 ∧ (∀ Q : Option PV → PH → Prop, Q none (hb (sL L) C2.2.2.1 C2.2.2.2.1 C2.2.2.2.2 sO) → pz pP mHostA_ring [.inr (some 89), .inr (some (5 + 21 * p)), .inl (nI θ.now)] (hb (sL L) F G R sO) Q) ∧
      tpz mSBModel_ring [.inr (some 103), .inl (nI p)] (θ, Γ, F, G, R) C2 none := by
  obtain ⟨f0, g0, h⟩ := hok
  have hP : pathok L (5 + 21 * p) R := rw_path h.rw hp
  have hx := h.px p hp
  have hy := h.py p hp
  have hl := CT_ln h.ct
  have hsc := hx.t0 (by omega)
  have hsc3 := hx.sc3
  obtain ⟨s1, s2, s3⟩ := (h.rw.sg p hp).1 0 (by omega)
  obtain ⟨d1, d2, d3, d4, d5⟩ := hx.sg 0 hsc
  have hst : ¬ (Γ p).st = 4 := fun e => by have := hx.s4 e; omega
  have hnu := hx.ch0 hst hsc
  have hnn := CX_hn hx hsc
  have hh4 := hx.h402
  have hb0 := hx.sb 0 hsc
  have hpf := CI_pipef (L := L) h hp
  by_cases h0 : (Γ p).nu 0 = 0
  · obtain ⟨y1, y2, y3⟩ := hx.sy 0 hsc h0
    refine ⟨(θ, _, _, G, R), ⟨_, _, CI_ring0 h hp htm hn hn0 h0⟩, rfl, ⟨fun i k a => ?_, fun i a => rfl⟩, fun Q k => t_cri0 hP (by omega) (sl_seg hp s2 s3) ⟨s2, s3⟩ hy.qf.2.1 hy.qf.1 hpf hx.f3 hsc3 hsc s1 (by rw [d4, y1]) k, fun L f g Rt Q hC k => ?_⟩
    · show ctr0_F _ _ _ _ _ _ i k = _
      rw [ctr0_frx (by omega) (by omega) (by omega) (fun q => by have := hpf q; omega), cri_ne (by omega) (by omega) (by omega)]
    · have hC : CI θ Γ F G R f g := hC
      have hxC := hC.px p hp
      exact t_ring hp hxC.g115 (by omega) (hC.py p hp).qf.2.2.1 hy.qf.1 (k _ _ (CI_ring0 hC hp htm hn hn0 h0) ⟨fun i k a => rfl, fun i a => ring_fr a⟩)
  · obtain ⟨y1, y2, y3⟩ := hx.dt 0 hsc (by omega)
    refine ⟨(θ, _, _, G, R), ⟨_, _, CI_ring1 h hp htm hn hn0 h0⟩, rfl, ⟨fun i k a => ?_, fun i a => rfl⟩, fun Q k => t_cri1 hP (by omega) (sl_seg hp s2 s3) ⟨s2, s3⟩ hy.qf.2.1 hy.qf.1 hpf hx.f3 hsc3 hsc s1 d1 d3 (by rw [d4, y1]) (by omega) (by omega) h.ct.l1 hl k, fun L f g Rt Q hC k => ?_⟩
    · show ctr1_F _ _ _ _ _ _ _ _ _ _ _ i k = _
      rw [ctr1_frx (by omega) (by omega) (by omega) (fun q => by have := hpf q; omega), cri_ne (by omega) (by omega) (by omega)]
    · have hC : CI θ Γ F G R f g := hC
      have hxC := hC.px p hp
      exact t_ring hp hxC.g115 (by omega) (hC.py p hp).qf.2.2.1 hy.qf.1 (k _ _ (CI_ring1 hC hp htm hn hn0 h0) ⟨fun i k a => rfl, fun i a => ring_fr a⟩)
theorem rings_lp {L : Nat} : ∀ (m : Nat) (C : CC) (p ar : Nat) (Q : Option PV → PH → Prop), p + m = 4 → okC C → C.1.now < 2 ^ 20 → 0 < C.1.now →
    (∀ C2 : CC, okC C2 → C2.1.now = C.1.now → frK C C2 → (∀ (mm j ar2 : Nat) (o5 : Option PV), tps mSBModel_pass 59 [some (.inr (some 103)), some (.inl (nI mm)), some (.inl (nI ar2)), some (.inl (nI j)), some (.inl (nI p)), o5] 59 [some (.inr (some 103)), some (.inl (nI mm)), some (.inl (nI ar2)), some (.inl (nI j)), some (.inl (nI 4)), o5] C C2) →
      pw pP mSB_tick (43, [some (.inr (some 1)), some (.inl (nI ar)), some (.inl (nI 4))], [], 0, 0, hb (sL L) C2.2.2.1 C2.2.2.2.1 C2.2.2.2.2 sO) Q) →
    pw pP mSB_tick (43, [some (.inr (some 1)), some (.inl (nI ar)), some (.inl (nI p))], [], 0, 0, hb (sL L) C.2.2.1 C.2.2.2.1 C.2.2.2.2 sO) Q := by
  intro m
  induction m with
  | zero =>
    intro C p ar Q hpm hok hnw hn0 K
    have e : p = 4 := by omega
    subst e
    exact K C hok rfl frC_id (fun mm j ar2 o5 L f g Rt Q hC k => k f g hC frT_id)
  | succ m ih =>
    intro C p ar Q hpm hok hnw hn0 K
    obtain ⟨θ, Γ, F, G, R⟩ := C
    have hnw : θ.now < 2 ^ 20 := hnw
    have hn0 : 0 < θ.now := hn0
    have hp : p < 4 := by omega
    obtain ⟨f0, g0, h⟩ := hok
    have h : CI θ Γ F G R f0 g0 := h
    have hx := h.px p hp
    have htb := hx.tmb
    show pw pP mSB_tick (43, [some (.inr (some 1)), some (.inl (nI ar)), some (.inl (nI p))], [], 0, 0, hb (sL L) F G R sO) Q
    by_cases htm : (Γ p).tm = θ.now
    · refine ct_ry hp (h.rw.r4 p hp) (rw_path h.rw hp) h.ct.n1 (by omega) (by rw [hx.f9, if_neg (by omega), htm]) ?_
      obtain ⟨C2, k1, k2, k3, k4, k5⟩ := ringB (L := L) ⟨f0, g0, h⟩ hp htm hnw hn0
      refine k4 _ ?_
      show pw pP mSB_tick (81, [some (.inr (some 1)), some (.inl (nI ar)), some (.inl (nI p))], [], 0, 0, hb (sL L) C2.2.2.1 C2.2.2.2.1 C2.2.2.2.2 sO) Q
      refine ct_r2 ?_
      refine ih C2 (p + 1) ar Q (by omega) k1 (by rw [k2]; exact hnw) (by rw [k2]; exact hn0) (fun C3 q1 q2 q3 q4 => ?_)
      refine K C3 q1 (q2.trans k2) (frC_trans k3 q3) (fun mm j ar2 o5 L f g Rt Q hC k => ?_)
      have hC : CI θ Γ F G R f g := hC
      refine tp_ry hp hC.ct.n2 (by omega) (by rw [(hC.px p hp).g111, htm]) ?_
      refine k5 L f g Rt _ hC (fun f2 g2 r1 r2 => ?_)
      show pw pP mSBModel_pass (85, [some (.inr (some 103)), some (.inl (nI mm)), some (.inl (nI ar2)), some (.inl (nI j)), some (.inl (nI p)), o5], [], 0, 0, hb (sL L) f2 g2 Rt sO) Q
      refine tp_r2 ?_
      exact q4 mm j ar2 o5 L f2 g2 Rt Q r1 (fun f3 g3 r3 r4 => k f3 g3 r3 (frT_trans r2 r4))
    · refine ct_rn hp (h.rw.r4 p hp) (rw_path h.rw hp) h.ct.n1 (by omega) (fun q => ?_) ?_
      · rw [hx.f9] at q
        by_cases e : (Γ p).tm = 0
        · rw [if_pos e] at q
          exact nI_nm1 (by omega) q.symm
        · rw [if_neg e, nI_eq (by omega) (by omega)] at q
          exact htm q
      · refine ih (θ, Γ, F, G, R) (p + 1) ar Q (by omega) ⟨f0, g0, h⟩ hnw hn0 (fun C3 q1 q2 q3 q4 => ?_)
        refine K C3 q1 q2 q3 (fun mm j ar2 o5 L f g Rt Q hC k => ?_)
        have hC : CI θ Γ F G R f g := hC
        refine tp_rn hp hC.ct.n2 (by omega) (fun q => ?_) ?_
        · rw [(hC.px p hp).g111, nI_eq (by omega) (by omega)] at q
          exact htm q
        · exact q4 mm j ar2 o5 L f g Rt Q hC k
theorem CT_tlen {θ : TG} {F G f g : FN} (h : CT θ F G f g) : tlen f = nI θ.ln := by
  have h1 := h.lc
  have h2 := h.en1
  unfold tlen
  rw [h.l3, h.l4]
  by_cases e : θ.en = 0
  · rw [e, if_pos nI_0]
    congr 1
    omega
  · rw [if_neg (nI_ne0 (by omega) (by omega)), nI_add]
    congr 1
    omega
theorem CI_sends {L : Nat} {θ : TG} {Γ : Nat → PG} {F G f g : FN} {R Rt : RN} {Q : Option PV → PH → Prop} (h : CI θ Γ F G R f g) (k : Q (some (.inl (nI (tsr (tsb f g θ.kn θ.ln θ.ed (lwG Γ) (hiG Γ)))))) (hb (sL L) (tsF f g θ.kn θ.ln θ.ed θ.ms (hiG Γ) (flG Γ) (tsb f g θ.kn θ.ln θ.ed (lwG Γ) (hiG Γ))).1 (tsF f g θ.kn θ.ln θ.ed θ.ms (hiG Γ) (flG Γ) (tsb f g θ.kn θ.ln θ.ed (lwG Γ) (hiG Γ))).2 Rt sO)) : pz pP mSBModel_sends [.inr (some 103)] (hb (sL L) f g Rt sO) Q := by
  have hl := CT_ln h.ct
  have he := h.ct.ed4
  exact t_sends h.ct.fa5 (CT_tlen h.ct) hl h.ct.kl h.ct.fa6 (by omega) h.ct.fa2 h.ct.ms7 h.ct.ms1 (fun b hb => (h.px b hb).g115) (fun b hb => (h.px b hb).g116) (fun b hb => (h.px b hb).lh) (fun b hb => (h.px b hb).h402) (fun b hb => (h.py b hb).qf.2.2.1) (fun b hb => (h.py b hb).qf.1) (CI_cap h) k
def scS (Γ : Nat → PG) : Nat := (Γ 0).sc + (Γ 1).sc + (Γ 2).sc + (Γ 3).sc
theorem cqn_full {F : FN} {w : Int32} {sc : Nat → Nat} {fu : Nat → Option Nat} (h : ∀ p, p < 4 → ¬ sc p < 3) : ∀ (n p : Nat), p + n ≤ 4 → cqn F w sc fu n p none = none
  | 0, _, _ => rfl
  | n + 1, p, hn => by
    have e : cq1 F w sc fu p none = none := by
      unfold cq1
      rw [if_neg (h p (by omega))]
      split <;> rfl
    rw [cqn, e]
    exact cqn_full h n (p + 1) (by omega)
theorem cany_congr {F F2 : FN} (h : ∀ q, q < 4 → F2 (5 + 21 * q) 5 = F (5 + 21 * q) 5) : ∀ n p, p + n ≤ 4 → cany F2 n p = cany F n p
  | 0, _, _ => rfl
  | n + 1, p, e => by rw [cany, cany, h p (by omega), cany_congr h n (p + 1) (by omega)]
theorem wnt_congr {F F2 : FN} (h : ∀ q, q < 4 → F2 (5 + 21 * q) 5 = F (5 + 21 * q) 5) : wnt F2 = wnt F := by
  unfold wnt
  rw [cany_congr h 4 0 (by omega)]
theorem sends_lp {L : Nat} : ∀ (r : Nat) (C : CC) (t : Nat) (o4 : Option PV) (Q : Option PV → PH → Prop), scS C.2.1 + r = 12 → t ≤ scS C.2.1 → okC C → C.1.now < 2 ^ 20 → 0 < C.1.now →
    (∀ C2 : CC, okC C2 → C2.1.now = C.1.now → frK C C2 → (∃ t2 : Nat, ∀ mm j ar : Nat, tps mSBModel_pass 97 [some (.inr (some 103)), some (.inl (nI mm)), some (.inl (nI ar)), some (.inl (nI j)), some (.inl (nI 1)), some (.inl (nI t))] 16 [some (.inr (some 103)), some (.inl (nI mm)), some (.inl (nI ar)), some (.inl (nI (j + 1))), some (.inl (nI 0)), some (.inl (nI t2))] C C2) →
      Q none (hb (sL L) C2.2.2.1 C2.2.2.2.1 C2.2.2.2.2 sO)) →
    pw pP mHostA_sendAll (15, [some (.inr (some 89)), some (.inl (nI C.1.now)), some (.inl (wnt C.2.2.1)), some (.inl (nI t)), o4], [], 0, 0, hb (sL L) C.2.2.1 C.2.2.2.1 C.2.2.2.2 sO) Q := by
  intro r
  induction r with
  | zero =>
    intro C t o4 Q hS hts hok hnw hn0 K
    obtain ⟨θ, Γ, F, G, R⟩ := C
    have hS : scS Γ + 0 = 12 := hS
    have hts : t ≤ scS Γ := hts
    obtain ⟨f0, g0, h⟩ := hok
    have h : CI θ Γ F G R f0 g0 := h
    have hfull : ∀ p, p < 4 → ¬ scG Γ p < 3 := by
      intro p hp
      have a0 := (h.px 0 (by omega)).sc3
      have a1 := (h.px 1 (by omega)).sc3
      have a2 := (h.px 2 (by omega)).sc3
      have a3 := (h.px 3 (by omega)).sc3
      unfold scS at hS
      show ¬ (Γ p).sc < 3
      have : p = 0 ∨ p = 1 ∨ p = 2 ∨ p = 3 := by omega
      rcases this with e | e | e | e <;> subst e <;> omega
    have hq := cqn_full (F := F) (w := wnt F) (fu := cfG θ Γ F G) hfull 4 0 (by omega)
    have tw : ∀ mm j ar : Nat, ∃ t2, tps mSBModel_pass 97 [some (.inr (some 103)), some (.inl (nI mm)), some (.inl (nI ar)), some (.inl (nI j)), some (.inl (nI 1)), some (.inl (nI t))] 16 [some (.inr (some 103)), some (.inl (nI mm)), some (.inl (nI ar)), some (.inl (nI (j + 1))), some (.inl (nI 0)), some (.inl (nI t2))] (θ, Γ, F, G, R) (θ, Γ, F, G, R) ∧ t2 = t + 1 := by
      intro mm j ar
      refine ⟨t + 1, fun L f g Rt Q hC k => ?_, rfl⟩
      have hC : CI θ Γ F G R f g := hC
      refine tp_s (by omega) ?_
      refine CI_sends hC ?_
      rw [choose_same hC, hq]
      show pw pP mSBModel_pass (113, [some (.inr (some 103)), some (.inl (nI mm)), some (.inl (nI ar)), some (.inl (nI j)), some (.inl (nI 1)), some (.inl (nI t))], [.inl (nI 0)], 0, 0, hb (sL L) f g Rt sO) Q
      refine tp_s2 ?_
      by_cases e : t + 1 = 13
      · have k2 := k f g hC frT_id
        rw [e] at k2 ⊢
        exact tp_s13 k2
      · exact tp_s0 (by omega) (k f g hC frT_id)
    have fin : Q none (hb (sL L) F G R sO) := K (θ, Γ, F, G, R) ⟨f0, g0, h⟩ rfl frC_id ⟨t + 1, fun mm j ar => by
      obtain ⟨t2, a, b⟩ := tw mm j ar
      rw [b] at a
      exact a⟩
    by_cases e : t = 12
    · subst e
      exact cs_e fin
    · refine cs_q (by omega) ?_
      have he := h.ct.ed4
      have hl := CT_ln h.ct
      have hk := h.ct.kl
      refine t_cqk h.rw.r4 (fun q hq => rw_path h.rw hq) (CI_segv h) h.ct.a5 (by omega) h.ct.l1 hl h.ct.a6 (by omega) ?_
      show pw pP mHostA_sendAll (26, [some (.inr (some 89)), some (.inl (nI θ.now)), some (.inl (wnt F)), some (.inl (nI t)), o4], [.inr (oP (cqn F (wnt F) (scG Γ) (cfG θ Γ F G) 4 0 none))], 0, 0, hb (sL L) F G R sO) Q
      rw [hq]
      exact cs_null fin
  | succ r ih =>
    intro C t o4 Q hS hts hok hnw hn0 K
    obtain ⟨θ, Γ, F, G, R⟩ := C
    have hS : scS Γ + (r + 1) = 12 := hS
    have hts : t ≤ scS Γ := hts
    have hnw : θ.now < 2 ^ 20 := hnw
    have hn0 : 0 < θ.now := hn0
    obtain ⟨f0, g0, h⟩ := hok
    have h : CI θ Γ F G R f0 g0 := h
    have he := h.ct.ed4
    have hl := CT_ln h.ct
    have hk := h.ct.kl
    refine cs_q (by omega) ?_
    refine t_cqk h.rw.r4 (fun q hq => rw_path h.rw hq) (CI_segv h) h.ct.a5 (by omega) h.ct.l1 hl h.ct.a6 (by omega) ?_
    show pw pP mHostA_sendAll (26, [some (.inr (some 89)), some (.inl (nI θ.now)), some (.inl (wnt F)), some (.inl (nI t)), o4], [.inr (oP (cqn F (wnt F) (scG Γ) (cfG θ Γ F G) 4 0 none))], 0, 0, hb (sL L) F G R sO) Q
    cases hq : cqn F (wnt F) (scG Γ) (cfG θ Γ F G) 4 0 none with
    | none =>
      refine cs_null ?_
      refine K (θ, Γ, F, G, R) ⟨f0, g0, h⟩ rfl frC_id ⟨t + 1, fun mm j ar L f g Rt Q hC k => ?_⟩
      have hC : CI θ Γ F G R f g := hC
      refine tp_s (by omega) ?_
      refine CI_sends hC ?_
      rw [choose_same hC, hq]
      show pw pP mSBModel_pass (113, [some (.inr (some 103)), some (.inl (nI mm)), some (.inl (nI ar)), some (.inl (nI j)), some (.inl (nI 1)), some (.inl (nI t))], [.inl (nI 0)], 0, 0, hb (sL L) f g Rt sO) Q
      refine tp_s2 ?_
      exact tp_s0 (by omega) (k f g hC frT_id)
    | some b =>
      have hb4 : b < 4 := cqn_lt 4 0 none (by omega) (fun b q => by cases q) b hq
      obtain ⟨u, m, z1, z2, z3, z4, z5, z6, z7, z8, z9, z10, z11⟩ := CI_send h hb4 hq hnw hn0
      have hx := h.px b hb4
      have hy := h.py b hb4
      obtain ⟨s1, s2, s3⟩ := (h.rw.sg b hb4).1 (Γ b).sc z7
      have hpf := CI_pipef (L := L) h hb4
      have hms1 := h.ct.ms1
      have hms7 := h.ct.ms7
      show pw pP mHostA_sendAll (26, [some (.inr (some 89)), some (.inl (nI θ.now)), some (.inl (wnt F)), some (.inl (nI t)), o4], [.inr (some (5 + 21 * b))], 0, 0, hb (sL L) F G R sO) Q
      refine cs_ns ?_
      refine t_cns h.rw.r4 (fun q hq => rw_path h.rw hq) (CI_segv h) hb4 h.ct.a5 (by omega) h.ct.l1 hl h.ct.a6 (by omega) h.ct.a2 hms7 hms1 z3 z1 z2 (by omega) z7 hx.f4 s1 (sl_seg hb4 s2 s3) ⟨s2, s3⟩ ?_
      show pw pP mHostA_sendAll (43, [some (.inr (some 89)), some (.inl (nI θ.now)), some (.inl (wnt F)), some (.inl (nI t)), some (.inr (some (5 + 21 * b)))], [.inr (some (rx R (5 + 21 * b + 17) (Γ b).sc)), .inr (some (5 + 21 * b)), .inr (some 89)], 0, 0, hb (sL L) (cns_F F G (5 + 21 * b) (rx R (5 + 21 * b + 17) (Γ b).sc) (Γ b).sc (Γ b).hi u m) (cns_G F G u m) R sO) Q
      refine cs_sf (o4 := none) ?_
      refine t_csf1 (rw_path h.rw hb4) (by omega) (sl_seg hb4 s2 s3) ⟨s2, s3⟩ (by rw [cns_F_fr (by omega) (by omega) (by omega)]; exact hy.qf.2.1) hy.qf.1 hpf (c := (Γ b).hi) (u := u) (m := m) ?_ ?_ ?_ (by omega) (by omega) (by rw [cns_F_fr (by omega) (by omega) (by omega)]; exact h.ct.l1) hl ?_
      · unfold cns_F cadd_F
        (repeat (first | rw [up2_eq] | rw [up2_ne (by omega)]))
      · unfold cns_F cadd_F
        (repeat (first | rw [up2_eq] | rw [up2_ne (by omega)]))
      · unfold cns_F cadd_F
        (repeat (first | rw [up2_eq] | rw [up2_ne (by omega)]))
      obtain ⟨F2, hF2⟩ : ∃ F2, F2 = ctr1_F (csf (cns_F F G (5 + 21 * b) (rx R (5 + 21 * b + 17) (Γ b).sc) (Γ b).sc (Γ b).hi u m) (5 + 21 * b) (nI θ.now)) (cns_G F G u m) (5 + 21 * b) (rx R (5 + 21 * b + 17) (Γ b).sc) (rx R (5 + 21 * b + 1 + 1) (Γ b).fl) (Γ b).fl (nI θ.now) (Γ b).hi u m θ.ln := ⟨_, rfl⟩
      obtain ⟨Γ2, hG2⟩ : ∃ Γ2, Γ2 = upG Γ b (((Γ b).add θ.now (Γ b).st m u m (plu (Γ b).pl u m (Γ b).hi)).sf (shn F (5 + 21 * b) (Γ b).fl)) := ⟨_, rfl⟩
      rw [← hF2] at z11 ⊢
      rw [← hG2] at z11
      have hsame : ∀ q, (Γ2 q).st = (Γ q).st := by
        intro q
        rw [hG2]
        by_cases e : q = b
        · subst e
          rw [upG_eq]
          rfl
        · rw [upG_ne e]
      have hw : wnt F2 = wnt F := wnt_congr (fun q hq => by rw [(z11.px q hq).f5, (h.px q hq).f5, hsame q])
      have hsc : scS Γ2 = scS Γ + 1 := by
        have e1 : (Γ2 b).sc = (Γ b).sc + 1 := by rw [hG2, upG_eq]; rfl
        have e2 : ∀ q, ¬ q = b → (Γ2 q).sc = (Γ q).sc := fun q hq => by rw [hG2, upG_ne hq]
        unfold scS
        have : b = 0 ∨ b = 1 ∨ b = 2 ∨ b = 3 := by omega
        rcases this with e | e | e | e <;> subst e
        · have := e2 1 (by omega); have := e2 2 (by omega); have := e2 3 (by omega); omega
        · have := e2 0 (by omega); have := e2 2 (by omega); have := e2 3 (by omega); omega
        · have := e2 0 (by omega); have := e2 1 (by omega); have := e2 3 (by omega); omega
        · have := e2 0 (by omega); have := e2 1 (by omega); have := e2 2 (by omega); omega
      show pw pP mHostA_sendAll (47, [some (.inr (some 89)), some (.inl (nI θ.now)), some (.inl (wnt F)), some (.inl (nI t)), some (.inr (some (5 + 21 * b)))], [], 0, 0, hb (sL L) F2 (cns_G F G u m) R sO) Q
      refine cs_n ?_
      rw [← hw]
      refine ih (θ, Γ2, F2, cns_G F G u m, R) (t + 1) _ Q (by show scS Γ2 + r = 12; omega) (by show t + 1 ≤ scS Γ2; omega) ⟨_, _, z11⟩ hnw hn0 (fun C3 q1 q2 q3 ⟨t2, q4⟩ => ?_)
      refine K C3 q1 q2 (frC_trans ⟨fun i k a => ?_, fun i a => ?_⟩ q3) ⟨t2, fun mm j ar L f g Rt Q hC k => ?_⟩
      · show F2 i k = F i k
        rw [hF2, ctr1_frx (by omega) (by omega) (by omega) (fun q => by have := hpf q; omega), csf_ne (by omega), cns_F_fr (by omega) (by omega) (by omega)]
      · exact cns_G_fr (by omega)
      · have hC : CI θ Γ F G R f g := hC
        refine tp_s (by omega) ?_
        refine CI_sends hC ?_
        rw [choose_same hC, hq]
        obtain ⟨u2, m2, y1, y2, y3, y4, y5, y6, y7, y8, y9, y10, y11⟩ := CI_send hC hb4 hq hnw hn0
        have eu : u2 = u := by rw [y1] at z1; injection z1
        subst eu
        have em : m2 = m := by rw [← y2, ← z2]
        subst em
        rw [← hF2, ← hG2] at y11
        show pw pP mSBModel_pass (113, [some (.inr (some 103)), some (.inl (nI mm)), some (.inl (nI ar)), some (.inl (nI j)), some (.inl (nI 1)), some (.inl (nI t))], [.inl (nI 1)], 0, 0, hb (sL L) (tbegin f g b (lu f g b θ.kn θ.ln) (lm f g b θ.kn θ.ln θ.ed θ.ms) (Γ b).hi (Γ b).fl).1 (tbegin f g b (lu f g b θ.kn θ.ln) (lm f g b θ.kn θ.ln θ.ed θ.ms) (Γ b).hi (Γ b).fl).2 Rt sO) Q
        rw [← y8, ← y9]
        refine tp_s2 ?_
        exact q4 mm j ar L _ _ Rt Q y11 (fun f3 g3 r3 r4 => k f3 g3 r3 (frT_trans ⟨fun i k a => congrFun (tbegin_fr a).1 k, fun i a => (tbegin_fr a).2⟩ r4))
