/-! THE CALLS IN PAIRS: the class's call, then the reference's with the same arguments: the same answer, and the memory coupled again. Rows written by wip/whole/gen/k21.py. -/
def pr (mc : Nat) (ac : List PV) (mt : Nat) (tc : List PV) (θ : TG) (F G : FN) (R : RN) : Prop := ∀ (L : Nat) (Q : Option PV → PH → Prop), (∀ (r : Int32) (F1 G1 : FN) (R1 : RN), frC F F1 G G1 → (∀ Q2 : Option PV → PH → Prop, (∀ (θ2 : TG) (Γ2 : Nat → PG) (F2 G2 : FN), CI θ2 Γ2 F2 G2 R1 F2 G2 → θ2.now ≤ θ.now + 60 → Q2 (some (.inl r)) (hb (sL L) F2 G2 R1 sO)) → pz pP mt tc (hb (sL L) F1 G1 R1 sO) Q2) → Q (some (.inl r)) (hb (sL L) F1 G1 R1 sO)) → pz pP mc ac (hb (sL L) F G R sO) Q
/-- neither writes -/
theorem pr_get {mc mt : Nat} {ac tc : List PV} {θ : TG} {Γ : Nat → PG} {F G : FN} {R : RN} {r r2 : Int32} (h : CI θ Γ F G R F G) (hc : ∀ (L : Nat) (Q : Option PV → PH → Prop), Q (some (.inl r)) (hb (sL L) F G R sO) → pz pP mc ac (hb (sL L) F G R sO) Q) (ht : ∀ (L : Nat) (Q : Option PV → PH → Prop), Q (some (.inl r2)) (hb (sL L) F G R sO) → pz pP mt tc (hb (sL L) F G R sO) Q) (e : r = r2) : pr mc ac mt tc θ F G R := by
  subst e
  exact fun L Q K => hc L Q (K r F G R frC_id (fun Q2 k2 => ht L Q2 (k2 θ Γ F G h (by omega))))
/-- both write -/
theorem pr_op {mc mt : Nat} {ac tc : List PV} {θ θ2 : TG} {Γ2 : Nat → PG} {F G F1 G1 f2 g2 : FN} {R R1 : RN} {r r2 : Int32} (hfr : frC F F1 G G1) (hc : ∀ (L : Nat) (Q : Option PV → PH → Prop), Q (some (.inl r)) (hb (sL L) F1 G1 R1 sO) → pz pP mc ac (hb (sL L) F G R sO) Q) (ht : ∀ (L : Nat) (Q : Option PV → PH → Prop), Q (some (.inl r2)) (hb (sL L) f2 g2 R1 sO) → pz pP mt tc (hb (sL L) F1 G1 R1 sO) Q) (e : r = r2) (hft : frT F1 f2 G1 g2) (h2 : CI θ2 Γ2 F1 G1 R1 f2 g2) (hn : θ2.now ≤ θ.now + 60) : pr mc ac mt tc θ F G R := by
  subst e
  exact fun L Q K => hc L Q (K r F1 G1 R1 hfr (fun Q2 k2 => ht L Q2 (k2 θ2 Γ2 f2 g2 (CI_c h2 hft) hn)))
theorem p_cases (x : Int32) : (x < 0 ∨ nI 4 ≤ x) ∨ ∃ p, p < 4 ∧ x = nI p := by
  rcases pk_ix x (n := 4) (by decide) with h | h | h
  · exact .inl (.inl h)
  · exact .inl (.inr h)
  · exact .inr h
theorem pr_state {θ : TG} {Γ : Nat → PG} {F G : FN} {R : RN} {x : Int32} (h : CI θ Γ F G R F G) : pr mSB_state [.inr (some 1), .inl x] mSBModel_state [.inr (some 103), .inl x] θ F G R := by
  rcases p_cases x with hx | ⟨p, hp, rfl⟩
  · exact pr_get h (fun L Q k => t_bstate_no hx k) (fun L Q k => t_state_no hx k) rfl
  · have hx := h.px p hp
    exact pr_get h (fun L Q k => t_bstate hp (h.rw.r4 p hp) (rw_path h.rw hp) k) (fun L Q k => t_state hp k) (by rw [show bstate_r F p = F (5 + 21 * p) 5 from rfl, show state_r G p = G 107 p from rfl, hx.f5, hx.g107])
theorem pr_timeout {θ : TG} {Γ : Nat → PG} {F G : FN} {R : RN} {x : Int32} (h : CI θ Γ F G R F G) : pr mSB_timeout [.inr (some 1), .inl x] mSBModel_timeout [.inr (some 103), .inl x] θ F G R := by
  rcases p_cases x with hx | ⟨p, hp, rfl⟩
  · exact pr_get h (fun L Q k => t_btimeout_no hx k) (fun L Q k => t_timeout_no hx k) rfl
  · have hx := h.px p hp
    exact pr_get h (fun L Q k => t_btimeout hp (h.rw.r4 p hp) (rw_path h.rw hp) k) (fun L Q k => t_timeout hp k) (by rw [show btimeout_r F p = F (5 + 21 * p) 8 from rfl, show timeout_r G p = G 110 p from rfl, hx.f8, hx.g110])
theorem pr_sent {θ : TG} {Γ : Nat → PG} {F G : FN} {R : RN} {x : Int32} (h : CI θ Γ F G R F G) : pr mSB_sent [.inr (some 1), .inl x] mSBModel_sent [.inr (some 103), .inl x] θ F G R := by
  rcases p_cases x with hx | ⟨p, hp, rfl⟩
  · exact pr_get h (fun L Q k => t_bsent_no hx k) (fun L Q k => t_sent_no hx k) rfl
  · have hx := h.px p hp
    exact pr_get h (fun L Q k => t_bsent hp (h.rw.r4 p hp) (rw_path h.rw hp) k) (fun L Q k => t_sent hp k) (hx.f13)
theorem pr_smooth {θ : TG} {Γ : Nat → PG} {F G : FN} {R : RN} {x : Int32} (h : CI θ Γ F G R F G) : pr mSB_smooth [.inr (some 1), .inl x] mSBModel_smooth [.inr (some 103), .inl x] θ F G R := by
  rcases p_cases x with hx | ⟨p, hp, rfl⟩
  · exact pr_get h (fun L Q k => t_bsmooth_no hx k) (fun L Q k => t_smooth_no hx k) rfl
  · have hx := h.px p hp
    exact pr_get h (fun L Q k => t_bsmooth hp (h.rw.r4 p hp) (rw_path h.rw hp) k) (fun L Q k => t_smooth hp k) (by unfold bsmooth_r smooth_r; rw [hx.f10, hx.f11])
theorem pr_unacked {θ : TG} {Γ : Nat → PG} {F G : FN} {R : RN} {x : Int32} (h : CI θ Γ F G R F G) : pr mSB_unacked [.inr (some 1), .inl x] mSBModel_unacked [.inr (some 103), .inl x] θ F G R := by
  rcases p_cases x with hx | ⟨p, hp, rfl⟩
  · exact pr_get h (fun L Q k => t_bunacked_no hx k) (fun L Q k => t_unacked_no hx k) rfl
  · have hx := h.px p hp
    refine pr_get h (fun L Q k => t_bunacked hp (h.rw.r4 p hp) (rw_path h.rw hp) hx.f3 hx.sc3 (fun j hj => (hx.sg j hj).2.1) k) (fun L Q k => t_unacked hp k) ?_
    have h4 := hx.st4
    unfold unacked_r
    rw [csm_sc hx, hx.g107, hx.g116, hx.g115, pk_sub hx.lh]
    by_cases e : (Γ p).st = 4
    · rw [if_neg (fun q => q e), if_neg (fun q => q (by rw [e]))]
    · rw [if_pos e, if_pos (fun q => e ((nI_eq (by omega) (by omega)).mp q))]
theorem pr_ack {θ : TG} {Γ : Nat → PG} {F G : FN} {R : RN} (h : CI θ Γ F G R F G) : pr mSB_acknowledged [.inr (some 1)] mSBModel_acknowledged [.inr (some 103)] θ F G R := pr_get h (fun L Q k => t_back k) (fun L Q k => t_acknowledged k) (h.ct.a5.trans h.ct.fa5.symm)
theorem pr_recv {θ : TG} {Γ : Nat → PG} {F G : FN} {R : RN} (h : CI θ Γ F G R F G) : pr mSB_received [.inr (some 1)] mSBModel_received [.inr (some 103)] θ F G R := pr_get h (fun L Q k => t_brecv k) (fun L Q k => t_received k) (h.ct.b5.trans (by rw [h.ct.rcl]))
theorem pr_rein {θ : TG} {Γ : Nat → PG} {F G : FN} {R : RN} (h : CI θ Γ F G R F G) : pr mSB_reinjected [.inr (some 1)] mSBModel_reinjected [.inr (some 103)] θ F G R := pr_get h (fun L Q k => t_brein k) (fun L Q k => t_reinjected k) h.ct.a7
theorem pr_token {θ : TG} {Γ : Nat → PG} {F G : FN} {R : RN} (h : CI θ Γ F G R F G) : pr mSB_token [.inr (some 1)] mSBModel_token [.inr (some 103)] θ F G R := pr_get h (fun L Q k => t_btoken k) (fun L Q k => t_token k) h.ct.b0
theorem csw_fr {v : Int32} {ln n j i : Nat} {G : FN} (h : ¬ i = 3) : csw v ln n j G i = G i := (csw_spec n j G).2 i h
theorem pr_write {θ : TG} {Γ : Nat → PG} {F G : FN} {R : RN} {x v : Int32} (h : CI θ Γ F G R F G) : pr mSB_write [.inr (some 1), .inl x, .inl v] mSBModel_write [.inr (some 103), .inl x, .inl v] θ F G R := by
  have hc := h.ct
  have hen := hc.en1
  by_cases e : θ.en = 0
  · by_cases hx : x < nI 1
    · refine pr_get (r2 := nI 0) h (fun L Q k => t_bwrite_z (by rw [hc.l2, e]) hx k) (fun L Q k => t_write hc.l4 hc.ct4 ?_) rfl
      have e2 : twr F G x v θ.ct = (0, (F, G)) := if_pos hx
      rw [e2]
      exact k
    · obtain ⟨ad, a1, a2, a3, θ2, a4, a5⟩ := CI_write (x := x) (v := v) h e hx
      have hfr : frC F (up2 F 2 1 (nI (θ.ln + ad))) G (csw v θ.ln ad 0 G) := ⟨fun i k a => up2_ne (by omega), fun i a => csw_fr (by omega)⟩
      obtain ⟨ad2, b1, b2, b3, θ3, b4, b5⟩ := CI_write (x := x) (v := v) (CI_t h hfr) e hx
      have e3 : ad2 = ad := by
        have : nI ad2 = nI ad := b1.symm.trans a1
        rw [nI_eq (by omega) (by omega)] at this
        exact this
      subst e3
      refine pr_op hfr (fun L Q k => t_bwrite hc.l1 (by rw [hc.l2, e]) hx a1 a2 k) (fun L Q k => t_write (CI_t h hfr).ct.l4 hc.ct4 k) (by rw [b3]) ?_ b5 (by omega)
      have hxn : ∃ xn : Nat, xn < 2 ^ 31 ∧ x = nI xn := by
        refine nI_of (fun q => hx ?_)
        have q2 := Int32.lt_iff_toInt_lt.mp q
        refine Int32.lt_iff_toInt_lt.mpr ?_
        rw [nI_toInt (by decide)]
        have : (0 : Int32).toInt = 0 := rfl
        omega
      obtain ⟨xn, x1, x2⟩ := hxn
      have e4 : F 103 6 = 0 := by rw [hc.l3, e]; exact nI_0
      have e5 : twr (up2 F 2 1 (nI (θ.ln + ad2))) (csw v θ.ln ad2 0 G) x v θ.ct = twn x v (400 - θ.ct) 0 θ.ct (up2 F 2 1 (nI (θ.ln + ad2)), csw v θ.ln ad2 0 G) := by
        unfold twr
        rw [if_neg hx, if_pos (by rw [up2_ne (by omega)]; exact e4)]
      rw [e5]
      obtain ⟨n, n1, n2, n3, n4, n5, n6, n7, n8⟩ := twn_spec (v := v) x2 x1 (400 - θ.ct) 0 θ.ct (up2 F 2 1 (nI (θ.ln + ad2)), csw v θ.ln ad2 0 G) (Nat.zero_le _)
      exact ⟨fun i k a => n5 i k (by omega), fun i a => n8 i (by omega)⟩
  · refine pr_get (r2 := nI 0) h (fun L Q k => t_bwrite_no (by rw [hc.l2]; exact nI_ne0 (by omega) (by omega)) k) (fun L Q k => t_write hc.l4 hc.ct4 ?_) rfl
    have e2 : twr F G x v θ.ct = (0, (F, G)) := by
      unfold twr
      by_cases hx : x < nI 1
      · rw [if_pos hx]
      · rw [if_neg hx, if_neg (by rw [hc.l3]; exact nI_ne0 (by omega) (by omega))]
    rw [e2]
    exact k
theorem pr_finish {θ : TG} {Γ : Nat → PG} {F G : FN} {R : RN} (h : CI θ Γ F G R F G) : pr mSB_finish [.inr (some 1)] mSBModel_finish [.inr (some 103)] θ F G R := by
  have hc := h.ct
  have hl := CT_ln hc
  have hfr : frC F (cend_F F G θ.ln) G (cend_G F G θ.ln) := by
    refine ⟨fun i k a => ?_, fun i a => ?_⟩
    · unfold cend_F
      split
      · rfl
      · split
        · (repeat (first | rw [up2_eq] | rw [up2_ne (by omega)]))
        · rfl
    · unfold cend_G
      split
      · rfl
      · split
        · rw [up2_row (by omega)]
        · rfl
  obtain ⟨θ2, a1, a2⟩ := CI_finish (CI_t h hfr)
  refine pr_op hfr (fun L Q k => t_bfinish hc.l1 hl k) (fun L Q k => t_finish k) (finish_same (CI_t h hfr).ct) ⟨fun i k a => ?_, fun i a => rfl⟩ a2 (by omega)
  unfold finish_F
  (repeat (first | rw [up2_eq] | rw [up2_ne (by omega)]))
theorem pr_read {θ : TG} {Γ : Nat → PG} {F G : FN} {R : RN} (h : CI θ Γ F G R F G) : pr mSB_read [.inr (some 1)] mSBModel_read [.inr (some 103)] θ F G R := by
  have hc := h.ct
  have hl := CT_ln hc
  obtain ⟨r1, r2, r3, r4⟩ := CT_rc hc
  have hn := hc.nxr
  have hfr : frC F (cnext_F F G θ.nx θ.rc θ.ln) G G := by
    refine ⟨fun i k a => ?_, fun i a => rfl⟩
    unfold cnext_F
    split
    · split
      · (repeat (first | rw [up2_eq] | rw [up2_ne (by omega)]))
      · rfl
    · rfl
  have hC := (CI_t h hfr)
  obtain ⟨θ2, a1, a2⟩ := CI_read hC
  refine pr_op hfr (fun L Q k => t_bread hc.b6 (by omega) hc.b5 (by omega) hc.l1 hl k) (fun L Q k => t_read hC.ct.fb6 (by omega) (fun q1 q2 q3 => ?_) k) (read_same hC.ct) ⟨fun i k a => ?_, fun i a => rfl⟩ a2 (by omega)
  · have hlc := hc.lc
    have hen := hc.en1
    have hct := hc.ct4
    have hlt : θ.nx < θ.ln := by
      by_cases w : θ.nx < θ.ln
      · exact w
      · exact absurd (hc.hu θ.nx (by omega) (by omega)) q2
    rw [hC.ct.l3, hC.ct.l4] at q3
    rcases q3 with w | w
    · by_cases e : θ.en = 0
      · omega
      · exact absurd w (nI_ne0 (by omega) (by omega))
    · have : ¬ θ.nx = θ.ct := fun q => w (by rw [q])
      omega
  · unfold read_F
    split
    · rfl
    · split
      · split
        · (repeat (first | rw [up2_eq] | rw [up2_ne (by omega)]))
        · split
          · (repeat (first | rw [up2_eq] | rw [up2_ne (by omega)]))
          · rfl
      · rfl
theorem st_0 {γ : PG} {F : FN} {R : RN} {g : FN} {now ln p : Nat} (hx : CX now ln p γ F R g) : F (5 + 21 * p) 5 = 0 ↔ γ.st = 0 := by
  have := hx.st4
  rw [hx.f5, ← nI_0, nI_eq (by omega) (by omega)]
theorem st_4 {γ : PG} {F : FN} {R : RN} {g : FN} {now ln p : Nat} (hx : CX now ln p γ F R g) : F (5 + 21 * p) 5 = nI 4 ↔ γ.st = 4 := by
  have := hx.st4
  rw [hx.f5, nI_eq (by omega) (by omega)]
theorem st_g {γ : PG} {F : FN} {R : RN} {g : FN} {now ln p : Nat} (hx : CX now ln p γ F R g) : g 107 p = F (5 + 21 * p) 5 := by rw [hx.f5, hx.g107]
theorem pr_close {θ : TG} {Γ : Nat → PG} {F G : FN} {R : RN} {x : Int32} (h : CI θ Γ F G R F G) : pr mSB_close [.inr (some 1), .inl x] mSBModel_close [.inr (some 103), .inl x] θ F G R := by
  rcases p_cases x with hx | ⟨p, hp, rfl⟩
  · exact pr_get h (fun L Q k => t_bclose_no hx k) (fun L Q k => t_close_no hx k) rfl
  · have hx := h.px p hp
    have hg := st_g hx
    by_cases h0 : F (5 + 21 * p) 5 = 0 ∨ F (5 + 21 * p) 5 = nI 4
    · have e1 : close_r G p = nI 0 ∧ close_G G p = G := by
        unfold close_r close_G
        rw [hg]
        rcases h0 with w | w
        · rw [if_pos w, if_pos w]
          exact ⟨rfl, rfl⟩
        · have n0 : ¬ F (5 + 21 * p) 5 = 0 := by rw [w]; decide
          rw [if_neg n0, if_neg n0, if_neg (fun q => q w), if_neg (fun q => q w)]
          exact ⟨rfl, rfl⟩
      exact pr_get h (fun L Q k => t_bclose_n hp (h.rw.r4 p hp) (rw_path h.rw hp) h0 k) (fun L Q k => t_close hp (by rw [e1.1, e1.2]; exact k)) rfl
    · have n0 : ¬ F (5 + 21 * p) 5 = 0 := fun q => h0 (.inl q)
      have n4 : ¬ F (5 + 21 * p) 5 = nI 4 := fun q => h0 (.inr q)
      have hfr : frC F (cshut_F F (5 + 21 * p)) G G := ⟨fun i k a => cshut_fr (by omega), fun i a => rfl⟩
      have e1 : close_r G p = nI 1 ∧ close_G G p = shut_G G p := by
        unfold close_r close_G
        rw [hg, if_neg n0, if_neg n0, if_pos n4, if_pos n4]
        exact ⟨rfl, rfl⟩
      exact pr_op hfr (fun L Q k => t_bclose_y hp (h.rw.r4 p hp) (rw_path h.rw hp) n0 n4 k) (fun L Q k => t_close hp (by rw [e1.1, e1.2]; exact k)) rfl ⟨fun i k a => rfl, fun i a => shut_fr a⟩ (CI_shut (CI_t h hfr) hp (fun q => n0 ((st_0 hx).mpr q))) (by omega)
theorem pr_delay {θ : TG} {Γ : Nat → PG} {F G : FN} {R : RN} {x d : Int32} (h : CI θ Γ F G R F G) : pr mSB_delay [.inr (some 1), .inl x, .inl d] mSBModel_delay [.inr (some 103), .inl x, .inl d] θ F G R := by
  rcases p_cases x with hx | ⟨p, hp, rfl⟩
  · exact pr_get h (fun L Q k => t_bdelay_no hx k) (fun L Q k => t_delay_no hx k) rfl
  · have hx := h.px p hp
    have hg := st_g hx
    by_cases h0 : F (5 + 21 * p) 5 = 0 ∨ F (5 + 21 * p) 5 = nI 4
    · have e1 : delay_r G p d = nI 0 ∧ delay_G G p d = G := by
        unfold delay_r delay_G
        rw [hg]
        by_cases c1 : d < 0
        · rw [if_pos c1, if_pos c1]; exact ⟨rfl, rfl⟩
        · rw [if_neg c1, if_neg c1]
          by_cases c2 : d ≤ nI 40
          · rw [if_pos c2, if_pos c2]
            rcases h0 with w | w
            · rw [if_pos w, if_pos w]
              exact ⟨rfl, rfl⟩
            · have n0 : ¬ F (5 + 21 * p) 5 = 0 := by rw [w]; decide
              rw [if_neg n0, if_neg n0, if_neg (fun q => q w), if_neg (fun q => q w)]
              exact ⟨rfl, rfl⟩
          · rw [if_neg c2, if_neg c2]; exact ⟨rfl, rfl⟩
      exact pr_get h (fun L Q k => t_bdelay_n hp (h.rw.r4 p hp) (rw_path h.rw hp) h0 k) (fun L Q k => t_delay hp (by rw [e1.1, e1.2]; exact k)) rfl
    · have n0 : ¬ F (5 + 21 * p) 5 = 0 := fun q => h0 (.inl q)
      have n4 : ¬ F (5 + 21 * p) 5 = nI 4 := fun q => h0 (.inr q)
      by_cases c1 : d < 0 ∨ ¬ d ≤ nI 40
      · have e1 : delay_r G p d = nI 0 ∧ delay_G G p d = G := by
          unfold delay_r delay_G
          by_cases c2 : d < 0
          · rw [if_pos c2, if_pos c2]; exact ⟨rfl, rfl⟩
          · have c3 : ¬ d ≤ nI 40 := c1.resolve_left c2
            rw [if_neg c2, if_neg c2, if_neg c3, if_neg c3]; exact ⟨rfl, rfl⟩
        exact pr_get h (fun L Q k => t_bdelay_r hp (h.rw.r4 p hp) (rw_path h.rw hp) n0 n4 c1 k) (fun L Q k => t_delay hp (by rw [e1.1, e1.2]; exact k)) rfl
      · have c2 : ¬ d < 0 := fun q => c1 (.inl q)
        have c3 : d ≤ nI 40 := Decidable.of_not_not (fun q => c1 (.inr q))
        have hfr : frC F (up2 F (5 + 21 * p) 6 d) G G := ⟨fun i k a => up2_ne (by omega), fun i a => rfl⟩
        have e1 : delay_r G p d = nI 1 ∧ delay_G G p d = up2 G 108 p d := by
          unfold delay_r delay_G
          rw [hg, if_neg c2, if_neg c2, if_pos c3, if_pos c3, if_neg n0, if_neg n0, if_pos n4, if_pos n4]
          exact ⟨rfl, rfl⟩
        exact pr_op hfr (fun L Q k => t_bdelay_y hp (h.rw.r4 p hp) (rw_path h.rw hp) n0 n4 c2 c3 k) (fun L Q k => t_delay hp (by rw [e1.1, e1.2]; exact k)) rfl ⟨fun i k a => rfl, fun i a => up2_row (by omega)⟩ (CI_delay (CI_t h hfr) hp) (by omega)
theorem k_cases (x : Int32) {n : Nat} (hn : n ≤ 6) : (x < 0 ∨ nI n ≤ x) ∨ ∃ j, j < n ∧ x = nI j := by
  rcases pk_ix x (n := n) (by omega) with h | h | h
  · exact .inl (.inl h)
  · exact .inl (.inr h)
  · exact .inr h
theorem pr_flight0 {θ : TG} {Γ : Nat → PG} {F G : FN} {R : RN} {x : Int32} (h : CI θ Γ F G R F G) : pr mSB_flight [.inr (some 1), .inl x, .inl (nI 0)] mSBModel_flight [.inr (some 103), .inl x, .inl (nI 0)] θ F G R := by
  rcases p_cases x with hx | ⟨p, hp, rfl⟩
  · exact pr_get h (fun L Q k => t_bflight_no0 hx k) (fun L Q k => t_flight_no0 hx k) rfl
  · have hy := (h.py p hp).qf
    exact pr_get h (fun L Q k => t_bflight0 hp (h.rw.r4 p hp) (rw_path h.rw hp) k) (fun L Q k => t_flight0 hp k) (hy.2.1.trans hy.2.2.1.symm)
theorem pr_lose0 {θ : TG} {Γ : Nat → PG} {F G : FN} {R : RN} {x z : Int32} (h : CI θ Γ F G R F G) : pr mSB_lose [.inr (some 1), .inl x, .inl (nI 0), .inl z] mSBModel_lose [.inr (some 103), .inl x, .inl (nI 0), .inl z] θ F G R := by
  rcases p_cases x with hx | ⟨p, hp, rfl⟩
  · exact pr_get h (fun L Q k => t_blose_no0 hx k) (fun L Q k => t_lose_no0 hx k) rfl
  · have hy := h.py p hp
    have hq := hy.qf
    rcases k_cases z hq.1 with hz | ⟨j, hj, rfl⟩
    · exact pr_get h (fun L Q k => t_blose_out0 hp (h.rw.r4 p hp) (rw_path h.rw hp) hq.2.1 hq.1 hz k) (fun L Q k => t_lose_out0 hp hq.2.2.1 hz k) rfl
    · have h6 := hq.1
      obtain ⟨x1, x2, x3⟩ := (h.rw.pf p hp).1 j (by omega)
      have hfr : frC F (tout_F F (5 + 21 * p + 1) (Γ p).fl) G G := ⟨fun i k a => up2_ne1 (by omega), fun i a => rfl⟩
      exact pr_op hfr (fun L Q k => t_blose_in0 hp (h.rw.r4 p hp) (rw_path h.rw hp) hq.2.1 hq.1 hj x1 (sl_copyf hp x2 x3) k) (fun L Q k => t_lose_in0 hp hq.2.2.1 hq.1 hj k) rfl ⟨fun i k a => rfl, fun i a => tdrop_row (by omega)⟩ (CI_dropf (CI_t h hfr) hp hj) (by omega)
theorem pr_word0 {θ : TG} {Γ : Nat → PG} {F G : FN} {R : RN} {x z w : Int32} (h : CI θ Γ F G R F G) : pr mSB_word [.inr (some 1), .inl x, .inl (nI 0), .inl z, .inl w] mSBModel_word [.inr (some 103), .inl x, .inl (nI 0), .inl z, .inl w] θ F G R := by
  rcases p_cases x with hx | ⟨p, hp, rfl⟩
  · exact pr_get h (fun L Q k => t_bword_no0 hx k) (fun L Q k => t_word_no0 hx k) rfl
  have hy := h.py p hp
  have hq := hy.qf
  have hc := h.ct
  have hl := CT_ln hc
  have hlc := hc.lc
  have hen := hc.en1
  have hct := hc.ct4
  rcases k_cases z hq.1 with hz | ⟨j, hj, rfl⟩
  · exact pr_get h (fun L Q k => t_bword_out0 hp (h.rw.r4 p hp) (rw_path h.rw hp) hq.2.1 hq.1 hz k) (fun L Q k => t_word_out0 hp hq.2.2.1 hz k) rfl
  · have h6 := hq.1
    obtain ⟨x1, x2, x3⟩ := (h.rw.pf p hp).1 j (by omega)
    obtain ⟨c0, c1, c2, c3, c4, c5⟩ := hq.2.2.2 j hj
    obtain ⟨kd, m, t, i1, i2, i3, i4, i5, i6⟩ : ∃ kd m t : Nat, kd ≤ 3 ∧ m ≤ 7 ∧ G 125 (6 * (2 * p) + j) = nI kd ∧ G 129 (6 * (2 * p) + j) = nI m ∧ (0 < m → G 127 (6 * (2 * p) + j) = nI t) ∧ (0 < m → t + m ≤ θ.ln) := by
      rcases hy.cf j hj with ⟨w1, w2⟩ | ⟨w1, a, b, m, w2, w3, w4, w5, w6, w7, w8, w9⟩
      · exact ⟨0, 0, 0, by omega, by omega, w1, w2, fun q => by omega, fun q => by omega⟩
      · exact ⟨1, m, b, by omega, w6, w1, w4, fun _ => w3, fun _ => w9⟩
    refine pr_get h (fun L Q k => t_bword_in0 (kd := kd) (m := m) (t := t) (ct := θ.ct) (tx := θ.tx) hp (h.rw.r4 p hp) (rw_path h.rw hp) hq.2.1 hq.1 hj x1 (sl_copyf hp x2 x3) (c1.trans i4) i2 hc.l1 hl hc.vl (fun u hu => ?_) (c0.trans i3) i1 (fun a => c3.trans (i5 a)) i6 k) (fun L Q k => t_word_in0 (kd := kd) (m := m) (t := t) (ct := θ.ct) (tx := θ.tx) hp hq.2.2.1 hq.1 hj i3 i1 i4 i2 i5 hc.l4 hct (fun a => by have := i6 a; omega) hc.tx1 hc.tx2 k) ?_
    · split
      · omega
      · have := hc.tx2 u (by omega)
        omega
    · unfold bword_r word_in0_r tchk
      rw [c2, c3, c4, show bsum F (rx R (5 + 21 * p + 1 + 1) j) (kd * 16384 + p * 4096 + m) = tsum G (kd * 16384 + p * 4096 + m) (6 * (2 * p) + j) from by
        unfold bsum tsum
        rw [c2, c3, c4]
        omega]
theorem pr_twice0 {θ : TG} {Γ : Nat → PG} {F G : FN} {R : RN} {x z w : Int32} (h : CI θ Γ F G R F G) : pr mSB_twice [.inr (some 1), .inl x, .inl (nI 0), .inl z, .inl w] mSBModel_twice [.inr (some 103), .inl x, .inl (nI 0), .inl z, .inl w] θ F G R := by
  rcases p_cases x with hx | ⟨p, hp, rfl⟩
  · exact pr_get h (fun L Q k => t_btwice_no0 hx k) (fun L Q k => t_twice_no0 hx k) rfl
  have hy := h.py p hp
  have hq := hy.qf
  have h6 := hq.1
  by_cases hd : w < nI 1 ∨ ¬ w ≤ nI 40
  · rcases k_cases z hq.1 with hz | ⟨j, hj, rfl⟩
    · exact pr_get h (fun L Q k => t_btwice_d0 hp (h.rw.r4 p hp) (rw_path h.rw hp) hd k) (fun L Q k => t_twice_out0 hp hq.2.2.1 hz k) rfl
    · have e1 : twice_in0_r F G p (Γ p).fl j w = nI 0 ∧ twice_in0_G F G p (Γ p).fl j w = G := by
        unfold twice_in0_r twice_in0_G
        by_cases c2 : w < nI 1
        · rw [if_pos c2, if_pos c2]; exact ⟨rfl, rfl⟩
        · have c3 : ¬ w ≤ nI 40 := hd.resolve_left c2
          rw [if_neg c2, if_neg c2, if_neg c3, if_neg c3]; exact ⟨rfl, rfl⟩
      exact pr_get h (fun L Q k => t_btwice_d0 hp (h.rw.r4 p hp) (rw_path h.rw hp) hd k) (fun L Q k => t_twice_in0 hp hq.2.2.1 hq.1 hj (by rw [e1.1, e1.2]; exact k)) rfl
  have hd1 : ¬ w < nI 1 := fun q => hd (.inl q)
  have hd2 : w ≤ nI 40 := Decidable.of_not_not (fun q => hd (.inr q))
  rcases k_cases z hq.1 with hz | ⟨j, hj, rfl⟩
  · exact pr_get h (fun L Q k => t_btwice_out0 hp (h.rw.r4 p hp) (rw_path h.rw hp) hq.2.1 hq.1 hz hd1 hd2 k) (fun L Q k => t_twice_out0 hp hq.2.2.1 hz k) rfl
  obtain ⟨x1, x2, x3⟩ := (h.rw.pf p hp).1 j (by omega)
  obtain ⟨c0, c1, c2, c3, c4, c5⟩ := hq.2.2.2 j hj
  by_cases e6 : (Γ p).fl < 6
  · obtain ⟨y1, y2, y3⟩ := (h.rw.pf p hp).1 (Γ p).fl e6
    have hne : ¬ rx R (5 + 21 * p + 1 + 1) j = rx R (5 + 21 * p + 1 + 1) (Γ p).fl := fun q => by
      have := (h.rw.pf p hp).2 _ _ (by omega) (by omega) q
      omega
    have hfr : frC F (cfill_F (append_F F (5 + 21 * p + 1) (rx R (5 + 21 * p + 1 + 1) (Γ p).fl) (Γ p).fl (F 1 5 + w)) (rx R (5 + 21 * p + 1 + 1) (Γ p).fl) (F (rx R (5 + 21 * p + 1 + 1) j) 0) (F (rx R (5 + 21 * p + 1 + 1) j) 1) (F (rx R (5 + 21 * p + 1 + 1) j) 2) (F (rx R (5 + 21 * p + 1 + 1) j) 3) (F (rx R (5 + 21 * p + 1 + 1) j) 4)) G G := by
      refine ⟨fun i k a => ?_, fun i a => rfl⟩
      unfold cfill_F append_F
      (repeat (first | rw [up2_eq] | rw [up2_ne (by omega)]))
    have hC := CI_t h hfr
    have hst : ¬ ((Γ p).st = 4 ∨ (Γ p).st = 0) := fun q => by
      have := hy.s4 q
      omega
    have hC2 := CI_putf (d := F 1 5 + w) (k1 := F (rx R (5 + 21 * p + 1 + 1) j) 0) (k2 := F (rx R (5 + 21 * p + 1 + 1) j) 1) (k3 := F (rx R (5 + 21 * p + 1 + 1) j) 2) (k4 := F (rx R (5 + 21 * p + 1 + 1) j) 3) (k5 := F (rx R (5 + 21 * p + 1 + 1) j) 4) hC hp e6 hst (by rw [c0, c1, c2, c3]; exact hy.cf j hj)
    refine pr_op (r2 := nI 1) hfr (fun L Q k => t_btwice_in0 hp (h.rw.r4 p hp) (rw_path h.rw hp) hq.2.1 e6 hj x1 (sl_copyf hp x2 x3) y1 (sl_copyf hp y2 y3) hne (by omega) hd1 hd2 k) (fun L Q k => t_twice_in0 hp hq.2.2.1 hq.1 hj ?_) rfl ⟨fun i k a => rfl, fun i a => tput_row (by omega)⟩ hC2 (by omega)
    unfold twice_in0_r twice_in0_G
    rw [if_neg hd1, if_neg hd1, if_pos hd2, if_pos hd2, if_pos e6, if_pos e6, ← c0, ← c1, ← c2, ← c3, ← c4, hC.ct.n2, ← h.ct.n1]
    exact k
  · have e7 : (Γ p).fl = 6 := by omega
    have e1 : twice_in0_r F G p (Γ p).fl j w = nI 0 ∧ twice_in0_G F G p (Γ p).fl j w = G := by
      unfold twice_in0_r twice_in0_G
      rw [if_neg hd1, if_neg hd1, if_pos hd2, if_pos hd2, if_neg e6, if_neg e6]; exact ⟨rfl, rfl⟩
    exact pr_get h (fun L Q k => t_btwice_60 hp (h.rw.r4 p hp) (rw_path h.rw hp) (by rw [hq.2.1, e7]) (by omega) x1 (sl_copyf hp x2 x3) hd1 hd2 k) (fun L Q k => t_twice_in0 hp hq.2.2.1 hq.1 hj (by rw [e1.1, e1.2]; exact k)) rfl
theorem pr_flight1 {θ : TG} {Γ : Nat → PG} {F G : FN} {R : RN} {x : Int32} (h : CI θ Γ F G R F G) : pr mSB_flight [.inr (some 1), .inl x, .inl (nI 1)] mSBModel_flight [.inr (some 103), .inl x, .inl (nI 1)] θ F G R := by
  rcases p_cases x with hx | ⟨p, hp, rfl⟩
  · exact pr_get h (fun L Q k => t_bflight_no1 hx k) (fun L Q k => t_flight_no1 hx k) rfl
  · have hy := (h.py p hp).qb
    exact pr_get h (fun L Q k => t_bflight1 hp (h.rw.r4 p hp) (rw_path h.rw hp) k) (fun L Q k => t_flight1 hp k) (hy.2.1.trans hy.2.2.1.symm)
theorem pr_lose1 {θ : TG} {Γ : Nat → PG} {F G : FN} {R : RN} {x z : Int32} (h : CI θ Γ F G R F G) : pr mSB_lose [.inr (some 1), .inl x, .inl (nI 1), .inl z] mSBModel_lose [.inr (some 103), .inl x, .inl (nI 1), .inl z] θ F G R := by
  rcases p_cases x with hx | ⟨p, hp, rfl⟩
  · exact pr_get h (fun L Q k => t_blose_no1 hx k) (fun L Q k => t_lose_no1 hx k) rfl
  · have hy := h.py p hp
    have hq := hy.qb
    rcases k_cases z hq.1 with hz | ⟨j, hj, rfl⟩
    · exact pr_get h (fun L Q k => t_blose_out1 hp (h.rw.r4 p hp) (rw_path h.rw hp) hq.2.1 hq.1 hz k) (fun L Q k => t_lose_out1 hp hq.2.2.1 hz k) rfl
    · have h6 := hq.1
      obtain ⟨x1, x2, x3⟩ := (h.rw.pb p hp).1 j (by omega)
      have hfr : frC F (tout_F F (5 + 21 * p + 9) (Γ p).bl) G G := ⟨fun i k a => up2_ne1 (by omega), fun i a => rfl⟩
      exact pr_op hfr (fun L Q k => t_blose_in1 hp (h.rw.r4 p hp) (rw_path h.rw hp) hq.2.1 hq.1 hj x1 (sl_copyb hp x2 x3) k) (fun L Q k => t_lose_in1 hp hq.2.2.1 hq.1 hj k) rfl ⟨fun i k a => rfl, fun i a => tdrop_row (by omega)⟩ (CI_dropb (CI_t h hfr) hp hj) (by omega)
theorem pr_word1 {θ : TG} {Γ : Nat → PG} {F G : FN} {R : RN} {x z w : Int32} (h : CI θ Γ F G R F G) : pr mSB_word [.inr (some 1), .inl x, .inl (nI 1), .inl z, .inl w] mSBModel_word [.inr (some 103), .inl x, .inl (nI 1), .inl z, .inl w] θ F G R := by
  rcases p_cases x with hx | ⟨p, hp, rfl⟩
  · exact pr_get h (fun L Q k => t_bword_no1 hx k) (fun L Q k => t_word_no1 hx k) rfl
  have hy := h.py p hp
  have hq := hy.qb
  have hc := h.ct
  have hl := CT_ln hc
  have hlc := hc.lc
  have hen := hc.en1
  have hct := hc.ct4
  rcases k_cases z hq.1 with hz | ⟨j, hj, rfl⟩
  · exact pr_get h (fun L Q k => t_bword_out1 hp (h.rw.r4 p hp) (rw_path h.rw hp) hq.2.1 hq.1 hz k) (fun L Q k => t_word_out1 hp hq.2.2.1 hz k) rfl
  · have h6 := hq.1
    obtain ⟨x1, x2, x3⟩ := (h.rw.pb p hp).1 j (by omega)
    obtain ⟨c0, c1, c2, c3, c4, c5⟩ := hq.2.2.2 j hj
    obtain ⟨kd, m, t, i1, i2, i3, i4, i5, i6⟩ : ∃ kd m t : Nat, kd ≤ 3 ∧ m ≤ 7 ∧ G 125 (6 * (2 * p + 1) + j) = nI kd ∧ G 129 (6 * (2 * p + 1) + j) = nI m ∧ (0 < m → G 127 (6 * (2 * p + 1) + j) = nI t) ∧ (0 < m → t + m ≤ θ.ln) := by
      rcases hy.cb j hj with ⟨w1, w2 | ⟨w2, w3⟩⟩
      · exact ⟨3, 0, 0, by omega, by omega, w2, w1, fun q => by omega, fun q => by omega⟩
      · exact ⟨2, 0, 0, by omega, by omega, w2, w1, fun q => by omega, fun q => by omega⟩
    refine pr_get h (fun L Q k => t_bword_in1 (kd := kd) (m := m) (t := t) (ct := θ.ct) (tx := θ.tx) hp (h.rw.r4 p hp) (rw_path h.rw hp) hq.2.1 hq.1 hj x1 (sl_copyb hp x2 x3) (c1.trans i4) i2 hc.l1 hl hc.vl (fun u hu => ?_) (c0.trans i3) i1 (fun a => c3.trans (i5 a)) i6 k) (fun L Q k => t_word_in1 (kd := kd) (m := m) (t := t) (ct := θ.ct) (tx := θ.tx) hp hq.2.2.1 hq.1 hj i3 i1 i4 i2 i5 hc.l4 hct (fun a => by have := i6 a; omega) hc.tx1 hc.tx2 k) ?_
    · split
      · omega
      · have := hc.tx2 u (by omega)
        omega
    · unfold bword_r word_in1_r tchk
      rw [c2, c3, c4, show bsum F (rx R (5 + 21 * p + 9 + 1) j) (kd * 16384 + p * 4096 + m) = tsum G (kd * 16384 + p * 4096 + m) (6 * (2 * p + 1) + j) from by
        unfold bsum tsum
        rw [c2, c3, c4]
        omega]
theorem pr_twice1 {θ : TG} {Γ : Nat → PG} {F G : FN} {R : RN} {x z w : Int32} (h : CI θ Γ F G R F G) : pr mSB_twice [.inr (some 1), .inl x, .inl (nI 1), .inl z, .inl w] mSBModel_twice [.inr (some 103), .inl x, .inl (nI 1), .inl z, .inl w] θ F G R := by
  rcases p_cases x with hx | ⟨p, hp, rfl⟩
  · exact pr_get h (fun L Q k => t_btwice_no1 hx k) (fun L Q k => t_twice_no1 hx k) rfl
  have hy := h.py p hp
  have hq := hy.qb
  have h6 := hq.1
  by_cases hd : w < nI 1 ∨ ¬ w ≤ nI 40
  · rcases k_cases z hq.1 with hz | ⟨j, hj, rfl⟩
    · exact pr_get h (fun L Q k => t_btwice_d1 hp (h.rw.r4 p hp) (rw_path h.rw hp) hd k) (fun L Q k => t_twice_out1 hp hq.2.2.1 hz k) rfl
    · have e1 : twice_in1_r F G p (Γ p).bl j w = nI 0 ∧ twice_in1_G F G p (Γ p).bl j w = G := by
        unfold twice_in1_r twice_in1_G
        by_cases c2 : w < nI 1
        · rw [if_pos c2, if_pos c2]; exact ⟨rfl, rfl⟩
        · have c3 : ¬ w ≤ nI 40 := hd.resolve_left c2
          rw [if_neg c2, if_neg c2, if_neg c3, if_neg c3]; exact ⟨rfl, rfl⟩
      exact pr_get h (fun L Q k => t_btwice_d1 hp (h.rw.r4 p hp) (rw_path h.rw hp) hd k) (fun L Q k => t_twice_in1 hp hq.2.2.1 hq.1 hj (by rw [e1.1, e1.2]; exact k)) rfl
  have hd1 : ¬ w < nI 1 := fun q => hd (.inl q)
  have hd2 : w ≤ nI 40 := Decidable.of_not_not (fun q => hd (.inr q))
  rcases k_cases z hq.1 with hz | ⟨j, hj, rfl⟩
  · exact pr_get h (fun L Q k => t_btwice_out1 hp (h.rw.r4 p hp) (rw_path h.rw hp) hq.2.1 hq.1 hz hd1 hd2 k) (fun L Q k => t_twice_out1 hp hq.2.2.1 hz k) rfl
  obtain ⟨x1, x2, x3⟩ := (h.rw.pb p hp).1 j (by omega)
  obtain ⟨c0, c1, c2, c3, c4, c5⟩ := hq.2.2.2 j hj
  by_cases e6 : (Γ p).bl < 6
  · obtain ⟨y1, y2, y3⟩ := (h.rw.pb p hp).1 (Γ p).bl e6
    have hne : ¬ rx R (5 + 21 * p + 9 + 1) j = rx R (5 + 21 * p + 9 + 1) (Γ p).bl := fun q => by
      have := (h.rw.pb p hp).2 _ _ (by omega) (by omega) q
      omega
    have hfr : frC F (cfill_F (append_F F (5 + 21 * p + 9) (rx R (5 + 21 * p + 9 + 1) (Γ p).bl) (Γ p).bl (F 1 5 + w)) (rx R (5 + 21 * p + 9 + 1) (Γ p).bl) (F (rx R (5 + 21 * p + 9 + 1) j) 0) (F (rx R (5 + 21 * p + 9 + 1) j) 1) (F (rx R (5 + 21 * p + 9 + 1) j) 2) (F (rx R (5 + 21 * p + 9 + 1) j) 3) (F (rx R (5 + 21 * p + 9 + 1) j) 4)) G G := by
      refine ⟨fun i k a => ?_, fun i a => rfl⟩
      unfold cfill_F append_F
      (repeat (first | rw [up2_eq] | rw [up2_ne (by omega)]))
    have hC := CI_t h hfr
    have hst : ¬ ((Γ p).st = 4 ∨ (Γ p).st = 0) := fun q => by
      have := hy.s4 q
      omega
    have hC2 := CI_putb (d := F 1 5 + w) (k1 := F (rx R (5 + 21 * p + 9 + 1) j) 0) (k2 := F (rx R (5 + 21 * p + 9 + 1) j) 1) (k3 := F (rx R (5 + 21 * p + 9 + 1) j) 2) (k4 := F (rx R (5 + 21 * p + 9 + 1) j) 3) (k5 := F (rx R (5 + 21 * p + 9 + 1) j) 4) hC hp e6 hst (by rw [c0, c1, c2, c3, c4]; exact hy.cb j hj)
    refine pr_op (r2 := nI 1) hfr (fun L Q k => t_btwice_in1 hp (h.rw.r4 p hp) (rw_path h.rw hp) hq.2.1 e6 hj x1 (sl_copyb hp x2 x3) y1 (sl_copyb hp y2 y3) hne (by omega) hd1 hd2 k) (fun L Q k => t_twice_in1 hp hq.2.2.1 hq.1 hj ?_) rfl ⟨fun i k a => rfl, fun i a => tput_row (by omega)⟩ hC2 (by omega)
    unfold twice_in1_r twice_in1_G
    rw [if_neg hd1, if_neg hd1, if_pos hd2, if_pos hd2, if_pos e6, if_pos e6, ← c0, ← c1, ← c2, ← c3, ← c4, hC.ct.n2, ← h.ct.n1]
    exact k
  · have e7 : (Γ p).bl = 6 := by omega
    have e1 : twice_in1_r F G p (Γ p).bl j w = nI 0 ∧ twice_in1_G F G p (Γ p).bl j w = G := by
      unfold twice_in1_r twice_in1_G
      rw [if_neg hd1, if_neg hd1, if_pos hd2, if_pos hd2, if_neg e6, if_neg e6]; exact ⟨rfl, rfl⟩
    exact pr_get h (fun L Q k => t_btwice_61 hp (h.rw.r4 p hp) (rw_path h.rw hp) (by rw [hq.2.1, e7]) (by omega) x1 (sl_copyb hp x2 x3) hd1 hd2 k) (fun L Q k => t_twice_in1 hp hq.2.2.1 hq.1 hj (by rw [e1.1, e1.2]; exact k)) rfl
theorem pr_pass {θ : TG} {Γ : Nat → PG} {F G : FN} {R : RN} {x : Int32} (h : CI θ Γ F G R F G) (hnw : θ.now + 60 < 2 ^ 20) : pr mSB_pass [.inr (some 1), .inl x] mSBModel_pass [.inr (some 103), .inl x] θ F G R := by
  by_cases hx : x < 0 ∨ ¬ x ≤ nI 60
  · exact pr_get h (fun L Q k => cp_no hx k) (fun L Q k => tp_no hx k) rfl
  · have h1 : ¬ x < 0 := fun q => hx (.inl q)
    have h2 : x ≤ nI 60 := Decidable.of_not_not (fun q => hx (.inr q))
    obtain ⟨n, hn, rfl⟩ := nI_of h1
    rw [nI_leI hn (by omega)] at h2
    intro L Q K
    refine passB h2 (C := (θ, Γ, F, G, R)) ⟨F, G, h⟩ (show θ.now + n < 2 ^ 20 by omega) (fun C2 ar q1 q2 q3 q4 => ?_)
    have q2 : C2.1.now = θ.now + n := q2
    refine K (nI ar) C2.2.2.1 C2.2.2.2.1 C2.2.2.2.2 q3 (fun Q2 k2 => ?_)
    refine q4 L C2.2.2.1 C2.2.2.2.1 C2.2.2.2.2 Q2 (CI_t h q3) (fun f2 g2 r1 r2 => ?_)
    exact k2 C2.1 C2.2.1 f2 g2 (CI_c r1 r2) (by omega)
theorem tow_iff {F G : FN} : ∀ (n q w : Nat), w ≤ 1 → (tow F G n q w = 0 ↔ w = 0 ∧ (F 103 25 = 0 → ∀ i, q ≤ i → i < q + n → ¬ G 107 i = nI 1))
  | 0, q, w, _ => ⟨fun a => ⟨a, fun _ i b c => by omega⟩, fun a => a.1⟩
  | n + 1, q, w, hw => by
    rw [tow]
    by_cases e : w = 0
    · rw [if_pos e]
      by_cases c : G 107 q = nI 1
      · rw [if_pos c]
        by_cases d : F 103 25 = 0
        · rw [if_pos d, tow_iff n (q + 1) 1 (by omega)]
          exact ⟨fun a => absurd a.1 (by omega), fun a => absurd c (a.2 d q (by omega) (by omega))⟩
        · rw [if_neg d, tow_iff n (q + 1) 0 (by omega)]
          exact ⟨fun a => ⟨e, fun b => absurd b d⟩, fun a => ⟨rfl, fun b => absurd b d⟩⟩
      · rw [if_neg c, tow_iff n (q + 1) 0 (by omega)]
        constructor
        · intro a
          refine ⟨e, fun b i i1 i2 => ?_⟩
          by_cases d : i = q
          · subst d; exact c
          · exact a.2 b i (by omega) (by omega)
        · intro a
          exact ⟨rfl, fun b i i1 i2 => a.2 b i (by omega) (by omega)⟩
    · rw [if_neg e, tow_iff n (q + 1) 1 (by omega)]
      exact ⟨fun a => absurd a.1 (by omega), fun a => absurd a.1 e⟩
theorem cai_iff {F : FN} {w : Int32} : ∀ (n q : Nat), cai F w n q = 0 ↔ ∀ i, q ≤ i → i < q + n → ¬ F (5 + 21 * i) 5 = w
  | 0, q => ⟨fun _ i a b => by omega, fun _ => rfl⟩
  | n + 1, q => by
    rw [cai]
    by_cases c : F (5 + 21 * q) 5 = w
    · rw [if_pos c]
      exact ⟨fun a => absurd a (by omega), fun a => absurd c (a q (by omega) (by omega))⟩
    · rw [if_neg c, cai_iff n (q + 1)]
      constructor
      · intro a i i1 i2
        by_cases d : i = q
        · subst d; exact c
        · exact a i (by omega) (by omega)
      · intro a i i1 i2
        exact a i (by omega) (by omega)
theorem pr_open {θ : TG} {Γ : Nat → PG} {F G : FN} {R : RN} {x d tk : Int32} (h : CI θ Γ F G R F G) (hnw : θ.now < 2 ^ 20) : pr mSB_open [.inr (some 1), .inl x, .inl d, .inl tk] mSBModel_open [.inr (some 103), .inl x, .inl d, .inl tk] θ F G R := by
  rcases p_cases x with hx | ⟨p, hp, rfl⟩
  · exact pr_get h (fun L Q k => t_bopen_no hx k) (fun L Q k => t_open_no hx k) rfl
  have hx := h.px p hp
  have hy := h.py p hp
  have hg := st_g hx
  have h402 := hx.h402
  have hhi : G 107 p = 0 → (Γ p).hi < 402 := fun q => by
    rw [hg, st_0 hx] at q
    have := hx.s0 q
    omega
  have hpa := fun (L q : Nat) (hq : q < 4) => rw_path (L := L) h.rw hq
  have hw : tow F G 4 0 0 = 0 ↔ (¬ F 89 8 = 0 ∨ cai F (nI 1) 4 0 = 0) := by
    rw [tow_iff 4 0 0 (by omega), cai_iff, ← h.ct.a8]
    constructor
    · intro a
      by_cases c : F 89 8 = 0
      · refine .inr (fun i i1 i2 => ?_)
        rw [← st_g (h.px i (by omega))]
        exact a.2 c i i1 i2
      · exact .inl c
    · intro a
      refine ⟨rfl, fun c i i1 i2 => ?_⟩
      rcases a with a | a
      · exact absurd c a
      · rw [st_g (h.px i (by omega))]
        exact a i i1 i2
  by_cases hn : ¬ F (5 + 21 * p) 5 = 0 ∨ d < nI 1 ∨ ¬ d ≤ nI 40 ∨ (F 89 8 = 0 ∧ ¬ cai F (nI 1) 4 0 = 0)
  · have e1 : open_r G p (tow F G 4 0 0) d = nI 0 ∧ open_G F G p (Γ p).hi (Γ p).fl (tow F G 4 0 0) d tk = G := by
      unfold open_r open_G
      by_cases c0 : tow F G 4 0 0 = 0
      · rw [if_neg (show ¬ ¬ tow F G 4 0 0 = 0 from fun q => q c0), if_neg (show ¬ ¬ tow F G 4 0 0 = 0 from fun q => q c0)]
        by_cases c1 : d < nI 1
        · rw [if_pos c1, if_pos c1]; exact ⟨rfl, rfl⟩
        · rw [if_neg c1, if_neg c1]
          by_cases c2 : d ≤ nI 40
          · rw [if_pos c2, if_pos c2]
            have c3 : ¬ G 107 p = 0 := fun q => by
              rw [hg] at q
              rcases hn with w | w | w | w
              · exact w q
              · exact c1 w
              · exact w c2
              · rcases hw.mp c0 with v | v
                · exact v w.1
                · exact w.2 v
            rw [if_neg c3, if_neg c3]; exact ⟨rfl, rfl⟩
          · rw [if_neg c2, if_neg c2]; exact ⟨rfl, rfl⟩
      · rw [if_pos c0, if_pos c0]; exact ⟨rfl, rfl⟩
    exact pr_get h (fun L Q k => t_bopen_n hp h.rw.r4 (hpa L) hn k) (fun L Q k => t_open hp hx.g116 hhi hy.qf.2.2.1 hy.qf.1 (by rw [e1.1, e1.2]; exact k)) rfl
  · have n0 : F (5 + 21 * p) 5 = 0 := Decidable.of_not_not (fun q => hn (.inl q))
    have n1 : ¬ d < nI 1 := fun q => hn (.inr (.inl q))
    have n2 : d ≤ nI 40 := Decidable.of_not_not (fun q => hn (.inr (.inr (.inl q))))
    have n3 : ¬ F 89 8 = 0 ∨ cai F (nI 1) 4 0 = 0 := by
      by_cases c : F 89 8 = 0
      · exact .inr (Decidable.of_not_not (fun q => hn (.inr (.inr (.inr ⟨c, q⟩)))))
      · exact .inl c
    have hst := (st_0 hx).mp n0
    obtain ⟨z1, z2, z3, z4⟩ := CX_st0 hx hst
    obtain ⟨s1, s2, s3⟩ := (h.rw.sg p hp).1 0 (by omega)
    have hpf := fun L => CI_pipef (L := L) h hp
    have hfr : frC F (ctr0_F (csf (csyn (up2 F (5 + 21 * p) 6 d) (5 + 21 * p) (rx R (5 + 21 * p + 17) 0) 0 0 tk) (5 + 21 * p) (nI θ.now)) (5 + 21 * p) (rx R (5 + 21 * p + 17) 0) (rx R (5 + 21 * p + 1 + 1) (Γ p).fl) (Γ p).fl (nI θ.now)) G G := by
      refine ⟨fun i k a => ?_, fun i a => rfl⟩
      rw [ctr0_frx (by omega) (by omega) (by omega) (fun q => by have := hpf 0 q; omega), csf_ne (by omega), csyn_fr (by omega) (by omega)]
      (repeat (first | rw [up2_eq] | rw [up2_ne (by omega)]))
    have hC := CI_t h hfr
    obtain ⟨Γ2, h2⟩ := CI_open (d := d) (tk := tk) hC hp hst hnw
    refine pr_op (r2 := nI 1) hfr (fun L Q k => t_bopen_y hp h.rw.r4 (hpa L) (sl_seg hp s2 s3) ⟨s2, s3⟩ hy.qf.2.1 hy.qf.1 (hpf L) (sc := 0) (hi := 0) (by rw [hx.f3, z2]) (by omega) (by rw [hx.f4, z1]) s1 n0 n1 n2 n3 (by rw [h.ct.n1]; exact k)) (fun L Q k => t_open hp (hC.px p hp).g116 hhi (hC.py p hp).qf.2.2.1 hy.qf.1 ?_) rfl ⟨fun i k a => rfl, fun i a => ?_⟩ h2 (by omega)
    · have w0 : tow (ctr0_F (csf (csyn (up2 F (5 + 21 * p) 6 d) (5 + 21 * p) (rx R (5 + 21 * p + 17) 0) 0 0 tk) (5 + 21 * p) (nI θ.now)) (5 + 21 * p) (rx R (5 + 21 * p + 17) 0) (rx R (5 + 21 * p + 1 + 1) (Γ p).fl) (Γ p).fl (nI θ.now)) G 4 0 0 = 0 := by
        have := hw.mpr n3
        rw [tow_iff 4 0 0 (by omega)] at this ⊢
        rw [hfr.1 103 25 (by omega)]
        exact this
      unfold open_r open_G
      rw [w0, if_neg (show ¬ ¬ (0 : Nat) = 0 from fun q => q rfl), if_neg (show ¬ ¬ (0 : Nat) = 0 from fun q => q rfl), if_neg n1, if_neg n1, if_pos n2, if_pos n2, if_pos (by rw [hg]; exact n0), if_pos (by rw [hg]; exact n0), z1]
      exact k
    · rw [bendS_fr a, up2_row (by omega), tb0_fr a, up2_row (by omega), up2_row (by omega), up2_row (by omega)]
