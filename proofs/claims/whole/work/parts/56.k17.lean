/-! BOTH TOGETHER: a run of the class, and what the reference's run from any coupled memory does. -/
/-- what the class holds: its numbers and its memory -/
abbrev CC : Type := TG × (Nat → PG) × FN × FN × RN
def cI (C : CC) (f g : FN) : Prop := CI C.1 C.2.1 C.2.2.1 C.2.2.2.1 C.2.2.2.2 f g
def okC (C : CC) : Prop := ∃ f g, cI C f g
def frK (C C2 : CC) : Prop := frC C.2.2.1 C2.2.2.1 C.2.2.2.1 C2.2.2.2.1
/-- the reference's method m, from any memory that goes with C, ends with r and a memory that goes with C2 -/
def tpz (m : Nat) (as : List PV) (C C2 : CC) (r : Option PV) : Prop := ∀ (L : Nat) (f g : FN) (Rt : RN) (Q : Option PV → PH → Prop), cI C f g → (∀ f2 g2, cI C2 f2 g2 → frT f f2 g g2 → Q r (hb (sL L) f2 g2 Rt sO)) → pz pP m as (hb (sL L) f g Rt sO) Q
def tpw (m pc : Nat) (ls : List (Option PV)) (C C2 : CC) (r : Option PV) : Prop := ∀ (L : Nat) (f g : FN) (Rt : RN) (Q : Option PV → PH → Prop), cI C f g → (∀ f2 g2, cI C2 f2 g2 → frT f f2 g g2 → Q r (hb (sL L) f2 g2 Rt sO)) → pw pP m (pc, ls, [], 0, 0, hb (sL L) f g Rt sO) Q
def tps (m pc : Nat) (ls : List (Option PV)) (pc2 : Nat) (ls2 : List (Option PV)) (C C2 : CC) : Prop := ∀ (L : Nat) (f g : FN) (Rt : RN) (Q : Option PV → PH → Prop), cI C f g → (∀ f2 g2, cI C2 f2 g2 → frT f f2 g g2 → pw pP m (pc2, ls2, [], 0, 0, hb (sL L) f2 g2 Rt sO) Q) → pw pP m (pc, ls, [], 0, 0, hb (sL L) f g Rt sO) Q
theorem tps_trans {m p1 p2 p3 : Nat} {l1 l2 l3 : List (Option PV)} {C1 C2 C3 : CC} (h1 : tps m p1 l1 p2 l2 C1 C2) (h2 : tps m p2 l2 p3 l3 C2 C3) : tps m p1 l1 p3 l3 C1 C3 := fun L f g Rt Q c k => h1 L f g Rt Q c (fun f2 g2 c2 e2 => h2 L f2 g2 Rt Q c2 (fun f3 g3 c3 e3 => k f3 g3 c3 (frT_trans e2 e3)))
theorem cship_frx {F : FN} {a e x sz i k : Nat} {t k1 k2 k3 k4 k5 : Int32} (h1 : ¬ i = e) (h2 : sz < 6 → ¬ i = x) : cship F a e x sz t k1 k2 k3 k4 k5 i k = F i k := by
  by_cases h6 : sz < 6
  · exact cship_fr h1 (h2 h6)
  · rw [cship_6 (by omega)]
theorem hearB {L p x : Nat} {θ : TG} {Γ : Nat → PG} {F G : FN} {R : RN} (hok : ∃ f g, CI θ Γ F G R f g) (hp : p < 4) (hst : ¬ ((Γ p).st = 4 ∨ (Γ p).st = 0)) (hsx : (sL L)[x]? = some (2, 1, [0, 0, 0, 0, 0, 0], 0)) (hx9 : x < 92) (hc : cpF (Γ p).hi θ.ln (F x 0) (F x 2) (F x 3) (F x 1)) :
    ∃ C2 : CC, okC C2 ∧ C2.1.now = θ.now ∧ frC F C2.2.2.1 G C2.2.2.2.1 ∧ C2.2.2.2.2 = R ∧ (∀ i k, 5 + 21 * p + 1 ≤ i → i ≤ 5 + 21 * p + 8 → C2.2.2.1 i k = F i k) ∧ (C2.2.1 p).fl = (Γ p).fl ∧ (∀ Q : Option PV → PH → Prop, Q none (hb (sL L) C2.2.2.1 C2.2.2.2.1 C2.2.2.2.2 sO) → pz pP mHostB_hear [.inr (some 92), .inr (some x), .inl (nI p), .inr (some (5 + 21 * p)), .inl (nI θ.now)] (hb (sL L) F G R sO) Q) ∧
      tpz mSBModel_atB [.inr (some 103), .inl (nI p), .inl (F x 0), .inl (F x 2), .inl (F x 3), .inl (F x 1)] (θ, Γ, F, G, R) C2 none := by
  obtain ⟨f0, g0, h⟩ := hok
  have hP : pathok L (5 + 21 * p) R := rw_path h.rw hp
  have hA : arrok L (95 + 2 * p) := arrok_p hp
  have hy := h.py p hp
  have hR := h.rw.pb p hp
  have b6 := hy.qb.1
  have hsz := hy.qb.2.1
  have hx2 : (Γ p).bl < 6 → R (5 + 21 * p + 9 + 1) (Γ p).bl = some (rx R (5 + 21 * p + 9 + 1) (Γ p).bl) ∧ (sL L)[rx R (5 + 21 * p + 9 + 1) (Γ p).bl]? = some (2, 1, [0, 0, 0, 0, 0, 0], 0) ∧ 5 + 21 * p + 11 ≤ rx R (5 + 21 * p + 9 + 1) (Γ p).bl ∧ rx R (5 + 21 * p + 9 + 1) (Γ p).bl ≤ 5 + 21 * p + 16 := by
    intro q
    obtain ⟨w1, w2, w3⟩ := hR.1 (Γ p).bl q
    exact ⟨w1, sl_copyb hp w2 w3, by omega, by omega⟩
  have hl := CT_ln h.ct
  obtain ⟨r1, r2, r3, r4⟩ := CT_rc h.ct
  have hnx := h.ct.nxr
  have hbu := h.ct.bu5
  have hxs := lead_spec (fun k => g0 105 (402 * p + k)) 402 0
  have hex4 : θ.ex p ≤ 402 := by rw [h.ct.e2 p hp]; omega
  rcases hc with ⟨hk, hu⟩ | ⟨hk, c, b, m, hc1, hb1, hm1, hm0, hm7, hc0, hch, hbm⟩
  · by_cases he : θ.ex p = 0
    · by_cases hok : F 92 7 = 0 ∨ F x 3 = F 92 2
      · refine ⟨(hthC θ p (ctake_G G (95 + 2 * p) 0 1), upG Γ p ((Γ p).sb (shn F (5 + 21 * p) (Γ p).bl)), _, _, R), ⟨_, _, CI_atB0b h hp hst he hok⟩, rfl, ⟨fun i k a => ?_, fun i a => ?_⟩, rfl, fun i k a b => ?_, by show (upG Γ p _ p).fl = _; rw [upG_eq]; rfl, fun Q k => ?_, fun L f g Rt Q hC k => ?_⟩
        · show cship _ _ _ _ _ _ _ _ _ _ _ i k = _
          rw [cship_frx (by omega) (fun q => by have := hx2 q; omega)]
          (repeat (first | rw [up2_eq] | rw [up2_ne (by omega)]))
        · show ctake_G G (95 + 2 * p) 0 1 i = G i
          exact (ctk_spec _ _ _).2 i (by omega)
        · show cship _ _ _ _ _ _ _ _ _ _ _ i k = _
          rw [cship_frx (by omega) (fun q => by have := hx2 q; omega)]
          (repeat (first | rw [up2_eq] | rw [up2_ne (by omega)]))
        · exact t_chear0b hP hA (by omega) (by omega) hp (h.rw.r93 p hp) hsx hx9 hsz b6 hx2 hk (by rw [h.ct.e1 p hp, he]) hok k
        · rw [hk]
          exact t_atB0 hp (hC.py p hp).qb.2.2.1 b6 hC.ct.fb6 hC.ct.fb1 (k _ _ (CI_atB0b hC hp hst he hok) ⟨fun i k a => abSF_fr a, fun i a => abSG_fr a⟩)
      · have h7 : ¬ F 92 7 = 0 := fun q => hok (.inl q)
        have h3 : ¬ F x 3 = F 92 2 := fun q => hok (.inr q)
        refine ⟨(θ, upG Γ p ((Γ p).sb (shn F (5 + 21 * p) (Γ p).bl)), _, _, R), ⟨_, _, CI_atB0c h hp hst he h7 h3⟩, rfl, ⟨fun i k a => ?_, fun i a => rfl⟩, rfl, fun i k a b => ?_, by show (upG Γ p _ p).fl = _; rw [upG_eq]; rfl, fun Q k => ?_, fun L f g Rt Q hC k => ?_⟩
        · show cship _ _ _ _ _ _ _ _ _ _ _ i k = _
          rw [cship_frx (by omega) (fun q => by have := hx2 q; omega)]
        · show cship _ _ _ _ _ _ _ _ _ _ _ i k = _
          rw [cship_frx (by omega) (fun q => by have := hx2 q; omega)]
        · exact t_chear0c hP hA (by omega) (by omega) hp (h.rw.r93 p hp) hsx hx9 hsz b6 hx2 hk (by rw [h.ct.e1 p hp, he]) h7 h3 k
        · rw [hk]
          exact t_atB0 hp (hC.py p hp).qb.2.2.1 b6 hC.ct.fb6 hC.ct.fb1 (k _ _ (CI_atB0c hC hp hst he h7 h3) ⟨fun i k a => abSF_fr a, fun i a => abSG_fr a⟩)
    · refine ⟨(θ, upG Γ p ((Γ p).sb (shn F (5 + 21 * p) (Γ p).bl)), _, _, R), ⟨_, _, CI_atB0a (tk := F x 3) h hp hst he⟩, rfl, ⟨fun i k a => ?_, fun i a => rfl⟩, rfl, fun i k a b => ?_, by show (upG Γ p _ p).fl = _; rw [upG_eq]; rfl, fun Q k => ?_, fun L f g Rt Q hC k => ?_⟩
      · show cship _ _ _ _ _ _ _ _ _ _ _ i k = _
        rw [cship_frx (by omega) (fun q => by have := hx2 q; omega)]
      · show cship _ _ _ _ _ _ _ _ _ _ _ i k = _
        rw [cship_frx (by omega) (fun q => by have := hx2 q; omega)]
      · exact t_chear0a hP hA (by omega) (by omega) hp (h.rw.r93 p hp) hsx hx9 hsz b6 hx2 hk (h.ct.e1 p hp) hex4 he k
      · rw [hk]
        exact t_atB0 hp (hC.py p hp).qb.2.2.1 b6 hC.ct.fb6 hC.ct.fb1 (k _ _ (CI_atB0a hC hp hst he) ⟨fun i k a => abSF_fr a, fun i a => abSG_fr a⟩)
  · have hh4 := (h.px p hp).h402
    refine ⟨(dth θ p G c b m, upG Γ p ((Γ p).sb (shn F (5 + 21 * p) (Γ p).bl)), _, _, R), ⟨_, _, CI_atB1 h hp hst hm0 (by omega) hbm⟩, ?_, ⟨fun i k a => ?_, fun i a => ?_⟩, rfl, fun i k a b => ?_, by show (upG Γ p _ p).fl = _; rw [upG_eq]; rfl, fun Q k => ?_, fun L f g Rt Q hC k => ?_⟩
    · show (dth θ p G c b m).now = θ.now
      unfold dth
      split
      · split <;> rfl
      · rfl
    · show cship _ _ _ _ _ _ _ _ _ _ _ i k = _
      rw [cship_frx (by omega) (fun q => by have := hx2 q; omega), chd_F_ne (by omega) (by omega)]
    · show chd_G _ _ _ _ _ _ _ i = _
      exact chd_G_fr (by omega) (by omega)
    · show cship _ _ _ _ _ _ _ _ _ _ _ i k = _
      rw [cship_frx (by omega) (fun q => by have := hx2 q; omega), chd_F_ne (by omega) (by omega)]
    · exact t_chear1 hP hA (by omega) (by omega) hp (h.rw.r93 p hp) hsx hx9 hsz b6 hx2 hk hc1 hb1 hm1 (by omega) (by omega) (by omega) h.ct.b6 (by omega) h.ct.b1 (by omega) (h.ct.e1 p hp) hex4 h.ct.b5 (by omega) k
    · rw [hk, hc1, hb1, hm1]
      exact t_atB1 hp (by omega) (by omega) hm0 (hC.py p hp).qb.2.2.1 b6 hC.ct.fb6 (show θ.nx ≤ 401 by omega) hC.ct.fb1 (show θ.bu ≤ 56 by omega) (k _ _ (CI_atB1 hC hp hst hm0 (by omega) hbm) ⟨fun i k a => rfl, fun i a => abDG_fr a⟩)
