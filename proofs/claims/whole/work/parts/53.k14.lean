/-! THE COUPLING, fourteenth part: B hears a copy and answers. -/
theorem CI_ans {θ : TG} {Γ : Nat → PG} {F G f g : FN} {R : RN} {p : Nat} (h : CI θ Γ F G R f g) (hp : p < 4) (hst : ¬ ((Γ p).st = 4 ∨ (Γ p).st = 0)) :
    CI θ (upG Γ p ((Γ p).sb (shn F (5 + 21 * p) (Γ p).bl))) (cship F (5 + 21 * p) (5 + 21 * p + 9) (rx R (5 + 21 * p + 9 + 1) (Γ p).bl) (Γ p).bl (nI θ.now) (nI 2) (nI 0) (F (95 + 2 * p) 1) (F 92 5) (F 92 6 + F 92 1)) G R f (tans f g p (Γ p).bl θ.nx θ.bu) := by
  obtain ⟨r1, r2, r3, r4⟩ := CT_rc h.ct
  have n1 := h.ct.nxr
  have n2 := h.ct.bu5
  have e1 := h.ct.e1 p hp
  have e2 := h.ct.e2 p hp
  have ls := lead_spec (fun k => g 105 (402 * p + k)) 402 0
  have lr := h.ct.rcl
  rw [e1, h.ct.b5, h.ct.b6, h.ct.b1, nI_add]
  unfold tans
  rw [tex_eq, ← e2, ← lr]
  exact CI_shipb h hp hst rfl ⟨rfl, .inr ⟨rfl, θ.ex p, θ.rc, θ.nx + θ.bu, rfl, rfl, rfl, by omega, r1, by omega⟩⟩
def dth (θ : TG) (p : Nat) (G : FN) (c b m : Nat) : TG := if G (95 + 2 * p + 1) c = 0 then (if b + m ≤ θ.nx + θ.bu then hthC θ p (chu m b (ctake_G G (95 + 2 * p) c m)) else θ) else θ
theorem CI_atB1 {θ : TG} {Γ : Nat → PG} {F G f g : FN} {R : RN} {p c b m : Nat} (h : CI θ Γ F G R f g) (hp : p < 4) (hst : ¬ ((Γ p).st = 4 ∨ (Γ p).st = 0)) (hm : 0 < m) (hcm : c + m ≤ 402) (hbm : b + m ≤ θ.ln) :
    CI (dth θ p G c b m) (upG Γ p ((Γ p).sb (shn F (5 + 21 * p) (Γ p).bl))) (cship (chd_F F G (95 + 2 * p) c b m θ.nx θ.bu (θ.ex p) θ.rc) (5 + 21 * p) (5 + 21 * p + 9) (rx R (5 + 21 * p + 9 + 1) (Γ p).bl) (Γ p).bl (nI θ.now) (nI 2) (nI 0) (chd_F F G (95 + 2 * p) c b m θ.nx θ.bu (θ.ex p) θ.rc (95 + 2 * p) 1) (chd_F F G (95 + 2 * p) c b m θ.nx θ.bu (θ.ex p) θ.rc 92 5) (chd_F F G (95 + 2 * p) c b m θ.nx θ.bu (θ.ex p) θ.rc 92 6 + chd_F F G (95 + 2 * p) c b m θ.nx θ.bu (θ.ex p) θ.rc 92 1))
      (chd_G G (95 + 2 * p) c b m θ.nx θ.bu) R f (abDG f g p c b m (Γ p).bl θ.nx θ.bu) := by
  have hl := CT_ln h.ct
  have e3 := h.ct.e3 p hp c (by omega)
  by_cases c1 : g 105 (402 * p + c) = 0
  · by_cases c2 : b + m ≤ θ.nx + θ.bu
    · have eF : chd_F F G (95 + 2 * p) c b m θ.nx θ.bu (θ.ex p) θ.rc = up2 (ctake_F F G (95 + 2 * p) c m (θ.ex p)) 92 5 (nI (lead (chu m b (ctake_G G (95 + 2 * p) c m) 94) (401 - θ.rc) θ.rc)) := by
        unfold chd_F
        rw [e3, if_pos c1, if_pos c2]
      have eG : chd_G G (95 + 2 * p) c b m θ.nx θ.bu = chu m b (ctake_G G (95 + 2 * p) c m) := by
        unfold chd_G
        rw [e3, if_pos c1, if_pos c2]
      have eD : abDG f g p c b m (Γ p).bl θ.nx θ.bu = tans f (tdn p c b m 0 g) p (Γ p).bl θ.nx θ.bu := by
        unfold abDG
        rw [if_neg (fun q => q c1), if_neg (by omega)]
      have eT : dth θ p G c b m = hthC θ p (chu m b (ctake_G G (95 + 2 * p) c m)) := by
        unfold dth
        rw [e3, if_pos c1, if_pos c2]
      rw [eF, eG, eD, eT]
      have h3 := CI_ans (CI_hearD h hp hcm hbm) hp hst
      unfold shn at h3 ⊢
      rw [show up2 (ctake_F F G (95 + 2 * p) c m (θ.ex p)) 92 5 (nI (lead (chu m b (ctake_G G (95 + 2 * p) c m) 94) (401 - θ.rc) θ.rc)) (5 + 21 * p) 6 = F (5 + 21 * p) 6 from by unfold ctake_F; (repeat (first | rw [up2_eq] | rw [up2_ne (by omega)]))] at h3
      exact h3
    · have eF : chd_F F G (95 + 2 * p) c b m θ.nx θ.bu (θ.ex p) θ.rc = F := by
        unfold chd_F
        rw [e3, if_pos c1, if_neg c2]
      have eG : chd_G G (95 + 2 * p) c b m θ.nx θ.bu = G := by
        unfold chd_G
        rw [e3, if_pos c1, if_neg c2]
      have eD : abDG f g p c b m (Γ p).bl θ.nx θ.bu = tans f g p (Γ p).bl θ.nx θ.bu := by
        unfold abDG
        rw [if_neg (fun q => q c1), if_pos (by omega)]
      have eT : dth θ p G c b m = θ := by
        unfold dth
        rw [e3, if_pos c1, if_neg c2]
      rw [eF, eG, eD, eT]
      exact CI_ans h hp hst
  · have eF : chd_F F G (95 + 2 * p) c b m θ.nx θ.bu (θ.ex p) θ.rc = F := by
      unfold chd_F
      rw [e3, if_neg c1]
    have eG : chd_G G (95 + 2 * p) c b m θ.nx θ.bu = G := by
      unfold chd_G
      rw [e3, if_neg c1]
    have eD : abDG f g p c b m (Γ p).bl θ.nx θ.bu = tans f g p (Γ p).bl θ.nx θ.bu := by
      unfold abDG
      rw [if_pos c1]
    have eT : dth θ p G c b m = θ := by
      unfold dth
      rw [e3, if_neg c1]
    rw [eF, eG, eD, eT]
    exact CI_ans h hp hst
theorem CI_atB0a {θ : TG} {Γ : Nat → PG} {F G f g : FN} {R : RN} {p : Nat} {tk : Int32} (h : CI θ Γ F G R f g) (hp : p < 4) (hst : ¬ ((Γ p).st = 4 ∨ (Γ p).st = 0)) (hex : ¬ θ.ex p = 0) :
    CI θ (upG Γ p ((Γ p).sb (shn F (5 + 21 * p) (Γ p).bl))) (cship F (5 + 21 * p) (5 + 21 * p + 9) (rx R (5 + 21 * p + 9 + 1) (Γ p).bl) (Γ p).bl (nI θ.now) (nI 2) (nI 0) (F (95 + 2 * p) 1) (F 92 5) (F 92 6 + F 92 1)) G R (abSF f g p tk) (abSG f g p tk (Γ p).bl θ.nx θ.bu) := by
  have e2 := h.ct.e2 p hp
  have ls := lead_spec (fun k => g 105 (402 * p + k)) 402 0
  have e0 : ¬ g 105 (402 * p) = 0 := by
    have := ls.2.2.1 0 (by omega) (by omega)
    exact this
  unfold abSF abSG
  rw [if_neg e0, if_neg e0]
  exact CI_ans h hp hst
theorem ex_0 {θ : TG} {F G f g : FN} {p : Nat} (h : CT θ F G f g) (hp : p < 4) (hex : θ.ex p = 0) : g 105 (402 * p) = 0 := by
  have e2 := h.e2 p hp
  have ls := lead_spec (fun k => g 105 (402 * p + k)) 402 0
  have := ls.2.2.2 (by omega)
  rw [← e2, hex] at this
  exact this
theorem CI_atB0b {θ : TG} {Γ : Nat → PG} {F G f g : FN} {R : RN} {p : Nat} {tk : Int32} (h : CI θ Γ F G R f g) (hp : p < 4) (hst : ¬ ((Γ p).st = 4 ∨ (Γ p).st = 0)) (hex : θ.ex p = 0) (hok : F 92 7 = 0 ∨ tk = F 92 2) :
    CI (hthC θ p (ctake_G G (95 + 2 * p) 0 1)) (upG Γ p ((Γ p).sb (shn F (5 + 21 * p) (Γ p).bl))) (cship (up2 (up2 F 92 7 (nI 1)) (95 + 2 * p) 1 (nI (lead (ctk (95 + 2 * p) 0 1 0 G (95 + 2 * p + 1)) 402 0))) (5 + 21 * p) (5 + 21 * p + 9) (rx R (5 + 21 * p + 9 + 1) (Γ p).bl) (Γ p).bl (nI θ.now) (nI 2) (nI 0) ((up2 (up2 F 92 7 (nI 1)) (95 + 2 * p) 1 (nI (lead (ctk (95 + 2 * p) 0 1 0 G (95 + 2 * p + 1)) 402 0))) (95 + 2 * p) 1) ((up2 (up2 F 92 7 (nI 1)) (95 + 2 * p) 1 (nI (lead (ctk (95 + 2 * p) 0 1 0 G (95 + 2 * p + 1)) 402 0))) 92 5) ((up2 (up2 F 92 7 (nI 1)) (95 + 2 * p) 1 (nI (lead (ctk (95 + 2 * p) 0 1 0 G (95 + 2 * p + 1)) 402 0))) 92 6 + (up2 (up2 F 92 7 (nI 1)) (95 + 2 * p) 1 (nI (lead (ctk (95 + 2 * p) 0 1 0 G (95 + 2 * p + 1)) 402 0))) 92 1))
      (ctake_G G (95 + 2 * p) 0 1) R (abSF f g p tk) (abSG f g p tk (Γ p).bl θ.nx θ.bu) := by
  have e0 := ex_0 h.ct hp hex
  have c2 : ¬ (¬ f 103 9 = 0 ∧ ¬ tk = f 103 2) := by
    rw [← h.ct.b7, ← h.ct.b2]
    intro q
    rcases hok with w | w
    · exact q.1 w
    · exact q.2 w
  unfold abSF abSG
  rw [if_pos e0, if_neg c2, if_pos e0, if_neg c2]
  have h3 := CI_ans (CI_hearS h hp) hp hst
  unfold shn at h3 ⊢
  rw [show up2 (up2 F 92 7 (nI 1)) (95 + 2 * p) 1 (nI (lead (ctk (95 + 2 * p) 0 1 0 G (95 + 2 * p + 1)) 402 0)) (5 + 21 * p) 6 = F (5 + 21 * p) 6 from by (repeat (first | rw [up2_eq] | rw [up2_ne (by omega)]))] at h3
  exact h3
theorem CI_atB0c {θ : TG} {Γ : Nat → PG} {F G f g : FN} {R : RN} {p : Nat} {tk : Int32} (h : CI θ Γ F G R f g) (hp : p < 4) (hst : ¬ ((Γ p).st = 4 ∨ (Γ p).st = 0)) (hex : θ.ex p = 0) (h7 : ¬ F 92 7 = 0) (h3 : ¬ tk = F 92 2) :
    CI θ (upG Γ p ((Γ p).sb (shn F (5 + 21 * p) (Γ p).bl))) (cship F (5 + 21 * p) (5 + 21 * p + 9) (rx R (5 + 21 * p + 9 + 1) (Γ p).bl) (Γ p).bl (nI θ.now) (nI 3) (nI 0) (nI 0) (nI 0) (nI 0)) G R (abSF f g p tk) (abSG f g p tk (Γ p).bl θ.nx θ.bu) := by
  have e0 := ex_0 h.ct hp hex
  have c2 : ¬ f 103 9 = 0 ∧ ¬ tk = f 103 2 := by
    rw [← h.ct.b7, ← h.ct.b2]
    exact ⟨h7, h3⟩
  unfold abSF abSG
  rw [if_pos e0, if_pos c2, if_pos e0, if_pos c2]
  exact CI_shipb h hp hst rfl ⟨rfl, .inl rfl⟩
/-! a segment more -/
theorem CX_cap {now ln p u m : Nat} {γ : PG} {F : FN} {R : RN} {g : FN} (hx : CX now ln p γ F R g) (h0 : 0 < γ.hi) (hum : u + m ≤ 401) (hpl : ∀ i, i < m → γ.pl (u + i) = 0) : γ.hi + m ≤ 402 := by
  have hpc := hx.pc
  rw [if_neg (by omega)] at hpc
  have hca := cnz_add (hi := γ.hi) hpl h0 401
  have hle := cnz_le (plu γ.pl u m γ.hi) 401
  omega
theorem lm_facts {θ : TG} {Γ : Nat → PG} {F G f g : FN} {R : RN} {p : Nat} (h : CI θ Γ F G R f g) (hp : p < 4) (hst : ¬ (Γ p).st = 4) (ht : tcan θ.kn θ.ln θ.ed (Γ p).lw (Γ p).hi (lu f g p θ.kn θ.ln)) : 0 < lm f g p θ.kn θ.ln θ.ed θ.ms ∧ lm f g p θ.kn θ.ln θ.ed θ.ms ≤ 7 ∧ lu f g p θ.kn θ.ln + lm f g p θ.kn θ.ln θ.ed θ.ms ≤ θ.ln ∧ ∀ i, i < lm f g p θ.kn θ.ln θ.ed θ.ms → (Γ p).pl (lu f g p θ.kn θ.ln + i) = 0 := by
  have m1 := h.ct.ms1
  have m7 := h.ct.ms7
  have hkl := h.ct.kl
  have hu : lu f g p θ.kn θ.ln < θ.ln := by have := ht.1; omega
  have hz := tl1_loose (f := f) (g := g) (p := p) (θ.ln - θ.kn) θ.kn (by omega) hu
  obtain ⟨s1, s2, s3⟩ := tl2_spec (f := f) (g := g) (p := p) (kn := θ.kn) (ln := θ.ln) (ed := θ.ed) (u := lu f g p θ.kn θ.ln) (θ.ms - 1) 1
  have all : ∀ i, i < lm f g p θ.kn θ.ln θ.ed θ.ms → ¬ tloose f g p (lu f g p θ.kn θ.ln + i) θ.kn θ.ln = 0 := by
    intro i hi
    by_cases e : i = 0
    · subst e
      exact hz
    · exact s3 i (by omega) hi
  have s1 : 1 ≤ lm f g p θ.kn θ.ln θ.ed θ.ms := s1
  have s2 : lm f g p θ.kn θ.ln θ.ed θ.ms ≤ 1 + (θ.ms - 1) := s2
  refine ⟨by omega, by omega, ?_, fun i hi => (loose_pl h hp hst (all i hi)).2.2⟩
  have := (loose_pl h hp hst (all (lm f g p θ.kn θ.ln θ.ed θ.ms - 1) (by omega))).2.1
  omega
theorem CI_cap {θ : TG} {Γ : Nat → PG} {F G f g : FN} {R : RN} (h : CI θ Γ F G R f g) : ∀ b, b < 4 → (g 107 b = nI 2 ∨ g 107 b = nI 3) → tcan θ.kn θ.ln θ.ed (lwG Γ b) (hiG Γ b) (lu f g b θ.kn θ.ln) → lu f g b θ.kn θ.ln + lm f g b θ.kn θ.ln θ.ed θ.ms ≤ 401 ∧ 0 < lm f g b θ.kn θ.ln θ.ed θ.ms ∧ hiG Γ b + lm f g b θ.kn θ.ln θ.ed θ.ms ≤ 402 := by
  intro b hb hw ht
  have hx := h.px b hb
  have hl := CT_ln h.ct
  have h4 := hx.st4
  rw [hx.g107, nI_eq (by omega) (by omega), nI_eq (by omega) (by omega)] at hw
  obtain ⟨f1, f2, f3, f4⟩ := lm_facts h hb (by omega) ht
  refine ⟨by omega, f1, ?_⟩
  exact CX_cap hx (by have := hx.s1 (by omega); omega) (by omega) f4
/-- the next segment goes the same way: what the class writes, what the reference writes -/
theorem CI_send {θ : TG} {Γ : Nat → PG} {F G f g : FN} {R : RN} {b : Nat} (h : CI θ Γ F G R f g) (hb : b < 4) (hc : cqn F (wnt F) (scG Γ) (cfG θ Γ F G) 4 0 none = some b) (hn : θ.now < 2 ^ 20) (hn0 : 0 < θ.now) :
    ∃ u m, cfG θ Γ F G b = some u ∧ cnu (fun u => clo F G (scG Γ) (suG Γ) (snG Γ) b u θ.kn θ.ln) u θ.ed (θ.ms - 1) 1 = m ∧ u ≤ 401 ∧ u + m ≤ θ.ln ∧ 0 < m ∧ m ≤ 7 ∧ (Γ b).sc < 3 ∧ u = lu f g b θ.kn θ.ln ∧ m = lm f g b θ.kn θ.ln θ.ed θ.ms ∧ (Γ b).hi + m ≤ 402 ∧
      CI θ (upG Γ b (((Γ b).add θ.now (Γ b).st m u m (plu (Γ b).pl u m (Γ b).hi)).sf (shn F (5 + 21 * b) (Γ b).fl))) (ctr1_F (csf (cns_F F G (5 + 21 * b) (rx R (5 + 21 * b + 17) (Γ b).sc) (Γ b).sc (Γ b).hi u m) (5 + 21 * b) (nI θ.now)) (cns_G F G u m) (5 + 21 * b) (rx R (5 + 21 * b + 17) (Γ b).sc) (rx R (5 + 21 * b + 1 + 1) (Γ b).fl) (Γ b).fl (nI θ.now) (Γ b).hi u m θ.ln) (cns_G F G u m) R
      (tbegin f g b u m (Γ b).hi (Γ b).fl).1 (tbegin f g b u m (Γ b).hi (Γ b).fl).2 := by
  have hx := h.px b hb
  have h4 := hx.st4
  have hl := CT_ln h.ct
  obtain ⟨k1, k2, u, k3⟩ := cqn_st 4 0 none (fun b q => by cases q) (fun _ _ _ => trivial) b hc
  have hst : (Γ b).st = 2 ∨ (Γ b).st = 3 := by
    rw [hx.f5] at k1
    rcases wnt_or F with w | w
    · rw [w, nI_eq (by omega) (by omega)] at k1; exact .inl k1
    · rw [w, nI_eq (by omega) (by omega)] at k1; exact .inr k1
  have e := cfG_eq h hb (by omega)
  rw [k3] at e
  by_cases t : tcan θ.kn θ.ln θ.ed (Γ b).lw (Γ b).hi (lu f g b θ.kn θ.ln)
  · rw [if_pos t] at e
    injection e with e
    obtain ⟨f1, f2, f3, f4⟩ := lm_facts h hb (by omega) t
    have hm : cnu (fun u => clo F G (scG Γ) (suG Γ) (snG Γ) b u θ.kn θ.ln) u θ.ed (θ.ms - 1) 1 = lm f g b θ.kn θ.ln θ.ed θ.ms := by
      rw [cnu_same (f := f) (g := g) (p := b) (fun u => loose_same h hb), e]
      rfl
    have ks : (Γ b).sc < 3 := k2
    have hb2 := CI_begin h hb hst ks f1 f2 f3 f4 hn hn0
    rw [← e] at hb2 f3
    exact ⟨u, _, k3, hm, by omega, f3, f1, f2, ks, e, rfl, hb2⟩
  · rw [if_neg t] at e
    exact absurd e (by simp)
