/-! THE COUPLING, fifth part: write, and what B hears. -/
theorem csw_spec {v : Int32} {ln : Nat} : ∀ (n j : Nat) (G : FN), (∀ u, csw v ln n j G 3 u = if ln + j ≤ u ∧ u < ln + j + n then (v + nI (u - ln)) &&& nI 255 else G 3 u) ∧ ∀ i, ¬ i = 3 → csw v ln n j G i = G i
  | 0, j, G => ⟨fun u => by rw [csw, if_neg (by omega)], fun _ _ => rfl⟩
  | n + 1, j, G => by
    obtain ⟨a, b⟩ := csw_spec (v := v) (ln := ln) n (j + 1) (up2 G 3 (ln + j) ((v + nI j) &&& nI 255))
    refine ⟨fun u => ?_, fun i hi => ?_⟩
    · rw [csw, a u]
      by_cases e : u = ln + j
      · subst e
        rw [if_neg (by omega), up2_eq, if_pos (by omega), show ln + j - ln = j by omega]
      · rw [up2_ne2 e]
        by_cases c : ln + j ≤ u ∧ u < ln + j + (n + 1)
        · rw [if_pos (by omega), if_pos c]
        · rw [if_neg (by omega), if_neg c]
    · rw [csw, b i hi, up2_row hi]
theorem twn_spec {x v : Int32} {xn : Nat} (hx : x = nI xn) (hb : xn < 2 ^ 31) : ∀ (fu j ct : Nat) (X : FN × FN), j ≤ xn → ∃ n, (n = xn - j ∨ n = fu) ∧ n ≤ xn - j ∧ n ≤ fu ∧ (twn x v fu j ct X).1 = j + n ∧ (∀ i k, ¬ (i = 103 ∧ k = 5) → (twn x v fu j ct X).2.1 i k = X.1 i k) ∧ ((twn x v fu j ct X).2.1 103 5 = if n = 0 then X.1 103 5 else nI (ct + n)) ∧ (∀ u, (twn x v fu j ct X).2.2 104 u = if ct ≤ u ∧ u < ct + n then (v + nI (j + (u - ct))) &&& nI 255 else X.2 104 u) ∧ ∀ r, ¬ r = 104 → (twn x v fu j ct X).2.2 r = X.2 r
  | 0, j, ct, X, hj => ⟨0, .inr rfl, Nat.zero_le _, Nat.le_refl _, rfl, fun _ _ _ => rfl, rfl, fun u => by rw [twn, if_neg (by omega)], fun _ _ => rfl⟩
  | fu + 1, j, ct, X, hj => by
    by_cases c : x ≤ nI j
    · have e : twn x v (fu + 1) j ct X = (j, X) := by rw [twn, if_pos c]
      have e2 : xn ≤ j := by rw [hx] at c; exact (nI_leI hb (by omega)).mp c
      rw [e]
      exact ⟨0, .inl (by omega), Nat.zero_le _, Nat.zero_le _, rfl, fun _ _ _ => rfl, rfl, fun u => by rw [if_neg (by omega)], fun _ _ => rfl⟩
    · have e : twn x v (fu + 1) j ct X = twn x v fu (j + 1) (ct + 1) (tw1 v j ct X) := by rw [twn, if_neg c]
      have e2 : ¬ xn ≤ j := fun q => c (by rw [hx]; exact nI_le q (by omega))
      obtain ⟨n, h0, h1, h2, h3, h4, h5, h6, h7⟩ := twn_spec (v := v) hx hb fu (j + 1) (ct + 1) (tw1 v j ct X) (by omega)
      rw [e]
      refine ⟨n + 1, by omega, by omega, by omega, by omega, fun i k a => ?_, ?_, fun u => ?_, fun r a => ?_⟩
      · rw [h4 i k a]; exact up2_ne a
      · rw [h5, if_neg (show ¬ n + 1 = 0 by omega)]
        by_cases z : n = 0
        · rw [if_pos z, z]; exact up2_eq (F := X.1) (i := 103) (k := 5) (x := nI (ct + 1))
        · rw [if_neg z, show ct + 1 + n = ct + (n + 1) by omega]
      · rw [h6 u]
        show (if _ then _ else up2 X.2 104 ct ((v + nI j) &&& nI 255) 104 u) = _
        by_cases e3 : u = ct
        · subst e3
          rw [if_neg (by omega), up2_eq, if_pos (by omega), Nat.sub_self, Nat.add_zero]
        · rw [up2_ne2 e3]
          by_cases c2 : ct ≤ u ∧ u < ct + (n + 1)
          · rw [if_pos (by omega), if_pos c2, show j + 1 + (u - (ct + 1)) = j + (u - ct) by omega]
          · rw [if_neg (by omega), if_neg c2]
      · rw [h7 r a]; exact up2_row a
theorem CI_write {θ : TG} {Γ : Nat → PG} {F G f g : FN} {R : RN} {x v : Int32} (h : CI θ Γ F G R f g) (hen : θ.en = 0) (hx : ¬ x < nI 1) : ∃ ad, (if nI (400 - θ.ln) < x then nI (400 - θ.ln) else x) = nI ad ∧ θ.ln + ad ≤ 400 ∧ (twr f g x v θ.ct).1 = ad ∧ ∃ θ2 : TG, θ2.now = θ.now ∧ CI θ2 Γ (up2 F 2 1 (nI (θ.ln + ad))) (csw v θ.ln ad 0 G) R (twr f g x v θ.ct).2.1 (twr f g x v θ.ct).2.2 := by
  have hc := h.ct
  have h2 := hc.lc
  have h4 := hc.ct4
  have el : θ.ln = θ.ct := by omega
  obtain ⟨xn, hxb, hxn⟩ : ∃ j : Nat, j < 2 ^ 31 ∧ x = nI j := nI_of (fun q => hx (by
    have : (0 : Int32) ≤ nI 1 := by decide
    exact Int32.lt_of_lt_of_le q this))
  have hx1 : 1 ≤ xn := by
    rw [hxn, nI_ltI hxb (by omega)] at hx
    omega
  have et : twr f g x v θ.ct = twn x v (400 - θ.ct) 0 θ.ct (f, g) := by
    unfold twr
    rw [if_neg hx, if_pos (by rw [hc.l3, hen]; rfl)]
  obtain ⟨ad, c0, c1, c2, c3, c4, c5, c6, c7⟩ := twn_spec (v := v) hxn hxb (400 - θ.ct) 0 θ.ct (f, g) (Nat.zero_le _)
  rw [et]
  refine ⟨ad, ?_, by omega, by omega, ?_⟩
  · rw [hxn]
    by_cases q : 400 - θ.ln < xn
    · rw [if_pos (nI_lt q hxb), show ad = 400 - θ.ln by omega]
    · rw [if_neg (fun q2 => q ((nI_ltI (by omega) hxb).mp q2)), show ad = xn by omega]
  · refine ⟨TG.mk θ.now (θ.ct + ad) (θ.ln + ad) 0 θ.kn θ.ed θ.ms θ.bu θ.nx θ.rc (fun u => if θ.ct ≤ u ∧ u < θ.ct + ad then (v + nI (u - θ.ct)).toBitVec.toNat % 2 ^ 8 else θ.tx u) θ.ex, rfl, ?_⟩
    obtain ⟨s1, s2⟩ := csw_spec (v := v) (ln := θ.ln) ad 0 G
    have hF : ∀ i k, ¬ (i = 2 ∧ k = 1) → up2 F 2 1 (nI (θ.ln + ad)) i k = F i k := fun i k a => up2_ne a
    have hf : ∀ k, ¬ k = 5 → (twn x v (400 - θ.ct) 0 θ.ct (f, g)).2.1 103 k = f 103 k := fun k a => c4 _ _ (by omega)
    have hv : ∀ y : Int32, y &&& nI 255 = nI (y.toBitVec.toNat % 2 ^ 8) := fun y => pk_and y 8 (by decide)
    refine CI_top h (fun i k a b => hF _ _ (by omega)) (fun u _ => by rw [s2 _ (by omega)]) (fun r a b c => c7 r (by omega)) rfl (Nat.le_add_right _ _) ?_
    refine CT.mk ?_ ?_ ?_ ?_ ?_ ?_ (Nat.zero_le _) ?_ ?_ ?_ ?_ ?_ ?_ ?_ ?_ ?_ ?_ hc.ed4 ?_ ?_ hc.ms1 hc.ms7 ?_ ?_ ?_ ?_ ?_ hc.bu5 ?_ ?_ ?_ ?_ ?_ ?_ ?_ hc.nxr ?_ ?_ ?_ ?_ ?_
    · rw [hF _ _ (by omega)]; exact hc.n1
    · rw [hf _ (by omega)]; exact hc.n2
    · exact up2_eq
    · rw [hF _ _ (by omega), hc.l2, hen]
    · rw [hf _ (by omega), hc.l3, hen]
    · rw [c5]
      by_cases z : ad = 0
      · rw [if_pos z]
        show f 103 5 = nI (θ.ct + ad)
        rw [hc.l4, z]; rfl
      · rw [if_neg z]
    · show θ.ln + ad = θ.ct + ad + 0
      omega
    · show θ.ct + ad ≤ 400
      omega
    · intro u hu
      rw [c6 u]
      show _ = nI (if θ.ct ≤ u ∧ u < θ.ct + ad then _ else _)
      by_cases q : θ.ct ≤ u ∧ u < θ.ct + ad
      · rw [if_pos q, if_pos q, hv, Nat.zero_add]
      · rw [if_neg q, if_neg q]; exact hc.tx1 u hu
    · intro u hu
      show (if θ.ct ≤ u ∧ u < θ.ct + ad then _ else _) ≤ 255
      by_cases q : θ.ct ≤ u ∧ u < θ.ct + ad
      · rw [if_pos q]
        have := Nat.mod_lt (v + nI (u - θ.ct)).toBitVec.toNat (show 0 < 2 ^ 8 by decide)
        omega
      · rw [if_neg q]; exact hc.tx2 u hu
    · intro u hu
      have hu2 : u < θ.ln + ad := hu
      rw [s1 u]
      show _ = nI (if u = θ.ct + ad then 256 else if θ.ct ≤ u ∧ u < θ.ct + ad then _ else _)
      rw [if_neg (show ¬ u = θ.ct + ad by omega)]
      by_cases q : θ.ct ≤ u ∧ u < θ.ct + ad
      · rw [if_pos q, if_pos (by omega), hv, el]
      · rw [if_neg q, if_neg (by omega), hc.vl u (by omega), if_neg (by omega)]
    · rw [hF _ _ (by omega)]; exact hc.a5
    · rw [hf _ (by omega)]; exact hc.fa5
    · have := hc.kl
      show θ.kn ≤ θ.ln + ad
      omega
    · rw [hF _ _ (by omega)]; exact hc.a6
    · rw [hf _ (by omega)]; exact hc.fa6
    · rw [hF _ _ (by omega)]; exact hc.a2
    · rw [hf _ (by omega)]; exact hc.fa2
    · rw [hF _ _ (by omega), hf _ (by omega)]; exact hc.a7
    · rw [hF _ _ (by omega), hf _ (by omega)]; exact hc.a8
    · rw [s2 _ (by omega), c7 _ (by omega)]; exact hc.a9
    · rw [hF _ _ (by omega)]; exact hc.b1
    · rw [hf _ (by omega)]; exact hc.fb1
    · rw [hF _ _ (by omega), hf _ (by omega)]; exact hc.b2
    · rw [hF _ _ (by omega), hf _ (by omega)]; exact hc.b0
    · rw [hF _ _ (by omega)]; exact hc.b5
    · rw [c7 _ (by omega)]; exact hc.rcl
    · rw [c7 _ (by omega)]
      intro u hu a
      have a2 : θ.ln + ad ≤ u := a
      exact hc.hu u hu (by omega)
    · rw [hF _ _ (by omega)]; exact hc.b6
    · rw [hf _ (by omega)]; exact hc.fb6
    · rw [hF _ _ (by omega), hf _ (by omega)]; exact hc.b7
    · rw [s2 _ (by omega), c7 _ (by omega)]; exact hc.b4
    · intro p hp
      rw [hF _ _ (by omega)]; exact hc.e1 p hp
    · rw [c7 _ (by omega)]; exact hc.e2
    · intro p hp
      rw [s2 _ (by omega), c7 _ (by omega)]; exact hc.e3 p hp
/-! what B hears -/
def hth (θ : TG) (p : Nat) (g2 : FN) : TG := TG.mk θ.now θ.ct θ.ln θ.en θ.kn θ.ed θ.ms θ.bu θ.nx (lead (g2 106) 401 0) θ.tx (fun q => if q = p then lead (fun k => g2 105 (402 * p + k)) 402 0 else θ.ex q)
def hthC (θ : TG) (p : Nat) (G2 : FN) : TG := TG.mk θ.now θ.ct θ.ln θ.en θ.kn θ.ed θ.ms θ.bu θ.nx (lead (G2 94) 401 0) θ.tx (fun q => if q = p then lead (G2 (95 + 2 * p + 1)) 402 0 else θ.ex q)
theorem hth_eq {θ : TG} {p : Nat} {G2 g2 : FN} (h1 : ∀ u, u < 401 → G2 94 u = g2 106 u) (h2 : ∀ k, k < 402 → G2 (95 + 2 * p + 1) k = g2 105 (402 * p + k)) : hth θ p g2 = hthC θ p G2 := by
  unfold hth hthC
  rw [lead_congr h1, lead_congr h2]
theorem CT_hear {θ : TG} {F G f g F2 G2 f2 g2 : FN} {p : Nat} (h : CT θ F G f g) (hp : p < 4) (hF : ∀ i k, ¬ (i = 95 + 2 * p ∧ k = 1) → ¬ (i = 92 ∧ k = 5) → ¬ (i = 92 ∧ k = 7) → F2 i k = F i k) (hf : ∀ k, ¬ k = 9 → f2 103 k = f 103 k) (h7 : F2 92 7 = f2 103 9)
    (hG : ∀ i, ¬ i = 95 + 2 * p + 1 → ¬ i = 94 → G2 i = G i) (hg : ∀ r, ¬ r = 105 → ¬ r = 106 → g2 r = g r) (hg5 : ∀ q, q < 4 → ¬ q = p → ∀ k, k < 402 → g2 105 (402 * q + k) = g 105 (402 * q + k)) (hA : ∀ k, k < 402 → G2 (95 + 2 * p + 1) k = g2 105 (402 * p + k))
    (hE : F2 (95 + 2 * p) 1 = nI (lead (fun k => g2 105 (402 * p + k)) 402 0)) (hU : ∀ u, u < 401 → G2 94 u = g2 106 u) (hR : F2 92 5 = nI (lead (g2 106) 401 0)) (hrc : θ.rc ≤ lead (g2 106) 401 0) (hz : ∀ u, u < 401 → θ.ln ≤ u → g2 106 u = 0) :
    CT (hth θ p g2) F2 G2 f2 g2 := by
  refine CT.mk ?_ ?_ ?_ ?_ ?_ ?_ h.en1 h.lc h.ct4 ?_ h.tx2 ?_ ?_ ?_ h.kl ?_ ?_ h.ed4 ?_ ?_ h.ms1 h.ms7 ?_ ?_ ?_ ?_ ?_ h.bu5 ?_ ?_ hR rfl hz ?_ ?_ ?_ h7 hU ?_ ?_ ?_
  · rw [hF _ _ (by omega) (by omega) (by omega)]; exact h.n1
  · rw [hf _ (by omega)]; exact h.n2
  · rw [hF _ _ (by omega) (by omega) (by omega)]; exact h.l1
  · rw [hF _ _ (by omega) (by omega) (by omega)]; exact h.l2
  · rw [hf _ (by omega)]; exact h.l3
  · rw [hf _ (by omega)]; exact h.l4
  · rw [hg _ (by omega) (by omega)]; exact h.tx1
  · rw [hG _ (by omega) (by omega)]; exact h.vl
  · rw [hF _ _ (by omega) (by omega) (by omega)]; exact h.a5
  · rw [hf _ (by omega)]; exact h.fa5
  · rw [hF _ _ (by omega) (by omega) (by omega)]; exact h.a6
  · rw [hf _ (by omega)]; exact h.fa6
  · rw [hF _ _ (by omega) (by omega) (by omega)]; exact h.a2
  · rw [hf _ (by omega)]; exact h.fa2
  · rw [hF _ _ (by omega) (by omega) (by omega), hf _ (by omega)]; exact h.a7
  · rw [hF _ _ (by omega) (by omega) (by omega), hf _ (by omega)]; exact h.a8
  · rw [hG _ (by omega) (by omega), hg _ (by omega) (by omega)]; exact h.a9
  · rw [hF _ _ (by omega) (by omega) (by omega)]; exact h.b1
  · rw [hf _ (by omega)]; exact h.fb1
  · rw [hF _ _ (by omega) (by omega) (by omega), hf _ (by omega)]; exact h.b2
  · rw [hF _ _ (by omega) (by omega) (by omega), hf _ (by omega)]; exact h.b0
  · rw [hF _ _ (by omega) (by omega) (by omega)]; exact h.b6
  · rw [hf _ (by omega)]; exact h.fb6
  · exact Nat.le_trans h.nxr hrc
  · intro q hq
    by_cases e : q = p
    · subst e
      show _ = nI (if q = q then _ else _)
      rw [if_pos rfl]; exact hE
    · show _ = nI (if q = p then _ else _)
      rw [if_neg e, hF _ _ (by omega) (by omega) (by omega)]; exact h.e1 q hq
  · intro q hq
    by_cases e : q = p
    · subst e
      show (if q = q then _ else _) = _
      rw [if_pos rfl]
    · show (if q = p then _ else _) = _
      rw [if_neg e, h.e2 q hq]
      exact lead_congr (fun k hk => (hg5 q hq e k hk).symm)
  · intro q hq k hk
    by_cases e : q = p
    · subst e; exact hA k hk
    · rw [hG _ (by omega) (by omega), hg5 q hq e k hk]; exact h.e3 q hq k hk
theorem ctk_spec {e a : Nat} : ∀ (n j : Nat) (G : FN), (∀ k, ctk e a n j G (e + 1) k = if j ≤ k ∧ k < j + n then nI 1 else G (e + 1) k) ∧ ∀ i, ¬ i = e + 1 → ctk e a n j G i = G i
  | 0, j, G => ⟨fun u => by rw [ctk, if_neg (by omega)], fun _ _ => rfl⟩
  | n + 1, j, G => by
    obtain ⟨x, y⟩ := ctk_spec (e := e) (a := a) n (j + 1) (up2 G (e + 1) j (nI 1))
    refine ⟨fun u => ?_, fun i hi => ?_⟩
    · rw [ctk, x u]
      by_cases c : u = j
      · subst c
        rw [if_neg (by omega), up2_eq, if_pos (by omega)]
      · rw [up2_ne2 c]
        by_cases c2 : j ≤ u ∧ u < j + (n + 1)
        · rw [if_pos (by omega), if_pos c2]
        · rw [if_neg (by omega), if_neg c2]
    · rw [ctk, y i hi, up2_row hi]
theorem chu_spec : ∀ (n j : Nat) (G : FN), (∀ k, chu n j G 94 k = if j ≤ k ∧ k < j + n then nI 1 else G 94 k) ∧ ∀ i, ¬ i = 94 → chu n j G i = G i
  | 0, j, G => ⟨fun u => by rw [chu, if_neg (by omega)], fun _ _ => rfl⟩
  | n + 1, j, G => by
    obtain ⟨x, y⟩ := chu_spec n (j + 1) (up2 G 94 j (nI 1))
    refine ⟨fun u => ?_, fun i hi => ?_⟩
    · rw [chu, x u]
      by_cases c : u = j
      · subst c
        rw [if_neg (by omega), up2_eq, if_pos (by omega)]
      · rw [up2_ne2 c]
        by_cases c2 : j ≤ u ∧ u < j + (n + 1)
        · rw [if_pos (by omega), if_pos c2]
        · rw [if_neg (by omega), if_neg c2]
    · rw [chu, y i hi, up2_row hi]
theorem tdn_spec {p a b : Nat} : ∀ (n j : Nat) (G : FN), (∀ k, tdn p a b n j G 105 k = if 402 * p + a + j ≤ k ∧ k < 402 * p + a + j + n then nI 1 else G 105 k) ∧ (∀ k, tdn p a b n j G 106 k = if b + j ≤ k ∧ k < b + j + n then nI 1 else G 106 k)
  | 0, j, G => ⟨fun u => by rw [tdn, if_neg (by omega)], fun u => by rw [tdn, if_neg (by omega)]⟩
  | n + 1, j, G => by
    obtain ⟨x, y⟩ := tdn_spec (p := p) (a := a) (b := b) n (j + 1) (up2 (up2 G 105 (402 * p + a + j) (nI 1)) 106 (b + j) (nI 1))
    refine ⟨fun u => ?_, fun u => ?_⟩
    · rw [tdn, x u, up2_ne1 (by omega)]
      by_cases c : u = 402 * p + a + j
      · subst c
        rw [if_neg (by omega), up2_eq, if_pos (by omega)]
      · rw [up2_ne2 c]
        by_cases c2 : 402 * p + a + j ≤ u ∧ u < 402 * p + a + j + (n + 1)
        · rw [if_pos (by omega), if_pos c2]
        · rw [if_neg (by omega), if_neg c2]
    · rw [tdn, y u]
      by_cases c : u = b + j
      · subst c
        rw [if_neg (by omega), up2_eq, if_pos (by omega)]
      · rw [up2_ne2 c, up2_ne1 (by omega)]
        by_cases c2 : b + j ≤ u ∧ u < b + j + (n + 1)
        · rw [if_pos (by omega), if_pos c2]
        · rw [if_neg (by omega), if_neg c2]
theorem CI_hearD {θ : TG} {Γ : Nat → PG} {F G f g : FN} {R : RN} {p c b m : Nat} (h : CI θ Γ F G R f g) (hp : p < 4) (hcm : c + m ≤ 402) (hbm : b + m ≤ θ.ln) : CI (hthC θ p (chu m b (ctake_G G (95 + 2 * p) c m))) Γ (up2 (ctake_F F G (95 + 2 * p) c m (θ.ex p)) 92 5 (nI (lead (chu m b (ctake_G G (95 + 2 * p) c m) 94) (401 - θ.rc) θ.rc))) (chu m b (ctake_G G (95 + 2 * p) c m)) R f (tdn p c b m 0 g) := by
  have hc := h.ct
  obtain ⟨r1, r2, r3, r4⟩ := CT_rc hc
  have hx := hc.e2 p hp
  have hxs := lead_spec (fun k => g 105 (402 * p + k)) 402 0
  rw [← hx] at hxs
  obtain ⟨k1, k2⟩ := ctk_spec (e := 95 + 2 * p) (a := c) m c G
  obtain ⟨u1, u2⟩ := chu_spec m b (ctake_G G (95 + 2 * p) c m)
  obtain ⟨t1, t2⟩ := tdn_spec (p := p) (a := c) (b := b) m 0 g
  have tr : ∀ r, ¬ r = 105 → ¬ r = 106 → tdn p c b m 0 g r = g r := fun r x y => tdn_row x y m 0 g
  have hA : ∀ k, k < 402 → ctk (95 + 2 * p) c m c G (95 + 2 * p + 1) k = tdn p c b m 0 g 105 (402 * p + k) := by
    intro k hk
    rw [k1 k, t1, hc.e3 p hp k hk]
    by_cases q : c ≤ k ∧ k < c + m
    · rw [if_pos q, if_pos (by omega)]
    · rw [if_neg q, if_neg (by omega)]
  have hU : ∀ u, u < 401 → chu m b (ctake_G G (95 + 2 * p) c m) 94 u = tdn p c b m 0 g 106 u := by
    intro u hu
    rw [u1 u, t2 u, show ctake_G G (95 + 2 * p) c m 94 = G 94 from k2 94 (by omega), hc.b4 u hu]
    by_cases q : b ≤ u ∧ u < b + m
    · rw [if_pos q, if_pos (by omega)]
    · rw [if_neg q, if_neg (by omega)]
  have hne : ∀ u, u < θ.rc → ¬ tdn p c b m 0 g 106 u = 0 := by
    intro u hu
    rw [t2 u]
    split
    · decide
    · exact r3 u hu
  have hrc : lead (tdn p c b m 0 g 106) 401 0 = lead (chu m b (ctake_G G (95 + 2 * p) c m) 94) (401 - θ.rc) θ.rc := by
    rw [← lead_congr hU]
    exact lead_from (by omega) (fun k hk => by rw [hU k (by omega)]; exact hne k hk)
  have hex : lead (fun k => tdn p c b m 0 g 105 (402 * p + k)) 402 0 = lead (ctk (95 + 2 * p) c m c G (95 + 2 * p + 1)) (402 - θ.ex p) (θ.ex p) := by
    rw [← lead_congr hA]
    refine lead_from (by omega) (fun k hk => ?_)
    rw [hA k (by omega), t1]
    split
    · decide
    · exact hxs.2.2.1 k (Nat.zero_le _) hk
  rw [← hth_eq (g2 := tdn p c b m 0 g) hU (fun k hk => by rw [u2 _ (by omega)]; exact hA k hk)]
  refine CI_top h (fun i k x y => ?_) (fun u _ => ?_) (fun r x y z => tr r (by omega) (by omega)) rfl (Nat.le_refl _) (CT_hear hc hp (fun i k x y z => ?_) (fun _ _ => rfl) ?_ (fun i x y => ?_) tr (fun q hq e k hk => ?_) (fun k hk => ?_) ?_ hU ?_ ?_ (fun u hu x => ?_))
  · rw [up2_ne (by omega)]; exact up2_ne (by omega)
  · rw [u2 _ (by omega)]; exact congrFun (k2 90 (by omega)) u
  · rw [up2_ne (by omega)]; exact up2_ne (by omega)
  · rw [up2_ne (by omega)]
    show up2 _ _ _ _ _ _ = _
    rw [up2_ne (by omega)]; exact hc.b7
  · rw [u2 _ y]; exact k2 i x
  · rw [t1, if_neg (by omega)]
  · rw [u2 _ (by omega)]; exact hA k hk
  · rw [up2_ne (by omega), hex]; exact up2_eq
  · rw [hrc]; exact up2_eq
  · rw [hrc]; exact (lead_spec _ _ _).1
  · rw [t2, if_neg (by omega)]; exact hc.hu u hu x
theorem CI_hearS {θ : TG} {Γ : Nat → PG} {F G f g : FN} {R : RN} {p : Nat} (h : CI θ Γ F G R f g) (hp : p < 4) : CI (hthC θ p (ctake_G G (95 + 2 * p) 0 1)) Γ (up2 (up2 F 92 7 (nI 1)) (95 + 2 * p) 1 (nI (lead (ctk (95 + 2 * p) 0 1 0 G (95 + 2 * p + 1)) 402 0))) (ctake_G G (95 + 2 * p) 0 1) R (up2 f 103 9 (nI 1)) (up2 g 105 (402 * p) (nI 1)) := by
  have hc := h.ct
  obtain ⟨k1, k2⟩ := ctk_spec (e := 95 + 2 * p) (a := 0) 1 0 G
  have g6 : up2 g 105 (402 * p) (nI 1) 106 = g 106 := up2_row (by omega)
  have hA : ∀ k, k < 402 → ctk (95 + 2 * p) 0 1 0 G (95 + 2 * p + 1) k = up2 g 105 (402 * p) (nI 1) 105 (402 * p + k) := by
    intro k hk
    rw [k1 k, hc.e3 p hp k hk]
    by_cases q : k = 0
    · subst q
      rw [if_pos (by omega), Nat.add_zero, up2_eq]
    · rw [if_neg (by omega), up2_ne2 (by omega)]
  rw [← hth_eq (G2 := ctake_G G (95 + 2 * p) 0 1) (g2 := up2 g 105 (402 * p) (nI 1)) (fun u hu => by rw [g6, show ctake_G G (95 + 2 * p) 0 1 94 = G 94 from k2 94 (by omega)]; exact hc.b4 u hu) hA]
  refine CI_top h (fun i k x y => ?_) (fun u _ => ?_) (fun r x y z => up2_row (by omega)) rfl (Nat.le_refl _) (CT_hear hc hp (fun i k x y z => ?_) (fun k x => up2_ne2 x) ?_ (fun i x y => ?_) (fun r x y => up2_row x) (fun q hq e k hk => ?_) hA ?_ (fun u hu => ?_) ?_ ?_ (fun u hu x => ?_))
  · rw [up2_ne (by omega), up2_ne (by omega)]
  · exact congrFun (k2 90 (by omega)) u
  · rw [up2_ne (by omega), up2_ne (by omega)]
  · rw [up2_ne (by omega), up2_eq, up2_eq]
  · exact k2 i x
  · rw [up2_ne2 (by omega)]
  · rw [up2_eq, lead_congr hA]
  · rw [g6, show ctake_G G (95 + 2 * p) 0 1 94 = G 94 from k2 94 (by omega)]; exact hc.b4 u hu
  · rw [up2_ne (by omega), up2_ne (by omega), g6, ← hc.rcl]; exact hc.b5
  · rw [g6, ← hc.rcl]; exact Nat.le_refl _
  · rw [g6]; exact hc.hu u hu x
