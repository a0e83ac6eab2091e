/-! THE COUPLING, eleventh part: an ACK is heard. -/
def mx (a b : Nat) : Nat := if a < b then b else a
theorem mx_le {a b c : Nat} (h1 : a ≤ c) (h2 : b ≤ c) : mx a b ≤ c := by unfold mx; split <;> omega
def ackT (θ : TG) (b c : Nat) : TG := TG.mk θ.now θ.ct θ.ln θ.en (mx θ.kn b) (mx θ.ed c) θ.ms θ.bu θ.nx θ.rc θ.tx θ.ex
theorem mx_c {x y : Int32} {a b : Nat} (h1 : x = nI a) (h2 : y = nI b) (ha : a < 2 ^ 31) (hb : b < 2 ^ 31) : (if x < y then y else x) = nI (mx a b) := by
  subst h1 h2
  unfold mx
  by_cases e : a < b
  · rw [if_pos e, if_pos ((nI_ltI ha hb).mpr e)]
  · rw [if_neg e, if_neg (fun q => e ((nI_ltI ha hb).mp q))]
theorem mx_t {x y : Int32} {a b : Nat} (h1 : x = nI a) (h2 : y = nI b) (ha : a < 2 ^ 31) (hb : b < 2 ^ 31) : (if y ≤ x then x else y) = nI (mx a b) := by
  subst h1 h2
  unfold mx
  by_cases e : a < b
  · rw [if_pos e, if_neg (fun q => by rw [nI_leI hb ha] at q; omega)]
  · rw [if_neg e, if_pos ((nI_leI hb ha).mpr (by omega))]
theorem CT_ack {θ : TG} {F G f g F2 G2 f2 g2 : FN} {b c : Nat} (h : CT θ F G f g) (hb : b ≤ θ.ln) (hc : c ≤ 457) (h1 : ∀ i k, i < 4 ∨ 89 ≤ i → i < 103 → ¬ (i = 89 ∧ (k = 5 ∨ k = 6 ∨ k = 8)) → F2 i k = F i k) (h2 : ∀ i, i < 103 → ¬ i = 90 → G2 i = G i) (h3 : ∀ k, ¬ (k = 22 ∨ k = 23 ∨ k = 25) → f2 103 k = f 103 k) (h4 : ∀ r, (104 ≤ r ∧ r ≤ 106) ∨ r = 123 → g2 r = g r)
    (a5 : F2 89 5 = nI (mx θ.kn b)) (fa5 : f2 103 22 = nI (mx θ.kn b)) (a6 : F2 89 6 = nI (mx θ.ed c)) (fa6 : f2 103 23 = nI (mx θ.ed c)) (a8 : F2 89 8 = f2 103 25) : CT (ackT θ b c) F2 G2 f2 g2 := by
  refine CT.mk ?_ ?_ ?_ ?_ ?_ ?_ h.en1 h.lc h.ct4 ?_ h.tx2 ?_ a5 fa5 (mx_le h.kl hb) a6 fa6 (mx_le h.ed4 hc) ?_ ?_ h.ms1 h.ms7 ?_ a8 ?_ ?_ ?_ h.bu5 ?_ ?_ ?_ ?_ ?_ ?_ ?_ h.nxr ?_ ?_ ?_ ?_ ?_
  · rw [h1 _ _ (by omega) (by omega) (by omega)]; exact h.n1
  · rw [h3 _ (by omega)]; exact h.n2
  · rw [h1 _ _ (by omega) (by omega) (by omega)]; exact h.l1
  · rw [h1 _ _ (by omega) (by omega) (by omega)]; exact h.l2
  · rw [h3 _ (by omega)]; exact h.l3
  · rw [h3 _ (by omega)]; exact h.l4
  · rw [h4 _ (by omega)]; exact h.tx1
  · rw [h2 _ (by omega) (by omega)]; exact h.vl
  · rw [h1 _ _ (by omega) (by omega) (by omega)]; exact h.a2
  · rw [h3 _ (by omega)]; exact h.fa2
  · rw [h1 _ _ (by omega) (by omega) (by omega), h3 _ (by omega)]; exact h.a7
  · rw [h2 _ (by omega) (by omega), h4 _ (by omega)]; exact h.a9
  · rw [h1 _ _ (by omega) (by omega) (by omega)]; exact h.b1
  · rw [h3 _ (by omega)]; exact h.fb1
  · rw [h1 _ _ (by omega) (by omega) (by omega), h3 _ (by omega)]; exact h.b2
  · rw [h1 _ _ (by omega) (by omega) (by omega), h3 _ (by omega)]; exact h.b0
  · rw [h1 _ _ (by omega) (by omega) (by omega)]; exact h.b5
  · rw [h4 _ (by omega)]; exact h.rcl
  · rw [h4 _ (by omega)]; exact h.hu
  · rw [h1 _ _ (by omega) (by omega) (by omega)]; exact h.b6
  · rw [h3 _ (by omega)]; exact h.fb6
  · rw [h1 _ _ (by omega) (by omega) (by omega), h3 _ (by omega)]; exact h.b7
  · rw [h2 _ (by omega) (by omega), h4 _ (by omega)]; exact h.b4
  · intro p hp
    rw [h1 _ _ (by omega) (by omega) (by omega)]; exact h.e1 p hp
  · rw [h4 _ (by omega)]; exact h.e2
  · intro p hp
    rw [h2 _ (by omega) (by omega), h4 _ (by omega)]; exact h.e3 p hp
theorem CI_ack0 {θ : TG} {Γ : Nat → PG} {F G f g : FN} {R : RN} {x b c : Nat} (h : CI θ Γ F G R f g) (hx3 : F x 3 = nI b) (hx4 : F x 4 = nI c) (hb : b ≤ θ.ln) (hc : c ≤ 457) : CI (ackT θ b c) Γ (cak F x) G R (akF f (nI b) (nI c)) g := by
  have hl := CT_ln h.ct
  have hk := h.ct.kl
  have he := h.ct.ed4
  refine CI_top h (fun i k a b => cak_ne (by omega) (by omega)) (fun _ _ => rfl) (fun _ _ _ _ => rfl) rfl (Nat.le_refl _) ?_
  refine CT_ack h.ct hb hc (fun i k a b c => cak_ne (by omega) (by omega)) (fun _ _ _ => rfl) (fun k a => ?_) (fun _ _ => rfl) ?_ ?_ ?_ ?_ ?_
  · unfold akF
    (repeat (first | rw [up2_eq] | rw [up2_ne (by omega)]))
  · unfold cak
    (repeat (first | rw [up2_eq] | rw [up2_ne (by omega)]))
    exact mx_c h.ct.a5 hx3 (by omega) (by omega)
  · unfold akF
    (repeat (first | rw [up2_eq] | rw [up2_ne (by omega)]))
    exact mx_t h.ct.fa5 rfl (by omega) (by omega)
  · unfold cak
    (repeat (first | rw [up2_eq] | rw [up2_ne (by omega)]))
    exact mx_c h.ct.a6 hx4 (by omega) (by omega)
  · unfold akF
    (repeat (first | rw [up2_eq] | rw [up2_ne (by omega)]))
    exact mx_t h.ct.fa6 rfl (by omega) (by omega)
  · rw [cak_ne (by omega) (by omega)]
    unfold akF
    (repeat (first | rw [up2_eq] | rw [up2_ne (by omega)]))
    exact h.ct.a8
theorem cse_spec : ∀ (n j : Nat) (G : FN), (∀ k, cse n j G 90 k = if j ≤ k ∧ k < j + n then nI 1 else G 90 k) ∧ ∀ i, ¬ i = 90 → cse n j G i = G i
  | 0, j, G => ⟨fun k => by rw [cse, if_neg (by omega)], fun _ _ => rfl⟩
  | n + 1, j, G => by
    obtain ⟨h1, h2⟩ := cse_spec n (j + 1) (up2 G 90 j (nI 1))
    refine ⟨fun k => ?_, fun i hi => ?_⟩
    · rw [cse, h1]
      by_cases e : k = j
      · subst e
        rw [if_neg (by omega), up2_eq, if_pos (by omega)]
      · rw [up2_ne2 e]
        by_cases e2 : j + 1 ≤ k ∧ k < j + 1 + n
        · rw [if_pos e2, if_pos (by omega)]
        · rw [if_neg e2, if_neg (by omega)]
    · rw [cse, h2 i hi, up2_row hi]
theorem stG_spec : ∀ (kk : Nat) (su sn : Nat → Nat) (G : FN), (∀ v, stG kk su sn G 90 v = 0 ↔ (G 90 v = 0 ∧ ∀ j, j < kk → ¬ (su j ≤ v ∧ v < su j + sn j))) ∧ ∀ i, ¬ i = 90 → stG kk su sn G i = G i
  | 0, su, sn, G => ⟨fun v => ⟨fun a => ⟨a, fun j hj => by omega⟩, fun a => a.1⟩, fun _ _ => rfl⟩
  | kk + 1, su, sn, G => by
    obtain ⟨h1, h2⟩ := stG_spec kk (fun j => su (j + 1)) (fun j => sn (j + 1)) (cse (sn 0) (su 0) G)
    obtain ⟨c1, c2⟩ := cse_spec (sn 0) (su 0) G
    refine ⟨fun v => ?_, fun i hi => ?_⟩
    · rw [stG, h1, c1]
      have n1 : ¬ nI 1 = 0 := by decide
      constructor
      · intro a
        by_cases e : su 0 ≤ v ∧ v < su 0 + sn 0
        · rw [if_pos e] at a
          exact absurd a.1 n1
        · rw [if_neg e] at a
          refine ⟨a.1, fun j hj => ?_⟩
          cases j with
          | zero => exact e
          | succ j => exact a.2 j (by omega)
      · intro a
        rw [if_neg (a.2 0 (by omega))]
        exact ⟨a.1, fun j hj => a.2 (j + 1) (by omega)⟩
    · rw [stG, h2 i hi, c2 i hi]
def sft (f : Nat → Nat) (kk : Nat) : Nat → Nat := fun j => f (j + kk)
def PG.ack (γ : PG) (now to kk : Nat) : PG := PG.mk 2 to (if γ.sc - kk = 0 then 0 else now + to) (γ.nu (kk - 1) + γ.nm (kk - 1)) γ.hi (γ.sc - kk) γ.fl γ.bl (sft γ.nu kk) (sft γ.nm kk) (sft γ.su kk) (sft γ.sn kk) (sft γ.tr kk) γ.pl
theorem RW_st {R : RN} {p kk sc : Nat} (h : RW R) (hp : p < 4) (h1 : kk ≤ sc) (h2 : sc ≤ 3) : RW (stR (5 + 21 * p) kk sc R) := by
  have hs := (stR_segR (L := 0) kk sc R h1 h2 (h.sg p hp) (rw_path h hp)).1
  refine RW.mk (fun q hq => ?_) (fun q hq => ?_) (fun q hq => ?_) (fun q hq => ?_) (fun q hq => ?_)
  · rw [stR_row (by omega)]; exact h.r4 q hq
  · rw [stR_row (by omega)]; exact h.r93 q hq
  · by_cases e : q = p
    · subst e; exact hs
    · exact segR_congr (h.sg q hq) (stR_row (by omega) _ _ _)
  · exact pipR_congr (h.pf q hq) (stR_row (by omega) _ _ _)
  · exact pipR_congr (h.pb q hq) (stR_row (by omega) _ _ _)
theorem CI_ack {θ : TG} {Γ : Nat → PG} {F G f g : FN} {R : RN} {p x b c kk : Nat} (h : CI θ Γ F G R f g) (hp : p < 4) (hst : ¬ (Γ p).st = 4) (hx3 : F x 3 = nI b) (hx4 : F x 4 = nI c) (hb : b ≤ θ.ln) (hc : c ≤ 457) (hk0 : ¬ kk = 0) (hks : kk ≤ (Γ p).sc) (hn : θ.now < 2 ^ 20) (hn0 : 0 < θ.now) :
    ∃ to, to ≤ 120 ∧ cae (stF (5 + 21 * p) kk (Γ p).sc (cak F x)) (5 + 21 * p) (rx R (5 + 21 * p + 17) (kk - 1)) ((Γ p).sc - kk) (nI θ.now) (5 + 21 * p) 8 = nI to ∧ CI (ackT θ b c) (upG Γ p ((Γ p).ack θ.now to kk)) (cae (stF (5 + 21 * p) kk (Γ p).sc (cak F x)) (5 + 21 * p) (rx R (5 + 21 * p + 17) (kk - 1)) ((Γ p).sc - kk) (nI θ.now)) (stG kk (Γ p).su (Γ p).sn G) (stR (5 + 21 * p) kk (Γ p).sc R) (aeF (akF f (nI b) (nI c))) (aeG (akF f (nI b) (nI c)) g p ((Γ p).nu (kk - 1))) := by
  have hx := h.px p hp
  have hy := h.py p hp
  have hl := CT_ln h.ct
  have hkl := h.ct.kl
  have hed := h.ct.ed4
  have hsc3 := hx.sc3
  have hh4 := hx.h402
  have hlh := hx.lh
  have hnn := fun j hj => CX_hn hx (j := j) hj
  have hpos := fun j hj => (hx.sb j hj).1
  have hkn := hnn (kk - 1) (by omega)
  have hkp := hpos (kk - 1) (by omega)
  have hyb := ((h.rw.sg p hp).1 (kk - 1) (by omega)).2
  obtain ⟨s0, s1, s2, s3, s5⟩ := hx.sg (kk - 1) (by omega)
  obtain ⟨t1, t2⟩ := hx.sh (kk - 1) (by omega)
  have htb := hx.sb (kk - 1) (by omega)
  -- the low number
  have hlw2 : (Γ p).sc - kk = 0 ↔ (Γ p).nu (kk - 1) + (Γ p).nm (kk - 1) = (Γ p).hi := by
    constructor
    · intro e
      exact hx.ch3 (kk - 1) (by omega)
    · intro e
      by_cases e2 : (Γ p).sc - kk = 0
      · exact e2
      · have c2 := hx.ch2 (kk - 1) (by omega)
        have := hnn (kk - 1 + 1) (by omega)
        have := hpos (kk - 1 + 1) (by omega)
        omega
  -- memories
  obtain ⟨Fk, hFk⟩ : ∃ Fk, Fk = stF (5 + 21 * p) kk (Γ p).sc (cak F x) := ⟨_, rfl⟩
  have hFke : ∀ i k, ¬ (i = 5 + 21 * p ∧ k = 3) → ¬ (i = 89 ∧ (k = 5 ∨ k = 6)) → Fk i k = F i k := by
    intro i k a b
    rw [hFk, stF_ne a, cak_ne (by omega) (by omega)]
  have hFk3 : Fk (5 + 21 * p) 3 = nI ((Γ p).sc - kk) := by
    rw [hFk]
    exact stF_3 kk _ _ (by rw [cak_ne (by omega) (by omega)]; exact hx.f3)
  have hFk5 : Fk 89 5 = nI (mx θ.kn b) := by
    rw [hFk, stF_ne (by omega)]
    unfold cak
    (repeat (first | rw [up2_eq] | rw [up2_ne (by omega)]))
    exact mx_c h.ct.a5 hx3 (by omega) (by omega)
  have hFk6 : Fk 89 6 = nI (mx θ.ed c) := by
    rw [hFk, stF_ne (by omega)]
    unfold cak
    (repeat (first | rw [up2_eq] | rw [up2_ne (by omega)]))
    exact mx_c h.ct.a6 hx4 (by omega) (by omega)
  obtain ⟨F1, hF1⟩ : ∃ F1, F1 = (if ¬ Fk (rx R (5 + 21 * p + 17) (kk - 1)) 5 = nI 1 then Fk else cmeas_F Fk (5 + 21 * p) (nI θ.now - Fk (rx R (5 + 21 * p + 17) (kk - 1)) 4)) := ⟨_, rfl⟩
  obtain ⟨g1, hg1⟩ : ∃ g1, g1 = (if ¬ g 121 (402 * p + (Γ p).nu (kk - 1)) = nI 1 then up2 g 115 p (nI ((Γ p).nu (kk - 1) + (Γ p).nm (kk - 1))) else meas_G (up2 g 115 p (nI ((Γ p).nu (kk - 1) + (Γ p).nm (kk - 1)))) p (nI θ.now - g 120 (402 * p + (Γ p).nu (kk - 1)))) := ⟨_, rfl⟩
  have f3 : akF f (nI b) (nI c) 103 3 = nI θ.now := by
    unfold akF
    (repeat (first | rw [up2_eq] | rw [up2_ne (by omega)]))
    exact h.ct.n2
  have hF1e : ∀ i k, ¬ (i = 5 + 21 * p ∧ (k = 8 ∨ k = 10 ∨ k = 11 ∨ k = 12)) → F1 i k = Fk i k := by
    intro i k a
    rw [hF1]
    split
    · rfl
    · exact cmeas_o (by omega)
  have hg1e : ∀ r w, ¬ (w = p ∧ (r = 115 ∨ r = 110 ∨ r = 112 ∨ r = 113 ∨ r = 114)) → g1 r w = g r w := by
    intro r w a
    rw [hg1]
    split
    · (repeat (first | rw [up2_eq] | rw [up2_ne (by omega)]))
    · rw [meas_o (by omega)]
      (repeat (first | rw [up2_eq] | rw [up2_ne (by omega)]))
  have hg15 : g1 115 p = nI ((Γ p).nu (kk - 1) + (Γ p).nm (kk - 1)) := by
    rw [hg1]
    split
    · (repeat (first | rw [up2_eq] | rw [up2_ne (by omega)]))
    · rw [meas_o (by omega)]
      (repeat (first | rw [up2_eq] | rw [up2_ne (by omega)]))
  have hto : ∃ to, 6 ≤ to ∧ to ≤ 120 ∧ F1 (5 + 21 * p) 8 = nI to ∧ g1 110 p = nI to ∧ F1 (5 + 21 * p) 10 = g1 112 p ∧ F1 (5 + 21 * p) 11 = g1 113 p ∧ F1 (5 + 21 * p) 12 = g1 114 p := by
    rw [hF1, hg1, hFke _ 5 (by omega) (by omega), s5, t1]
    by_cases e : nI ((Γ p).tr (kk - 1)) = nI 1
    · rw [if_neg (fun q => q e), if_neg (fun q => q e), hFke _ 4 (by omega) (by omega), hx.s8 (kk - 1) (by omega) ((nI_eq (by omega) (by omega)).mp e)]
      obtain ⟨m1, m2, m3, m4⟩ := cmeas_at (F := Fk) (a := 5 + 21 * p) (x := nI θ.now - g 120 (402 * p + (Γ p).nu (kk - 1)))
      have u2 : up2 g 115 p (nI ((Γ p).nu (kk - 1) + (Γ p).nm (kk - 1))) 112 p = g 112 p := by (repeat (first | rw [up2_eq] | rw [up2_ne (by omega)]))
      have u3 : up2 g 115 p (nI ((Γ p).nu (kk - 1) + (Γ p).nm (kk - 1))) 113 p = g 113 p := by (repeat (first | rw [up2_eq] | rw [up2_ne (by omega)]))
      have u4 : up2 g 115 p (nI ((Γ p).nu (kk - 1) + (Γ p).nm (kk - 1))) 114 p = g 114 p := by (repeat (first | rw [up2_eq] | rw [up2_ne (by omega)]))
      obtain ⟨n, n1, n2, n3⟩ := clamp_nat (msm (g 112 p) (g 113 p) (nI θ.now - g 120 (402 * p + (Γ p).nu (kk - 1))) / nI 8 + mva (g 112 p) (g 113 p) (g 114 p) (nI θ.now - g 120 (402 * p + (Γ p).nu (kk - 1))))
      have v10 : Fk (5 + 21 * p) 10 = g 112 p := by rw [hFke _ _ (by omega) (by omega)]; exact hx.f10
      have v11 : Fk (5 + 21 * p) 11 = g 113 p := by rw [hFke _ _ (by omega) (by omega)]; exact hx.f11
      have v12 : Fk (5 + 21 * p) 12 = g 114 p := by rw [hFke _ _ (by omega) (by omega)]; exact hx.f12
      refine ⟨n, n1, n2, ?_, ?_, ?_, ?_, ?_⟩
      · rw [m4, v10, v11, v12]
        exact n3
      · rw [meas_110, u2, u3, u4]
        exact n3
      · rw [m1, meas_112, u2, v10]
      · rw [m2, meas_113, u2, u3, v10, v11]
      · rw [m3, meas_114, u2, u3, u4, v10, v11, v12]
    · rw [if_pos e, if_pos e]
      refine ⟨(Γ p).to, hx.to6, hx.to120, ?_, ?_, ?_, ?_, ?_⟩
      · rw [hFke _ _ (by omega) (by omega)]; exact hx.f8
      · (repeat (first | rw [up2_eq] | rw [up2_ne (by omega)])); exact hx.g110
      · rw [hFke _ _ (by omega) (by omega)]; (repeat (first | rw [up2_eq] | rw [up2_ne (by omega)])); exact hx.f10
      · rw [hFke _ _ (by omega) (by omega)]; (repeat (first | rw [up2_eq] | rw [up2_ne (by omega)])); exact hx.f11
      · rw [hFke _ _ (by omega) (by omega)]; (repeat (first | rw [up2_eq] | rw [up2_ne (by omega)])); exact hx.f12
  obtain ⟨to, o1, o2, o3, o4, o5, o6, o7⟩ := hto
  have ecae : cae Fk (5 + 21 * p) (rx R (5 + 21 * p + 17) (kk - 1)) ((Γ p).sc - kk) (nI θ.now) = up2 (up2 (up2 F1 (5 + 21 * p) 5 (nI 2)) 89 8 (nI 1)) (5 + 21 * p) 9 (if ¬ (Γ p).sc - kk = 0 then nI θ.now + F1 (5 + 21 * p) 8 else -1) := by
    rw [hF1]
    rfl
  have eae : aeG (akF f (nI b) (nI c)) g p ((Γ p).nu (kk - 1)) = up2 (up2 g1 107 p (nI 2)) 111 p (if (Γ p).sc - kk = 0 then nI 0 else nI (θ.now + to)) := by
    unfold aeG
    rw [f3, t2, nI_add]
    by_cases e : g 121 (402 * p + (Γ p).nu (kk - 1)) = nI 1
    · rw [if_neg (fun q => q e)]
      rw [if_neg (fun q => q e)] at hg1
      rw [← hg1, hg15, hg1e 116 p (by omega), hx.g116, o4, nI_add]
      by_cases e2 : (Γ p).sc - kk = 0
      · rw [if_neg (fun q => q (by rw [hlw2.mp e2])), if_pos e2]
      · rw [if_pos (fun q => e2 (hlw2.mpr ((nI_eq (by omega) (by omega)).mp q))), if_neg e2]
    · rw [if_pos e]
      rw [if_pos e] at hg1
      rw [← hg1, hx.g116]
      have o4' : g 110 p = nI to := by
        rw [← o4, hg1]
        (repeat (first | rw [up2_eq] | rw [up2_ne (by omega)]))
      rw [o4', nI_add]
      by_cases e2 : (Γ p).sc - kk = 0
      · rw [if_neg (fun q => q (by rw [hlw2.mp e2])), if_pos e2]
      · rw [if_pos (fun q => e2 (hlw2.mpr ((nI_eq (by omega) (by omega)).mp q))), if_neg e2]
  rw [← hFk, ecae, eae, o3, nI_add]
  obtain ⟨F2, hF2⟩ : ∃ F2, F2 = up2 (up2 (up2 F1 (5 + 21 * p) 5 (nI 2)) 89 8 (nI 1)) (5 + 21 * p) 9 (if ¬ (Γ p).sc - kk = 0 then nI (θ.now + to) else -1) := ⟨_, rfl⟩
  obtain ⟨g2, hg2⟩ : ∃ g2, g2 = up2 (up2 g1 107 p (nI 2)) 111 p (if (Γ p).sc - kk = 0 then nI 0 else nI (θ.now + to)) := ⟨_, rfl⟩
  rw [← hF2, ← hg2]
  have hF2e : ∀ i k, ¬ (i = 5 + 21 * p ∧ (k = 5 ∨ k = 9)) → ¬ (i = 89 ∧ k = 8) → F2 i k = F1 i k := by
    intro i k a b
    rw [hF2]
    (repeat (first | rw [up2_eq] | rw [up2_ne (by omega)]))
  have hF2o : ∀ i k, ¬ (i = 5 + 21 * p ∧ (k = 3 ∨ k = 5 ∨ k = 8 ∨ k = 9 ∨ k = 10 ∨ k = 11 ∨ k = 12)) → ¬ (i = 89 ∧ (k = 5 ∨ k = 6 ∨ k = 8)) → F2 i k = F i k := by
    intro i k a b
    rw [hF2e _ _ (by omega) (by omega), hF1e _ _ (by omega), hFke _ _ (by omega) (by omega)]
  have hg2e : ∀ r w, ¬ (w = p ∧ (r = 107 ∨ r = 111)) → g2 r w = g1 r w := by
    intro r w a
    rw [hg2]
    (repeat (first | rw [up2_eq] | rw [up2_ne (by omega)]))
  have hg2o : ∀ r w, ¬ (w = p ∧ (r = 107 ∨ r = 111 ∨ r = 115 ∨ r = 110 ∨ r = 112 ∨ r = 113 ∨ r = 114)) → g2 r w = g r w := by
    intro r w a
    rw [hg2e _ _ (by omega), hg1e _ _ (by omega)]
  have hrr : ∀ j, j < (Γ p).sc - kk → rx (stR (5 + 21 * p) kk (Γ p).sc R) (5 + 21 * p + 17) j = rx R (5 + 21 * p + 17) (j + kk) := fun j hj => stR_rx kk _ j R hks hsc3 hj
  have hrb : ∀ j, j < (Γ p).sc → 5 + 21 * p + 18 ≤ rx R (5 + 21 * p + 17) j ∧ rx R (5 + 21 * p + 17) j ≤ 5 + 21 * p + 20 := fun j hj => ((h.rw.sg p hp).1 j (by omega)).2
  have hcx : CX θ.now θ.ln p ((Γ p).ack θ.now to kk) F2 (stR (5 + 21 * p) kk (Γ p).sc R) g2 := by
    refine CX.mk ?_ ?_ ?_ ?_ ?_ ?_ ?_ ?_ ?_ ?_ ?_ ?_ ?_ ?_ ?_ ?_ ?_ ?_ hx.h402 (show 2 ≤ 4 by omega) o1 o2 ?_ ?_ (fun e => absurd (show (2 : Nat) = 0 from e) (by decide)) ?_ (fun e => absurd (show (2 : Nat) = 4 from e) (by decide)) ?_ ?_ ?_ ?_ ?_ ?_ ?_ ?_ ?_ ?_ ?_ ?_ ?_ ?_ ?_ ?_ hx.pc
    · rw [hF2e _ _ (by omega) (by omega), hF1e _ _ (by omega)]; exact hFk3
    · rw [hF2o _ _ (by omega) (by omega)]; exact hx.f4
    · rw [hg2o _ _ (by omega)]; exact hx.g116
    · rw [hg2e _ _ (by omega)]; exact hg15
    · rw [hF2]; (repeat (first | rw [up2_eq] | rw [up2_ne (by omega)])); rfl
    · rw [hg2]; (repeat (first | rw [up2_eq] | rw [up2_ne (by omega)])); rfl
    · rw [hF2o _ _ (by omega) (by omega), hg2o _ _ (by omega)]; exact hx.f6
    · rw [hF2o _ _ (by omega) (by omega), hg2o _ _ (by omega)]; exact hx.f7
    · rw [hF2e _ _ (by omega) (by omega)]; exact o3
    · rw [hg2e _ _ (by omega)]; exact o4
    · show _ = if (if (Γ p).sc - kk = 0 then 0 else θ.now + to) = 0 then -1 else nI (if (Γ p).sc - kk = 0 then 0 else θ.now + to)
      rw [hF2, up2_eq]
      by_cases e : (Γ p).sc - kk = 0
      · rw [if_neg (fun q => q e), if_pos e, if_pos rfl]
      · rw [if_pos e, if_neg e, if_neg (by omega)]
    · show _ = nI (if (Γ p).sc - kk = 0 then 0 else θ.now + to)
      rw [hg2, up2_eq]
      split <;> rfl
    · rw [hF2e _ _ (by omega) (by omega), hg2e _ _ (by omega)]; exact o5
    · rw [hF2e _ _ (by omega) (by omega), hg2e _ _ (by omega)]; exact o6
    · rw [hF2e _ _ (by omega) (by omega), hg2e _ _ (by omega)]; exact o7
    · rw [hF2o _ _ (by omega) (by omega), hg2o _ _ (by omega)]; exact hx.f13
    · show (Γ p).sc - kk ≤ 3
      omega
    · exact hkn
    · show (if (Γ p).sc - kk = 0 then 0 else θ.now + to) ≤ θ.now + 120
      split <;> omega
    · show (if (Γ p).sc - kk = 0 then 0 else θ.now + to) ≠ 0 → 0 < (Γ p).sc - kk
      split <;> omega
    · intro _
      show 1 ≤ (Γ p).hi
      omega
    · intro j hj
      have hj : j < (Γ p).sc - kk := hj
      have hbj := hrb (j + kk) (by omega)
      rw [hrr j hj, hF2o _ _ (by omega) (by omega), hF2o _ _ (by omega) (by omega), hF2o _ _ (by omega) (by omega), hF2o _ _ (by omega) (by omega), hF2o _ _ (by omega) (by omega)]
      exact hx.sg (j + kk) (by omega)
    · intro j hj
      have hj : j < (Γ p).sc - kk := hj
      rw [hg2o _ _ (by omega), hg2o _ _ (by omega)]
      exact hx.sh (j + kk) (by omega)
    · intro j hj
      have hj : j < (Γ p).sc - kk := hj
      show 1 ≤ (Γ p).nm (j + kk) ∧ (Γ p).nm (j + kk) ≤ 7 ∧ 1 ≤ (Γ p).tr (j + kk) ∧ (Γ p).tr (j + kk) ≤ θ.now + 1 ∧ ((if (Γ p).sc - kk = 0 then 0 else θ.now + to) = θ.now → (Γ p).tr (j + kk) ≤ θ.now)
      obtain ⟨d1, d2, d3, d4, d5⟩ := hx.sb (j + kk) (by omega)
      refine ⟨d1, d2, d3, d4, fun e => ?_⟩
      rw [if_neg (by omega)] at e
      omega
    · intro j hj ht
      have hj : j < (Γ p).sc - kk := hj
      have hbj := hrb (j + kk) (by omega)
      rw [hrr j hj, hF2o _ _ (by omega) (by omega), hg2o _ _ (by omega)]
      exact hx.s8 (j + kk) (by omega) ht
    · intro j hj i i0 i1
      have hj : j < (Γ p).sc - kk := hj
      rw [hg2o _ _ (by omega)]
      exact hx.z1 (j + kk) (by omega) i i0 i1
    · intro m a b
      rw [hg2o _ _ (by omega)]
      exact hx.z2 m a b
    · intro m a b
      rw [hg2o _ _ (by omega)]
      exact hx.z3 m a b
    · intro _ e
      have e : 0 < (Γ p).sc - kk := e
      show (Γ p).nu (0 + kk) = (Γ p).nu (kk - 1) + (Γ p).nm (kk - 1)
      have := hx.ch2 (kk - 1) (by omega)
      rw [← this]
      congr 1
      omega
    · intro _ e
      exact hlw2.mp e
    · intro j hj
      have hj : j + 1 < (Γ p).sc - kk := hj
      show (Γ p).nu (j + 1 + kk) = (Γ p).nu (j + kk) + (Γ p).nm (j + kk)
      rw [show j + 1 + kk = j + kk + 1 from by omega]
      exact hx.ch2 (j + kk) (by omega)
    · intro j hj
      have hj : j + 1 = (Γ p).sc - kk := hj
      exact hx.ch3 (j + kk) (by omega)
    · intro j hj e
      have hj : j < (Γ p).sc - kk := hj
      exact hx.sy (j + kk) (by omega) e
    · intro j hj e
      have hj : j < (Γ p).sc - kk := hj
      exact hx.dt (j + kk) (by omega) e
    · intro j hj e i hi
      have hj : j < (Γ p).sc - kk := hj
      rw [hg2o _ _ (by omega)]
      exact hx.d2 (j + kk) (by omega) e i hi
    · intro u hu
      rw [hg2o _ _ (by omega)]
      exact hx.pg u hu
    · intro u hu a
      obtain ⟨d1, d2⟩ := hx.pu u hu a
      refine ⟨d1, ?_⟩
      rw [hg2o _ _ (by omega)]
      exact d2
  have hcy : CY θ.ln p ((Γ p).ack θ.now to kk) F2 (stR (5 + 21 * p) kk (Γ p).sc R) g2 := CY_congr (h.rw.pf p hp) (h.rw.pb p hp) hy (Nat.le_refl _) (Nat.le_refl _) rfl rfl (fun e => absurd (show (2 : Nat) = 4 ∨ (2 : Nat) = 0 from e) (by decide)) (stR_row (by omega) _ _ _) (stR_row (by omega) _ _ _) (fun i k a b => hF2o i k (by omega) (by omega)) (fun q hq => hg2o _ _ (by omega)) (fun q r k hq a b c => hg2o _ _ (by omega))
  obtain ⟨sg1, sg2⟩ := stG_spec kk (Γ p).su (Γ p).sn G
  have hct2 : CT (ackT θ b c) F2 (stG kk (Γ p).su (Γ p).sn G) (aeF (akF f (nI b) (nI c))) g2 := by
    refine CT_ack h.ct hb hc (fun i k a b c => hF2o i k (by omega) (by omega)) (fun i a b => sg2 i b) (fun k a => ?_) (fun r a => ?_) ?_ ?_ ?_ ?_ ?_
    · unfold aeF akF
      (repeat (first | rw [up2_eq] | rw [up2_ne (by omega)]))
    · funext w
      exact hg2o _ _ (by omega)
    · rw [hF2e _ _ (by omega) (by omega), hF1e _ _ (by omega)]; exact hFk5
    · unfold aeF akF
      (repeat (first | rw [up2_eq] | rw [up2_ne (by omega)]))
      exact mx_t h.ct.fa5 rfl (by omega) (by omega)
    · rw [hF2e _ _ (by omega) (by omega), hF1e _ _ (by omega)]; exact hFk6
    · unfold aeF akF
      (repeat (first | rw [up2_eq] | rw [up2_ne (by omega)]))
      exact mx_t h.ct.fa6 rfl (by omega) (by omega)
    · rw [hF2]
      unfold aeF
      (repeat (first | rw [up2_eq] | rw [up2_ne (by omega)]))
  refine ⟨to, o2, by rw [hF2e _ _ (by omega) (by omega)]; exact o3, ?_⟩
  refine CI_step h hp (RW_st h.rw hp hks hsc3) (fun i k a b c => hF2o i k (by omega) (by omega)) (fun i a b c => stR_row (by omega) _ _ _) (fun r q a b c => hg2o _ _ (by omega)) (fun r w a b c => hg2o _ _ (by omega)) (fun q a b => hg2o _ _ (by omega)) (fun r w a b c => hg2o _ _ (by omega)) rfl rfl hct2 (fun v hv => ?_) hcx hcy
  rw [sg1 v, h.st v hv]
  have key : (∀ j, j < kk → ¬ ((Γ p).su j ≤ v ∧ v < (Γ p).su j + (Γ p).sn j)) ∧ ¬ (0 < (Γ p).pl v ∧ (Γ p).pl v < (Γ p).lw) ↔ ¬ (0 < (Γ p).pl v ∧ (Γ p).pl v < (Γ p).nu (kk - 1) + (Γ p).nm (kk - 1)) := by
    have sp := fun j hj => seg_pl hx hl (j := j) (v := v) hj hv
    have c0 := hx.ch0 hst (by omega)
    have kc : kk = 1 ∨ kk = 2 ∨ kk = 3 := by omega
    constructor
    · intro ⟨a, b⟩ q
      rcases kc with e | e | e
      · subst e
        have a0 : ¬ (0 < (Γ p).pl v ∧ (Γ p).nu 0 ≤ (Γ p).pl v ∧ (Γ p).pl v < (Γ p).nu 0 + (Γ p).nm 0) := fun w => a 0 (by omega) ((sp 0 (by omega)).mpr w)
        have q2 : (Γ p).pl v < (Γ p).nu 0 + (Γ p).nm 0 := q.2
        omega
      · subst e
        have a0 : ¬ (0 < (Γ p).pl v ∧ (Γ p).nu 0 ≤ (Γ p).pl v ∧ (Γ p).pl v < (Γ p).nu 0 + (Γ p).nm 0) := fun w => a 0 (by omega) ((sp 0 (by omega)).mpr w)
        have a1 : ¬ (0 < (Γ p).pl v ∧ (Γ p).nu 1 ≤ (Γ p).pl v ∧ (Γ p).pl v < (Γ p).nu 1 + (Γ p).nm 1) := fun w => a 1 (by omega) ((sp 1 (by omega)).mpr w)
        have q2 : (Γ p).pl v < (Γ p).nu 1 + (Γ p).nm 1 := q.2
        have c1 : (Γ p).nu 1 = (Γ p).nu 0 + (Γ p).nm 0 := hx.ch2 0 (by omega)
        omega
      · subst e
        have a0 : ¬ (0 < (Γ p).pl v ∧ (Γ p).nu 0 ≤ (Γ p).pl v ∧ (Γ p).pl v < (Γ p).nu 0 + (Γ p).nm 0) := fun w => a 0 (by omega) ((sp 0 (by omega)).mpr w)
        have a1 : ¬ (0 < (Γ p).pl v ∧ (Γ p).nu 1 ≤ (Γ p).pl v ∧ (Γ p).pl v < (Γ p).nu 1 + (Γ p).nm 1) := fun w => a 1 (by omega) ((sp 1 (by omega)).mpr w)
        have a2 : ¬ (0 < (Γ p).pl v ∧ (Γ p).nu 2 ≤ (Γ p).pl v ∧ (Γ p).pl v < (Γ p).nu 2 + (Γ p).nm 2) := fun w => a 2 (by omega) ((sp 2 (by omega)).mpr w)
        have q2 : (Γ p).pl v < (Γ p).nu 2 + (Γ p).nm 2 := q.2
        have c1 : (Γ p).nu 1 = (Γ p).nu 0 + (Γ p).nm 0 := hx.ch2 0 (by omega)
        have c2 : (Γ p).nu 2 = (Γ p).nu 1 + (Γ p).nm 1 := hx.ch2 1 (by omega)
        omega
    · intro a
      have mono : ∀ j, j < kk → (Γ p).nu j + (Γ p).nm j ≤ (Γ p).nu (kk - 1) + (Γ p).nm (kk - 1) := by
        intro j hj
        have c1 : 1 < kk → (Γ p).nu 1 = (Γ p).nu 0 + (Γ p).nm 0 := fun _ => hx.ch2 0 (by omega)
        have c2 : 2 < kk → (Γ p).nu 2 = (Γ p).nu 1 + (Γ p).nm 1 := fun _ => hx.ch2 1 (by omega)
        have jc : j = 0 ∨ j = 1 ∨ j = 2 := by omega
        rcases kc with e | e | e <;> subst e <;> rcases jc with t | t | t <;> subst t <;> simp only [Nat.reduceSub] <;> omega
      refine ⟨fun j hj w => ?_, fun w => ?_⟩
      · have := (sp j (by omega)).mp w
        have := mono j hj
        omega
      · have := mono 0 (by omega)
        omega
  constructor
  · intro a q hq w
    by_cases e : q = p
    · subst e
      rw [upG_eq] at w
      exact key.mp ⟨a.2, a.1 q hq⟩ w
    · rw [upG_ne e] at w
      exact a.1 q hq w
  · intro a
    have ap := a p hp
    rw [upG_eq] at ap
    have kp := key.mpr ap
    refine ⟨fun q hq w => ?_, kp.1⟩
    by_cases e : q = p
    · subst e
      exact kp.2 w
    · have := a q hq
      rw [upG_ne e] at this
      exact this w
