/-! THE COUPLING, eighth part: a segment of units is sent for the first time. -/
theorem tbn_F {p u hi i k : Nat} (h : ¬ (i = 103 ∧ k = 24)) : ∀ (n j : Nat) (X : FN × FN), (tbn p u hi n j X).1 i k = X.1 i k
  | 0, _, _ => rfl
  | n + 1, j, X => by
    rw [tbn, tbn_F h n]
    show tbF X.1 X.2 (u + j) i k = _
    unfold tbF
    split <;> rw [up2_ne h]
theorem tbn_G {p u hi r w : Nat} : ∀ (n j : Nat) (X : FN × FN), (r = 118 → ¬ (402 * p + hi + j ≤ w ∧ w < 402 * p + hi + j + n)) → (r = 122 → ¬ (402 * p + u + j ≤ w ∧ w < 402 * p + u + j + n)) → (r = 123 → ¬ (u + j ≤ w ∧ w < u + j + n)) → (tbn p u hi n j X).2 r w = X.2 r w
  | 0, _, _, _, _, _ => rfl
  | n + 1, j, X, h1, h2, h3 => by
    rw [tbn, tbn_G n (j + 1) _ (fun e => by have := h1 e; omega) (fun e => by have := h2 e; omega) (fun e => by have := h3 e; omega)]
    show up2 (up2 (up2 X.2 118 (402 * p + hi + j) (nI (u + j))) 123 (u + j) (nI 1)) 122 (402 * p + u + j) (nI (hi + j)) r w = _
    rw [up2_ne (by omega), up2_ne (by omega), up2_ne (by omega)]
theorem tbn_118 {p u hi i : Nat} : ∀ (n j : Nat) (X : FN × FN), j ≤ i → i < j + n → (tbn p u hi n j X).2 118 (402 * p + hi + i) = nI (u + i) ∧ (tbn p u hi n j X).2 122 (402 * p + u + i) = nI (hi + i)
  | 0, _, _, _, _ => by omega
  | n + 1, j, X, h1, h2 => by
    by_cases e : i = j
    · subst e
      rw [tbn, tbn_G n (i + 1) _ (fun e => by omega) (fun e => by omega) (fun e => by omega), tbn_G n (i + 1) _ (fun e => by omega) (fun e => by omega) (fun e => by omega)]
      constructor
      · show up2 (up2 (up2 X.2 118 (402 * p + hi + i) (nI (u + i))) 123 (u + i) (nI 1)) 122 (402 * p + u + i) (nI (hi + i)) 118 (402 * p + hi + i) = _
        rw [up2_ne (by omega), up2_ne (by omega), up2_eq]
      · show up2 (up2 (up2 X.2 118 (402 * p + hi + i) (nI (u + i))) 123 (u + i) (nI 1)) 122 (402 * p + u + i) (nI (hi + i)) 122 (402 * p + u + i) = _
        rw [up2_eq]
    · rw [tbn]
      exact tbn_118 n (j + 1) _ (by omega) (by omega)
theorem cc_tb {p u hi : Nat} : ∀ (n j : Nat) (X Y : FN × FN), X.1 89 7 = Y.1 103 24 → (∀ v, v < 401 → X.2 91 v = Y.2 123 v) → u + j + n ≤ 401 → (ccn n (u + j) X).1 89 7 = (tbn p u hi n j Y).1 103 24 ∧ ∀ v, v < 401 → (ccn n (u + j) X).2 91 v = (tbn p u hi n j Y).2 123 v
  | 0, _, _, _, h1, h2, _ => ⟨h1, h2⟩
  | n + 1, j, X, Y, h1, h2, h3 => by
    rw [tbn, ccn, Nat.add_assoc]
    refine cc_tb n (j + 1) _ _ ?_ ?_ (by omega)
    · show (if X.2 91 (u + j) = 0 then X.1 else up2 X.1 89 7 (X.1 89 7 + nI 1)) 89 7 = tbF Y.1 Y.2 (u + j) 103 24
      unfold tbF
      rw [h2 (u + j) (by omega)]
      split
      · rw [up2_eq]; exact h1
      · rw [up2_eq, up2_eq, h1]
    · intro v hv
      show up2 X.2 91 (u + j) (nI 1) 91 v = up2 (up2 (up2 Y.2 118 (402 * p + hi + j) (nI (u + j))) 123 (u + j) (nI 1)) 122 (402 * p + u + j) (nI (hi + j)) 123 v
      rw [up2_ne (F := up2 (up2 Y.2 118 _ _) 123 _ _) (by omega)]
      by_cases e : v = u + j
      · subst e
        rw [up2_eq, up2_eq]
      · rw [up2_ne2 e, up2_ne2 e, up2_ne (by omega)]
        exact h2 v hv
def plu (pl : Nat → Nat) (u m hi : Nat) : Nat → Nat := fun w => if u ≤ w ∧ w < u + m then hi + (w - u) else pl w
theorem plu_in {pl : Nat → Nat} {u m hi w : Nat} (h : u ≤ w ∧ w < u + m) : plu pl u m hi w = hi + (w - u) := if_pos h
theorem plu_out {pl : Nat → Nat} {u m hi w : Nat} (h : ¬ (u ≤ w ∧ w < u + m)) : plu pl u m hi w = pl w := if_neg h
theorem cnz_add {pl : Nat → Nat} {u m hi : Nat} (h : ∀ i, i < m → pl (u + i) = 0) (hh : 0 < hi) : ∀ n, cnz (plu pl u m hi) n = cnz pl n + (min n (u + m) - min n u)
  | 0 => by rw [cnz, cnz]; omega
  | n + 1 => by
    have ih := cnz_add h hh n
    rw [cnz, cnz]
    by_cases e : u ≤ n ∧ n < u + m
    · have h0 : pl n = 0 := by
        have := h (n - u) (by omega)
        rwa [show u + (n - u) = n from by omega] at this
      rw [plu_in e, if_neg (by omega), h0, if_pos rfl]
      omega
    · rw [plu_out e]
      omega
theorem CT_carry {θ : TG} {F G f g F2 G2 f2 g2 : FN} (h : CT θ F G f g) (h1 : ∀ i k, i < 4 ∨ 89 ≤ i → i < 103 → ¬ (i = 89 ∧ k = 7) → F2 i k = F i k) (h2 : ∀ i, i < 103 → ¬ i = 90 → ¬ i = 91 → G2 i = G i) (h3 : ∀ k, ¬ k = 24 → f2 103 k = f 103 k) (h4 : ∀ r, 104 ≤ r ∧ r ≤ 106 → g2 r = g r) (a7 : F2 89 7 = f2 103 24) (a9 : ∀ u, u < 401 → G2 91 u = g2 123 u) : CT θ F2 G2 f2 g2 := by
  refine CT.mk ?_ ?_ ?_ ?_ ?_ ?_ h.en1 h.lc h.ct4 ?_ h.tx2 ?_ ?_ ?_ h.kl ?_ ?_ h.ed4 ?_ ?_ h.ms1 h.ms7 a7 ?_ a9 ?_ ?_ h.bu5 ?_ ?_ ?_ ?_ ?_ ?_ ?_ h.nxr ?_ ?_ ?_ ?_ ?_
  · rw [h1 _ _ (by omega) (by omega) (by omega)]; exact h.n1
  · rw [h3 _ (by omega)]; exact h.n2
  · rw [h1 _ _ (by omega) (by omega) (by omega)]; exact h.l1
  · rw [h1 _ _ (by omega) (by omega) (by omega)]; exact h.l2
  · rw [h3 _ (by omega)]; exact h.l3
  · rw [h3 _ (by omega)]; exact h.l4
  · rw [h4 _ (by omega)]; exact h.tx1
  · rw [h2 _ (by omega) (by omega) (by omega)]; exact h.vl
  · rw [h1 _ _ (by omega) (by omega) (by omega)]; exact h.a5
  · rw [h3 _ (by omega)]; exact h.fa5
  · rw [h1 _ _ (by omega) (by omega) (by omega)]; exact h.a6
  · rw [h3 _ (by omega)]; exact h.fa6
  · rw [h1 _ _ (by omega) (by omega) (by omega)]; exact h.a2
  · rw [h3 _ (by omega)]; exact h.fa2
  · rw [h1 _ _ (by omega) (by omega) (by omega), h3 _ (by omega)]; exact h.a8
  · rw [h1 _ _ (by omega) (by omega) (by omega)]; exact h.b1
  · rw [h3 _ (by omega)]; exact h.fb1
  · rw [h1 _ _ (by omega) (by omega) (by omega), h3 _ (by omega)]; exact h.b2
  · rw [h1 _ _ (by omega) (by omega) (by omega), h3 _ (by omega)]; exact h.b0
  · rw [h1 _ _ (by omega) (by omega) (by omega)]; exact h.b5
  · rw [h4 _ (by omega)]; exact h.rcl
  · rw [h4 _ (by omega)]; exact h.hu
  · rw [h1 _ _ (by omega) (by omega) (by omega)]; exact h.b6
  · rw [h3 _ (by omega)]; exact h.fb6
  · rw [h1 _ _ (by omega) (by omega) (by omega), h3 _ (by omega)]; exact h.b7
  · rw [h2 _ (by omega) (by omega) (by omega), h4 _ (by omega)]; exact h.b4
  · intro p hp
    rw [h1 _ _ (by omega) (by omega) (by omega)]; exact h.e1 p hp
  · rw [h4 _ (by omega)]; exact h.e2
  · intro p hp
    rw [h2 _ (by omega) (by omega) (by omega), h4 _ (by omega)]; exact h.e3 p hp
theorem CT_ln {θ : TG} {F G f g : FN} (h : CT θ F G f g) : θ.ln ≤ 401 := by
  have := h.lc
  have := h.en1
  have := h.ct4
  omega
theorem last_same {θ : TG} {F G f g : FN} (h : CT θ F G f g) {u m : Nat} (hm : 0 < m) (hv : u + m ≤ θ.ln) : (if f 103 6 = 0 then nI 0 else if ¬ nI u + nI m - nI 1 = f 103 5 then nI 0 else nI 1) = clast G (u + m - 1) θ.ln := by
  have hl := CT_ln h
  have hlc := h.lc
  have hen := h.en1
  have hct := h.ct4
  unfold clast cval_r
  rw [if_neg (show ¬ θ.ln ≤ u + m - 1 by omega), h.vl _ (by omega), h.l3, h.l4, nI_add, pk_sub (by omega)]
  by_cases e : u + m - 1 = θ.ct
  · rw [if_pos e, if_neg (show ¬ (¬ nI 256 = nI 256) from fun q => q rfl), if_neg (nI_ne0 (by omega) (by omega)), if_neg (fun q => q (by rw [e]))]
  · have ht := h.tx2 (u + m - 1) (by omega)
    rw [if_neg e, if_pos (show ¬ nI (θ.tx (u + m - 1)) = nI 256 from fun q => by rw [nI_eq (by omega) (by omega)] at q; omega)]
    split
    · rfl
    · rw [if_pos (show ¬ nI (u + m - 1) = nI θ.ct from fun q => by rw [nI_eq (by omega) (by omega)] at q; exact e q)]
theorem CI_begin {θ : TG} {Γ : Nat → PG} {F G f g : FN} {R : RN} {p u m : Nat} (h : CI θ Γ F G R f g) (hp : p < 4) (h23 : (Γ p).st = 2 ∨ (Γ p).st = 3) (hs3 : (Γ p).sc < 3) (hm0 : 0 < m) (hm7 : m ≤ 7) (hum : u + m ≤ θ.ln) (hpl : ∀ i, i < m → (Γ p).pl (u + i) = 0) (hn : θ.now < 2 ^ 20) (hn0 : 0 < θ.now) :
    (Γ p).hi + m ≤ 402 ∧ CI θ (upG Γ p (((Γ p).add θ.now (Γ p).st m u m (plu (Γ p).pl u m (Γ p).hi)).sf (shn F (5 + 21 * p) (Γ p).fl))) (ctr1_F (csf (cns_F F G (5 + 21 * p) (rx R (5 + 21 * p + 17) (Γ p).sc) (Γ p).sc (Γ p).hi u m) (5 + 21 * p) (nI θ.now)) (cns_G F G u m) (5 + 21 * p) (rx R (5 + 21 * p + 17) (Γ p).sc) (rx R (5 + 21 * p + 1 + 1) (Γ p).fl) (Γ p).fl (nI θ.now) (Γ p).hi u m θ.ln) (cns_G F G u m) R
      (tbegin f g p u m (Γ p).hi (Γ p).fl).1 (tbegin f g p u m (Γ p).hi (Γ p).fl).2 := by
  have hx := h.px p hp
  have hy := h.py p hp
  have hl := CT_ln h.ct
  have hs := (h.rw.sg p hp).1 (Γ p).sc hs3
  have hto := hx.to6
  have hto2 := hx.to120
  have hh1 := hx.s1 (by omega)
  have hlh := hx.lh
  have hpc := hx.pc
  rw [if_neg (by omega)] at hpc
  have hca := cnz_add (hi := (Γ p).hi) hpl (by omega) 401
  have hca2 : cnz (plu (Γ p).pl u m (Γ p).hi) 401 = cnz (Γ p).pl 401 + m := by
    rw [hca]
    omega
  have hle := cnz_le (plu (Γ p).pl u m (Γ p).hi) 401
  have hhm : (Γ p).hi + m ≤ 402 := by omega
  refine ⟨hhm, ?_⟩
  have hctb := cc_tb (p := p) (u := u) (hi := (Γ p).hi) m 0 (F, G) (f, tb0 f g p m (Γ p).hi) h.ct.a7 (fun v hv => by
    show G 91 v = tb0 f g p m (Γ p).hi 123 v
    unfold tb0
    (repeat (first | rw [up2_eq] | rw [up2_ne (by omega)]))
    exact h.ct.a9 v hv) (by omega)
  rw [Nat.add_zero] at hctb
  obtain ⟨F0, hF0⟩ : ∃ F0, F0 = (ccn m u (F, G)).1 := ⟨_, rfl⟩
  obtain ⟨G0, hG0⟩ : ∃ G0, G0 = (ccn m u (F, G)).2 := ⟨_, rfl⟩
  obtain ⟨f0, hf0⟩ : ∃ f0, f0 = (tbn p u (Γ p).hi m 0 (f, tb0 f g p m (Γ p).hi)).1 := ⟨_, rfl⟩
  obtain ⟨g0, hg0⟩ : ∃ g0, g0 = (tbn p u (Γ p).hi m 0 (f, tb0 f g p m (Γ p).hi)).2 := ⟨_, rfl⟩
  have hF0e : ∀ i k, ¬ (i = 89 ∧ k = 7) → F0 i k = F i k := fun i k a => by rw [hF0]; exact ccn_F a m u (F, G)
  have hG0e : ∀ i, ¬ i = 91 → G0 i = G i := fun i a => by rw [hG0]; exact ccn_G a m u (F, G)
  have hf0e : ∀ i k, ¬ (i = 103 ∧ k = 24) → f0 i k = f i k := fun i k a => by rw [hf0]; exact tbn_F a m 0 _
  have hg0e : ∀ r w, ¬ (r = 118 ∧ 402 * p + (Γ p).hi ≤ w ∧ w < 402 * p + (Γ p).hi + m) → ¬ (r = 122 ∧ 402 * p + u ≤ w ∧ w < 402 * p + u + m) → ¬ (r = 123 ∧ u ≤ w ∧ w < u + m) → ¬ (r = 119 ∧ w = 402 * p + (Γ p).hi) → ¬ (r = 120 ∧ w = 402 * p + (Γ p).hi) → g0 r w = g r w := fun r w a b c d e => by
    rw [hg0, tbn_G m 0 _ (fun _ => by omega) (fun _ => by omega) (fun _ => by omega)]
    show tb0 f g p m (Γ p).hi r w = _
    unfold tb0
    (repeat (first | rw [up2_eq] | rw [up2_ne (by omega)]))
  have hg0n : ∀ i, i < m → g0 118 (402 * p + (Γ p).hi + i) = nI (u + i) ∧ g0 122 (402 * p + u + i) = nI ((Γ p).hi + i) := fun i hi => by
    rw [hg0]; exact tbn_118 m 0 _ (by omega) (by omega)
  have hg9 : g0 119 (402 * p + (Γ p).hi) = nI m := by
    rw [hg0, tbn_G m 0 _ (fun _ => by omega) (fun _ => by omega) (fun _ => by omega)]
    show tb0 f g p m (Γ p).hi 119 (402 * p + (Γ p).hi) = _
    unfold tb0
    (repeat (first | rw [up2_eq] | rw [up2_ne (by omega)]))
  have hg10 : g0 120 (402 * p + (Γ p).hi) = nI θ.now := by
    rw [hg0, tbn_G m 0 _ (fun _ => by omega) (fun _ => by omega) (fun _ => by omega)]
    show tb0 f g p m (Γ p).hi 120 (402 * p + (Γ p).hi) = _
    unfold tb0
    (repeat (first | rw [up2_eq] | rw [up2_ne (by omega)]))
    exact h.ct.n2
  rw [← hF0, ← hf0] at hctb
  rw [← hG0, ← hg0] at hctb
  obtain ⟨F1, hF1⟩ : ∃ F1, F1 = cadd_F F0 (5 + 21 * p) (rx R (5 + 21 * p + 17) (Γ p).sc) (Γ p).sc (Γ p).hi m u m := ⟨_, rfl⟩
  obtain ⟨F2, hF2⟩ : ∃ F2, F2 = csf F1 (5 + 21 * p) (nI θ.now) := ⟨_, rfl⟩
  obtain ⟨F3, hF3⟩ : ∃ F3, F3 = ctr F2 (5 + 21 * p) (rx R (5 + 21 * p + 17) (Γ p).sc) (nI θ.now) := ⟨_, rfl⟩
  obtain ⟨g1, hg1⟩ : ∃ g1, g1 = (if ¬ g0 111 p = 0 then up2 g0 116 p (nI ((Γ p).hi + m)) else up2 (up2 g0 116 p (nI ((Γ p).hi + m))) 111 p (f0 103 3 + g0 110 p)) := ⟨_, rfl⟩
  obtain ⟨g2, hg2⟩ : ∃ g2, g2 = tcnt g1 p (Γ p).hi := ⟨_, rfl⟩
  have ebend : bend f0 g0 p m (Γ p).hi (Γ p).fl = trans_G f0 g1 p (Γ p).hi (Γ p).fl := by
    subst hg1
    unfold bend
    split <;> rfl
  have k11 : g0 111 p = nI (Γ p).tm := by rw [hg0e _ _ (by omega) (by omega) (by omega) (by omega) (by omega)]; exact hx.g111
  have k10 : g0 110 p = nI (Γ p).to := by rw [hg0e _ _ (by omega) (by omega) (by omega) (by omega) (by omega)]; exact hx.g110
  have htmb := hx.tmb
  have hz0 : g0 111 p = 0 ↔ (Γ p).tm = 0 := by
    rw [k11, ← nI_0, nI_eq (by omega) (by omega)]
  have f3 : f0 103 3 = nI θ.now := by rw [hf0e _ _ (by omega)]; exact h.ct.n2
  have hF1e : ∀ i k, ¬ (i = 5 + 21 * p ∧ (k = 3 ∨ k = 4)) → ¬ i = rx R (5 + 21 * p + 17) (Γ p).sc → F1 i k = F0 i k := by
    intro i k a b
    subst hF1
    unfold cadd_F
    (repeat (first | rw [up2_eq] | rw [up2_ne (by omega)]))
  have e9 : F1 (5 + 21 * p) 9 = F (5 + 21 * p) 9 := by rw [hF1e _ _ (by omega) (by omega), hF0e _ _ (by omega)]
  have e8 : F1 (5 + 21 * p) 8 = nI (Γ p).to := by rw [hF1e _ _ (by omega) (by omega), hF0e _ _ (by omega)]; exact hx.f8
  have hF9 : F2 (5 + 21 * p) 9 = if (Γ p).tm = 0 then nI (θ.now + (Γ p).to) else F (5 + 21 * p) 9 := by
    subst hF2
    unfold csf
    rw [e9, hx.f9]
    by_cases e : (Γ p).tm = 0
    · rw [if_pos e, if_pos rfl, if_pos e, up2_eq, e8, nI_add]
    · rw [if_neg e, if_neg (nI_nm1 (by omega)), if_neg e, e9, hx.f9, if_neg e]
  have hF2e : ∀ i k, ¬ (i = 5 + 21 * p ∧ k = 9) → F2 i k = F1 i k := fun i k a => by rw [hF2]; exact csf_ne a
  have hF3e : ∀ i k, ¬ (i = 5 + 21 * p ∧ k = 13) → ¬ i = rx R (5 + 21 * p + 17) (Γ p).sc → F3 i k = F2 i k := by
    intro i k a b
    subst hF3
    unfold ctr
    (repeat (first | rw [up2_eq] | rw [up2_ne (by omega)]))
  have hF3o : ∀ i k, ¬ i = 5 + 21 * p → ¬ i = rx R (5 + 21 * p + 17) (Γ p).sc → ¬ (i = 89 ∧ k = 7) → F3 i k = F i k := by
    intro i k a b c
    rw [hF3e _ _ (by omega) b, hF2e _ _ (by omega), hF1e _ _ (by omega) b, hF0e _ _ c]
  have hF3a : ∀ k, ¬ k = 3 → ¬ k = 4 → ¬ k = 9 → ¬ k = 13 → F3 (5 + 21 * p) k = F (5 + 21 * p) k := by
    intro k a b c d
    rw [hF3e _ _ (by omega) (by omega), hF2e _ _ (by omega), hF1e _ _ (by omega) (by omega), hF0e _ _ (by omega)]
  have hg1e : ∀ r w, ¬ (r = 116 ∧ w = p) → ¬ (r = 111 ∧ w = p) → g1 r w = g0 r w := by
    intro r w a b
    subst hg1
    split
    · (repeat (first | rw [up2_eq] | rw [up2_ne (by omega)]))
    · (repeat (first | rw [up2_eq] | rw [up2_ne (by omega)]))
  have hg2e : ∀ r w, ¬ (r = 116 ∧ w = p) → ¬ (r = 111 ∧ w = p) → ¬ (r = 117 ∧ w = p) → ¬ (r = 121 ∧ w = 402 * p + (Γ p).hi) → g2 r w = g0 r w := by
    intro r w a b c d
    rw [← hg1e r w a b]
    subst hg2
    unfold tcnt
    (repeat (first | rw [up2_eq] | rw [up2_ne (by omega)]))
  have hg2o : ∀ r w, ¬ (r = 116 ∧ w = p) → ¬ (r = 111 ∧ w = p) → ¬ (r = 117 ∧ w = p) → ¬ (119 ≤ r ∧ r ≤ 121 ∧ w = 402 * p + (Γ p).hi) → ¬ (r = 118 ∧ 402 * p + (Γ p).hi ≤ w ∧ w < 402 * p + (Γ p).hi + m) → ¬ (r = 122 ∧ 402 * p + u ≤ w ∧ w < 402 * p + u + m) → ¬ (r = 123 ∧ u ≤ w ∧ w < u + m) → g2 r w = g r w := by
    intro r w a b c d e e2 e3
    rw [hg2e r w a b c (by omega), hg0e r w e e2 e3 (by omega) (by omega)]
  have hcx : CX θ.now θ.ln p ((Γ p).add θ.now (Γ p).st m u m (plu (Γ p).pl u m (Γ p).hi)) F3 R g2 := by
    refine CX_add (h.rw.sg p hp) hx hs3 (by omega) hm7 hhm hx.st4 (by omega) (by omega) (by omega) hn (fun a b => by omega) ?_ ?_ ?_ ?_ ?_ ?_ ?_ ?_ ?_ ?_ ?_ ?_ ?_ ?_ ?_ ?_ ?_ ?_ ?_ ?_ ?_ ?_ ?_ ?_ (fun a => by omega) (fun _ => ⟨rfl, hum, fun i hi => ?_⟩) (fun _ i hi => ?_) (fun w a b => ?_) (fun w a => ?_) (fun w hw => ?_) (fun w hw a => ?_) (by omega)
    · subst hF3; unfold ctr; (repeat (first | rw [up2_eq] | rw [up2_ne (by omega)])); rw [hF2e _ _ (by omega)]; subst hF1; unfold cadd_F; (repeat (first | rw [up2_eq] | rw [up2_ne (by omega)]))
    · subst hF3; unfold ctr; (repeat (first | rw [up2_eq] | rw [up2_ne (by omega)])); rw [hF2e _ _ (by omega)]; subst hF1; unfold cadd_F; (repeat (first | rw [up2_eq] | rw [up2_ne (by omega)]))
    · subst hF3; unfold ctr; (repeat (first | rw [up2_eq] | rw [up2_ne (by omega)])); rw [hF2e _ _ (by omega)]; subst hF1; unfold cadd_F; (repeat (first | rw [up2_eq] | rw [up2_ne (by omega)]))
    · subst hF3; unfold ctr; (repeat (first | rw [up2_eq] | rw [up2_ne (by omega)])); rw [hF2e _ _ (by omega)]; subst hF1; unfold cadd_F; (repeat (first | rw [up2_eq] | rw [up2_ne (by omega)]))
    · subst hF3; unfold ctr; (repeat (first | rw [up2_eq] | rw [up2_ne (by omega)])); rw [hF2e _ _ (by omega)]; subst hF1; unfold cadd_F; (repeat (first | rw [up2_eq] | rw [up2_ne (by omega)])); rfl
    · subst hF3; unfold ctr; (repeat (first | rw [up2_eq] | rw [up2_ne (by omega)]))
    · rw [hF3e _ _ (by omega) (by omega), hF2e _ _ (by omega)]; subst hF1; unfold cadd_F; (repeat (first | rw [up2_eq] | rw [up2_ne (by omega)]))
    · rw [hF3e _ _ (by omega) (by omega), hF2e _ _ (by omega)]; subst hF1; unfold cadd_F; (repeat (first | rw [up2_eq] | rw [up2_ne (by omega)]))
    · rw [hF3a _ (by omega) (by omega) (by omega) (by omega)]; exact hx.f5
    · rw [hF3a _ (by omega) (by omega) (by omega) (by omega), hg2o _ _ (by omega) (by omega) (by omega) (by omega) (by omega) (by omega) (by omega)]; exact hx.f6
    · rw [hF3a _ (by omega) (by omega) (by omega) (by omega), hg2o _ _ (by omega) (by omega) (by omega) (by omega) (by omega) (by omega) (by omega)]; exact hx.f7
    · rw [hF3e _ _ (by omega) (by omega)]; exact hF9
    · subst hF3; unfold ctr; (repeat (first | rw [up2_eq] | rw [up2_ne (by omega)])); rw [hF2e _ _ (by omega), hF1e _ _ (by omega) (by omega), hF0e _ _ (by omega)]
    · intro k hk; exact hF3a _ (by omega) (by omega) (by omega) (by omega)
    · intro i k a b c; exact hF3o i k (by omega) c (by omega)
    · rw [hg2o _ _ (by omega) (by omega) (by omega) (by omega) (by omega) (by omega) (by omega)]; exact hx.g107
    · subst hg2; unfold tcnt; (repeat (first | rw [up2_eq] | rw [up2_ne (by omega)])); subst hg1
      by_cases e : (Γ p).tm = 0
      · rw [if_pos e, if_neg (fun q => q (hz0.mpr e)), up2_eq, f3, k10, nI_add]
      · rw [if_neg e, if_pos (fun q => e (hz0.mp q)), up2_ne (by omega), k11, hx.g111]
    · subst hg2; unfold tcnt; (repeat (first | rw [up2_eq] | rw [up2_ne (by omega)])); subst hg1; split <;> (repeat (first | rw [up2_eq] | rw [up2_ne (by omega)]))
    · subst hg2; unfold tcnt; (repeat (first | rw [up2_eq] | rw [up2_ne (by omega)])); rw [hg1e _ _ (by omega) (by omega), hg0e _ _ (by omega) (by omega) (by omega) (by omega) (by omega)]
    · intro r hr; exact hg2o _ _ (by omega) (by omega) (by omega) (by omega) (by omega) (by omega) (by omega)
    · rw [hg2e _ _ (by omega) (by omega) (by omega) (by omega)]; exact hg9
    · rw [hg2e _ _ (by omega) (by omega) (by omega) (by omega)]; exact hg10
    · subst hg2; unfold tcnt; (repeat (first | rw [up2_eq] | rw [up2_ne (by omega)])); rw [hg1e _ _ (by omega) (by omega), hg0e _ _ (by omega) (by omega) (by omega) (by omega) (by omega), hx.z3 _ (Nat.le_refl _) (by omega)]; rfl
    · intro r w a b c e; exact hg2o _ _ (by omega) (by omega) (by omega) (by omega) (by omega) (by omega) (by omega)
    · rw [plu_in (by omega), show u + i - u = i from by omega]
    · rw [hg2e _ _ (by omega) (by omega) (by omega) (by omega), ← Nat.add_assoc]; exact (hg0n i hi).1
    · exact hg2o _ _ (by omega) (by omega) (by omega) (by omega) (by omega) (by omega) (by omega)
    · refine plu_out (fun q => ?_)
      have := hpl (w - u) (by omega)
      rw [show u + (w - u) = w from by omega] at this
      omega
    · rw [hg2e _ _ (by omega) (by omega) (by omega) (by omega)]
      by_cases e : u ≤ w ∧ w < u + m
      · rw [plu_in e]
        have := (hg0n (w - u) (by omega)).2
        rwa [show 402 * p + u + (w - u) = 402 * p + w from by omega] at this
      · rw [plu_out e, hg0e _ _ (by omega) (by omega) (by omega) (by omega) (by omega)]
        exact hx.pg w hw
    · by_cases e : u ≤ w ∧ w < u + m
      · rw [plu_in e]
        refine ⟨by omega, ?_⟩
        rw [hg2e _ _ (by omega) (by omega) (by omega) (by omega)]
        have := (hg0n (w - u) (by omega)).1
        rwa [Nat.add_assoc, show u + (w - u) = w from by omega] at this
      · rw [plu_out e] at a ⊢
        obtain ⟨d1, d2⟩ := hx.pu w hw a
        refine ⟨by omega, ?_⟩
        rw [hg2o _ _ (by omega) (by omega) (by omega) (by omega) (by omega) (by omega) (by omega)]
        exact d2
  have hcy : CY θ.ln p ((Γ p).add θ.now (Γ p).st m u m (plu (Γ p).pl u m (Γ p).hi)) F3 R g2 := CY_congr (h.rw.pf p hp) (h.rw.pb p hp) hy (Nat.le_refl _) (Nat.le_add_right _ _) rfl rfl (fun e => e) rfl rfl (fun i k a b => hF3o i k (by omega) (by omega) (by omega)) (fun q hq => hg2o _ _ (by omega) (by omega) (by omega) (by omega) (by omega) (by omega) (by omega)) (fun q r k hq a b c => hg2o _ _ (by omega) (by omega) (by omega) (by omega) (by omega) (by omega) (by omega))
  have hct2 : CT θ F3 G0 f0 g2 := by
    refine CT_carry h.ct (fun i k a b c => hF3o i k (by omega) (by omega) c) (fun i a b c => hG0e i c) (fun k a => hf0e _ _ (by omega)) (fun r a => ?_) ?_ (fun v hv => ?_)
    · funext w
      exact hg2o _ _ (by omega) (by omega) (by omega) (by omega) (by omega) (by omega) (by omega)
    · rw [hF3e _ _ (by omega) (by omega), hF2e _ _ (by omega), hF1e _ _ (by omega) (by omega)]
      exact hctb.1
    · rw [hg2e _ _ (by omega) (by omega) (by omega) (by omega)]
      exact hctb.2 v hv
  have h2 : CI θ (upG Γ p ((Γ p).add θ.now (Γ p).st m u m (plu (Γ p).pl u m (Γ p).hi))) F3 G0 R f0 g2 := by
    refine CI_step h hp h.rw (fun i k a b c => hF3o i k (by omega) (by omega) (by omega)) (fun _ _ _ _ => rfl) (fun r q a b c => hg2o _ _ (by omega) (by omega) (by omega) (by omega) (by omega) (by omega) (by omega)) (fun r w a b c => hg2o _ _ (by omega) (by omega) (by omega) (by omega) (by omega) (by omega) (by omega)) (fun q a b => hg2o _ _ (by omega) (by omega) (by omega) (by omega) (by omega) (by omega) (by omega)) (fun r w a b c => hg2o _ _ (by omega) (by omega) (by omega) (by omega) (by omega) (by omega) (by omega)) rfl rfl hct2 (fun v hv => ?_) hcx hcy
    rw [hG0e 90 (by omega), h.st v hv]
    have key : ∀ q, (0 < (upG Γ p ((Γ p).add θ.now (Γ p).st m u m (plu (Γ p).pl u m (Γ p).hi)) q).pl v ∧ (upG Γ p ((Γ p).add θ.now (Γ p).st m u m (plu (Γ p).pl u m (Γ p).hi)) q).pl v < (upG Γ p ((Γ p).add θ.now (Γ p).st m u m (plu (Γ p).pl u m (Γ p).hi)) q).lw) ↔ (0 < (Γ q).pl v ∧ (Γ q).pl v < (Γ q).lw) := by
      intro q
      by_cases e : q = p
      · subst e
        rw [upG_eq]
        show (0 < plu (Γ q).pl u m (Γ q).hi v ∧ plu (Γ q).pl u m (Γ q).hi v < (Γ q).lw) ↔ _
        by_cases e2 : u ≤ v ∧ v < u + m
        · rw [plu_in e2]
          have := hpl (v - u) (by omega)
          rw [show u + (v - u) = v from by omega] at this
          omega
        · rw [plu_out e2]
      · rw [upG_ne e]
    constructor
    · intro a q hq c
      exact a q hq ((key q).mp c)
    · intro a q hq c
      exact a q hq ((key q).mpr c)
  have hF36 : F3 (5 + 21 * p) 6 = F (5 + 21 * p) 6 := hF3a _ (by omega) (by omega) (by omega) (by omega)
  have h3 := CI_shipf (k1 := nI 1) (k2 := nI m) (k3 := nI (Γ p).hi) (k4 := nI u) (k5 := clast G0 (u + m - 1) θ.ln) (t := nI θ.now) h2 hp (by rw [upG_eq]; show ¬ ((Γ p).st = 4 ∨ (Γ p).st = 0); omega) rfl (.inr ⟨rfl, (Γ p).hi, u, m, rfl, rfl, rfl, hm0, hm7, by omega, by rw [upG_eq]; exact Nat.le_refl _, hum⟩)
  rw [upG_eq, upG_upG] at h3
  unfold shn at h3 ⊢
  rw [hF36] at h3
  · have t1 : g1 118 (402 * p + (Γ p).hi) = nI u := by
      rw [hg1e _ _ (by omega) (by omega)]
      exact (hg0n 0 hm0).1
    have t2 : g1 119 (402 * p + (Γ p).hi) = nI m := by
      rw [hg1e _ _ (by omega) (by omega)]
      exact hg9
    have t3 : tlast f0 g1 p (Γ p).hi = clast G0 (u + m - 1) θ.ln := by
      unfold tlast
      rw [t1, t2]
      exact last_same hct2 hm0 hum
    unfold ctr1_F cns_F cns_G
    show CI θ _ _ _ R (tbn p u (Γ p).hi m 0 (f, tb0 f g p m (Γ p).hi)).1 (bend (tbn p u (Γ p).hi m 0 (f, tb0 f g p m (Γ p).hi)).1 (tbn p u (Γ p).hi m 0 (f, tb0 f g p m (Γ p).hi)).2 p m (Γ p).hi (Γ p).fl)
    rw [← hf0, ← hg0, ebend, trans_1 (by omega), t1, t2, t3, ← hg2, ← hF0, ← hG0, ← hF1, ← hF2, ← hF3]
    exact h3
