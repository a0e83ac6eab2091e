/-! THE COUPLING, second part: pipes, and how a step on one path is put together. -/
theorem tsh1_at {M : FN} {j r i : Nat} (h1 : 125 ≤ r) (h2 : r ≤ 130) : tsh1 M j r i = if i = j then M r (j + 1) else M r i := by
  have h : r = 125 ∨ r = 126 ∨ r = 127 ∨ r = 128 ∨ r = 129 ∨ r = 130 := by omega
  unfold tsh1
  by_cases e : i = j
  · subst e
    rw [if_pos rfl]
    rcases h with rfl | rfl | rfl | rfl | rfl | rfl <;> simp [up2]
  · rw [if_neg e]
    rcases h with rfl | rfl | rfl | rfl | rfl | rfl <;> simp [up2, e]
theorem tsh1_row {M : FN} {j r : Nat} (h : r < 125 ∨ 130 < r) : tsh1 M j r = M r := by
  unfold tsh1
  rw [up2_row (by omega), up2_row (by omega), up2_row (by omega), up2_row (by omega), up2_row (by omega), up2_row (by omega)]
theorem tsh_at {r i : Nat} (h1 : 125 ≤ r) (h2 : r ≤ 130) : ∀ (n j : Nat) (M : FN), tsh n j M r i = if j ≤ i ∧ i < j + n then M r (i + 1) else M r i
  | 0, j, M => by rw [tsh, if_neg (by omega)]
  | n + 1, j, M => by
    rw [tsh, tsh_at h1 h2 n (j + 1), tsh1_at h1 h2, tsh1_at h1 h2]
    by_cases e : i = j
    · subst e
      rw [if_neg (by omega), if_pos rfl, if_pos (by omega)]
    · by_cases e2 : j ≤ i ∧ i < j + (n + 1)
      · rw [if_pos (by omega), if_neg (by omega), if_pos e2]
      · rw [if_neg (by omega), if_neg e, if_neg e2]
theorem tsh_row {r : Nat} (h : r < 125 ∨ 130 < r) : ∀ (n j : Nat) (M : FN), tsh n j M r = M r
  | 0, _, _ => rfl
  | n + 1, j, M => by rw [tsh, tsh_row h n, tsh1_row h]
theorem tdrop_at {g : FN} {q n kk r i : Nat} (h1 : 125 ≤ r) (h2 : r ≤ 130) : tdrop g q n kk r i = if 6 * q + kk ≤ i ∧ i < 6 * q + kk + (n - 1 - kk) then g r (i + 1) else g r i := by
  unfold tdrop
  rw [tsh_at h1 h2, up2_row (by omega)]
theorem tdrop_124 {g : FN} {q n kk : Nat} : tdrop g q n kk 124 = up2 g 124 q (nI (n - 1)) 124 := by
  unfold tdrop
  rw [tsh_row (by omega)]
theorem tdrop_row {g : FN} {q n kk r : Nat} (h : r < 124 ∨ 130 < r) : tdrop g q n kk r = g r := by
  unfold tdrop
  rw [tsh_row (by omega), up2_row (by omega)]
theorem tout_rx {R : RN} {e n kk k : Nat} (hk : kk < n) : rx (tout_R R e n kk (rx R (e + 1) kk)) (e + 1) k = if k = n - 1 then rx R (e + 1) kk else if kk ≤ k ∧ k < n - 1 then rx R (e + 1) (k + 1) else rx R (e + 1) k := by
  unfold tout_R
  by_cases h : k = n - 1
  · subst h
    rw [if_pos rfl]
    unfold rx
    rw [up2_eq]
    rfl
  · rw [if_neg h]
    unfold rx
    rw [up2_ne2 h, cro_at _ _ _ (by omega)]
    by_cases h2 : kk ≤ k ∧ k < n - 1
    · rw [if_pos (by omega), if_pos h2]
    · rw [if_neg (by omega), if_neg h2]
theorem tout_row {R : RN} {e n kk x0 i : Nat} (h : ¬ i = e + 1) : tout_R R e n kk x0 i = R i := by
  unfold tout_R
  rw [up2_row h, cro_row h]
theorem tout_pipR {R : RN} {e n kk : Nat} (hR : pipR e R) (h6 : n ≤ 6) (hk : kk < n) : pipR e (tout_R R e n kk (rx R (e + 1) kk)) := by
  refine ⟨fun k hk6 => ⟨?_, ?_⟩, fun j k hj hk6 e1 => ?_⟩
  · rw [tout_rx hk]
    unfold tout_R
    by_cases h : k = n - 1
    · subst h
      rw [if_pos rfl, up2_eq]
    · rw [if_neg h, up2_ne2 h, cro_at _ _ _ (by omega)]
      by_cases h2 : kk ≤ k ∧ k < n - 1
      · rw [if_pos (by omega), if_pos h2]; exact (hR.1 _ (by omega)).1
      · rw [if_neg (by omega), if_neg h2]; exact (hR.1 _ hk6).1
  · rw [tout_rx hk]
    split
    · exact (hR.1 kk (by omega)).2
    · split
      · exact (hR.1 (k + 1) (by omega)).2
      · exact (hR.1 k hk6).2
  · rw [tout_rx hk, tout_rx hk] at e1
    split at e1
    · split at e1
      · omega
      · split at e1
        · have := hR.2 _ _ (by omega) (by omega) e1; omega
        · have := hR.2 _ _ (by omega) (by omega) e1; omega
    · split at e1
      · split at e1
        · have := hR.2 _ _ (by omega) (by omega) e1; omega
        · split at e1
          · have := hR.2 _ _ (by omega) (by omega) e1; omega
          · have := hR.2 _ _ (by omega) (by omega) e1; omega
      · split at e1
        · have := hR.2 _ _ (by omega) (by omega) e1; omega
        · split at e1
          · have := hR.2 _ _ (by omega) (by omega) e1; omega
          · have := hR.2 _ _ (by omega) (by omega) e1; omega
theorem PQ_drop {F : FN} {R : RN} {e q n kk : Nat} {g : FN} (hR : pipR e R) (h : PQ F R e g q n) (hk : kk < n) : PQ (tout_F F e n) (tout_R R e n kk (rx R (e + 1) kk)) e (tdrop g q n kk) q (n - 1) := by
  obtain ⟨d1, d2, d3, d4⟩ := h
  refine ⟨by omega, up2_eq, by rw [tdrop_124, up2_eq], fun k hk1 => ?_⟩
  rw [tout_rx hk, if_neg (by omega), tdrop_at (by omega) (by omega), tdrop_at (by omega) (by omega), tdrop_at (by omega) (by omega), tdrop_at (by omega) (by omega), tdrop_at (by omega) (by omega), tdrop_at (by omega) (by omega)]
  have hb : ∀ j c, j < 6 → tout_F F e n (rx R (e + 1) j) c = F (rx R (e + 1) j) c := fun j c hj => up2_ne (by have := hR.1 j hj; omega)
  by_cases c : kk ≤ k
  · have hc : (6 * q + kk ≤ 6 * q + k ∧ 6 * q + k < 6 * q + kk + (n - 1 - kk)) := by omega
    rw [if_pos ⟨c, hk1⟩, hb _ _ (by omega), hb _ _ (by omega), hb _ _ (by omega), hb _ _ (by omega), hb _ _ (by omega), hb _ _ (by omega)]
    simp only [if_pos hc]
    exact d4 (k + 1) (by omega)
  · have hc : ¬ (6 * q + kk ≤ 6 * q + k ∧ 6 * q + k < 6 * q + kk + (n - 1 - kk)) := by omega
    rw [if_neg (by omega), hb _ _ (by omega), hb _ _ (by omega), hb _ _ (by omega), hb _ _ (by omega), hb _ _ (by omega), hb _ _ (by omega)]
    simp only [if_neg hc]
    exact d4 k (by omega)
theorem tput_at {g : FN} {q n r i : Nat} {x1 x2 x3 x4 x5 x6 : Int32} (h1 : 125 ≤ r) (h2 : r ≤ 130) (hi : ¬ i = 6 * q + n) : tput g q n x1 x2 x3 x4 x5 x6 r i = g r i := by
  unfold tput
  rw [up2_ne (by omega), up2_ne (by omega), up2_ne (by omega), up2_ne (by omega), up2_ne (by omega), up2_ne (by omega), up2_ne (by omega)]
theorem tput_row {g : FN} {q n r : Nat} {x1 x2 x3 x4 x5 x6 : Int32} (h : r < 124 ∨ 130 < r) : tput g q n x1 x2 x3 x4 x5 x6 r = g r := by
  unfold tput
  rw [up2_row (by omega), up2_row (by omega), up2_row (by omega), up2_row (by omega), up2_row (by omega), up2_row (by omega), up2_row (by omega)]
theorem tput_124 {g : FN} {q n : Nat} {x1 x2 x3 x4 x5 x6 : Int32} : tput g q n x1 x2 x3 x4 x5 x6 124 = up2 g 124 q (nI (n + 1)) 124 := by
  funext i
  unfold tput
  by_cases h : i = q
  · subst h
    rw [up2_eq, up2_eq]
  · rw [up2_ne2 h, up2_ne2 h, up2_ne (by omega), up2_ne (by omega), up2_ne (by omega), up2_ne (by omega), up2_ne (by omega), up2_ne (by omega)]
theorem tput_new {g : FN} {q n : Nat} {x1 x2 x3 x4 x5 x6 : Int32} : tput g q n x1 x2 x3 x4 x5 x6 125 (6 * q + n) = x1 ∧ tput g q n x1 x2 x3 x4 x5 x6 126 (6 * q + n) = x2 ∧ tput g q n x1 x2 x3 x4 x5 x6 127 (6 * q + n) = x3 ∧ tput g q n x1 x2 x3 x4 x5 x6 128 (6 * q + n) = x4 ∧ tput g q n x1 x2 x3 x4 x5 x6 129 (6 * q + n) = x5 ∧ tput g q n x1 x2 x3 x4 x5 x6 130 (6 * q + n) = x6 := by
  unfold tput
  refine ⟨?_, ?_, ?_, ?_, ?_, ?_⟩ <;> simp [up2]
/-- what filling a copy writes -/
def cput (F : FN) (e x n : Nat) (d k1 k2 k3 k4 k5 : Int32) : FN := cfill_F (append_F F e x n d) x k1 k2 k3 k4 k5
theorem cput_ne {F : FN} {e x n i k : Nat} {d k1 k2 k3 k4 k5 : Int32} (h1 : ¬ i = x) (h2 : ¬ (i = e ∧ k = 1)) : cput F e x n d k1 k2 k3 k4 k5 i k = F i k := by
  unfold cput cfill_F append_F
  rw [up2_ne1 h1, up2_ne1 h1, up2_ne1 h1, up2_ne1 h1, up2_ne1 h1, up2_ne h2, up2_ne1 h1]
theorem PQ_put {F : FN} {R : RN} {e q n : Nat} {g : FN} {d k1 k2 k3 k4 k5 : Int32} (hR : pipR e R) (h : PQ F R e g q n) (hn : n < 6) : PQ (cput F e (rx R (e + 1) n) n d k1 k2 k3 k4 k5) R e (tput g q n k1 k3 k4 k5 k2 d) q (n + 1) := by
  obtain ⟨d1, d2, d3, d4⟩ := h
  have hx := (hR.1 n hn).2
  refine ⟨by omega, ?_, by rw [tput_124, up2_eq], fun k hk => ?_⟩
  · unfold cput cfill_F append_F
    rw [up2_ne1 (by omega), up2_ne1 (by omega), up2_ne1 (by omega), up2_ne1 (by omega), up2_ne1 (by omega), up2_eq]
  · by_cases e1 : k = n
    · subst e1
      obtain ⟨t1, t2, t3, t4, t5, t6⟩ := tput_new (g := g) (q := q) (n := k) (x1 := k1) (x2 := k3) (x3 := k4) (x4 := k5) (x5 := k2) (x6 := d)
      rw [t1, t2, t3, t4, t5, t6]
      have hxe : ¬ rx R (e + 1) k = e := by omega
      unfold cput cfill_F append_F
      refine ⟨?_, ?_, ?_, ?_, ?_, ?_⟩ <;> simp [up2, hxe]
    · have hne : ¬ rx R (e + 1) k = rx R (e + 1) n := fun q => e1 (hR.2 _ _ (by omega) (by omega) q)
      have hx2 := (hR.1 k (by omega)).2
      have hb : ∀ c, cput F e (rx R (e + 1) n) n d k1 k2 k3 k4 k5 (rx R (e + 1) k) c = F (rx R (e + 1) k) c := fun c => cput_ne hne (by omega)
      rw [hb, hb, hb, hb, hb, hb, tput_at (by omega) (by omega) (by omega), tput_at (by omega) (by omega) (by omega), tput_at (by omega) (by omega) (by omega), tput_at (by omega) (by omega) (by omega), tput_at (by omega) (by omega) (by omega), tput_at (by omega) (by omega) (by omega)]
      exact d4 k (by omega)
/-! a step on path p -/
def upG (Γ : Nat → PG) (p : Nat) (γ : PG) : Nat → PG := fun q => if q = p then γ else Γ q
theorem upG_eq {Γ : Nat → PG} {p : Nat} {γ : PG} : upG Γ p γ p = γ := if_pos rfl
theorem upG_ne {Γ : Nat → PG} {p q : Nat} {γ : PG} (h : ¬ q = p) : upG Γ p γ q = Γ q := if_neg h
theorem CT_congr {θ : TG} {F G f g F2 G2 f2 g2 : FN} (h : CT θ F G f g) (h1 : ∀ i k, i < 4 ∨ 89 ≤ i → i < 103 → F2 i k = F i k) (h2 : ∀ i, i < 103 → ¬ i = 90 → G2 i = G i) (h3 : ∀ k, f2 103 k = f 103 k) (h4 : ∀ r, (104 ≤ r ∧ r ≤ 106) ∨ r = 123 → g2 r = g r) : CT θ F2 G2 f2 g2 := by
  refine CT.mk ?_ ?_ ?_ ?_ ?_ ?_ h.en1 h.lc h.ct4 ?_ h.tx2 ?_ ?_ ?_ h.kl ?_ ?_ h.ed4 ?_ ?_ h.ms1 h.ms7 ?_ ?_ ?_ ?_ ?_ h.bu5 ?_ ?_ ?_ ?_ ?_ ?_ ?_ h.nxr ?_ ?_ ?_ ?_ ?_
  · rw [h1 _ _ (by omega) (by omega)]; exact h.n1
  · rw [h3]; exact h.n2
  · rw [h1 _ _ (by omega) (by omega)]; exact h.l1
  · rw [h1 _ _ (by omega) (by omega)]; exact h.l2
  · rw [h3]; exact h.l3
  · rw [h3]; exact h.l4
  · rw [h4 _ (by omega)]; exact h.tx1
  · rw [h2 _ (by omega) (by omega)]; exact h.vl
  · rw [h1 _ _ (by omega) (by omega)]; exact h.a5
  · rw [h3]; exact h.fa5
  · rw [h1 _ _ (by omega) (by omega)]; exact h.a6
  · rw [h3]; exact h.fa6
  · rw [h1 _ _ (by omega) (by omega)]; exact h.a2
  · rw [h3]; exact h.fa2
  · rw [h1 _ _ (by omega) (by omega), h3]; exact h.a7
  · rw [h1 _ _ (by omega) (by omega), h3]; exact h.a8
  · rw [h2 _ (by omega) (by omega), h4 _ (by omega)]; exact h.a9
  · rw [h1 _ _ (by omega) (by omega)]; exact h.b1
  · rw [h3]; exact h.fb1
  · rw [h1 _ _ (by omega) (by omega), h3]; exact h.b2
  · rw [h1 _ _ (by omega) (by omega), h3]; exact h.b0
  · rw [h1 _ _ (by omega) (by omega)]; exact h.b5
  · rw [h4 _ (by omega)]; exact h.rcl
  · rw [h4 _ (by omega)]; exact h.hu
  · rw [h1 _ _ (by omega) (by omega)]; exact h.b6
  · rw [h3]; exact h.fb6
  · rw [h1 _ _ (by omega) (by omega), h3]; exact h.b7
  · rw [h2 _ (by omega) (by omega), h4 _ (by omega)]; exact h.b4
  · intro p hp
    rw [h1 _ _ (by omega) (by omega)]; exact h.e1 p hp
  · rw [h4 _ (by omega)]; exact h.e2
  · intro p hp
    rw [h2 _ (by omega) (by omega), h4 _ (by omega)]; exact h.e3 p hp
/-- a step that changes path p, and of the rest what hct and hst say -/
theorem CI_step {θ θ2 : TG} {Γ : Nat → PG} {F G f g F2 G2 f2 g2 : FN} {R R2 : RN} {p : Nat} {γ2 : PG} (h : CI θ Γ F G R f g) (hp : p < 4) (hR : RW R2)
    (hF : ∀ i k, 5 ≤ i → i < 89 → ¬ (5 + 21 * p ≤ i ∧ i ≤ 5 + 21 * p + 20) → F2 i k = F i k) (hRr : ∀ i, 5 ≤ i → i < 89 → ¬ (5 + 21 * p ≤ i ∧ i ≤ 5 + 21 * p + 20) → R2 i = R i)
    (hg2 : ∀ r q, 107 ≤ r → r ≤ 117 → ¬ q = p → g2 r q = g r q) (hg3 : ∀ r m, 118 ≤ r → r ≤ 122 → (m < 402 * p ∨ 402 * p + 402 ≤ m) → g2 r m = g r m)
    (hg4 : ∀ q, ¬ q = 2 * p → ¬ q = 2 * p + 1 → g2 124 q = g 124 q) (hg5 : ∀ r m, 125 ≤ r → r ≤ 130 → (m < 12 * p ∨ 12 * p + 12 ≤ m) → g2 r m = g r m)
    (hnow : θ2.now = θ.now) (hln : θ2.ln = θ.ln) (hct : CT θ2 F2 G2 f2 g2) (hst : ∀ u, u < 401 → (G2 90 u = 0 ↔ ∀ q, q < 4 → ¬ (0 < (upG Γ p γ2 q).pl u ∧ (upG Γ p γ2 q).pl u < (upG Γ p γ2 q).lw)))
    (hx : CX θ.now θ.ln p γ2 F2 R2 g2) (hy : CY θ.ln p γ2 F2 R2 g2) : CI θ2 (upG Γ p γ2) F2 G2 R2 f2 g2 := by
  refine CI.mk hR hct hst (fun q hq => ?_) (fun q hq => ?_)
  · rw [hnow, hln]
    by_cases e : q = p
    · subst e
      rw [upG_eq]
      exact hx
    · rw [upG_ne e]
      exact CX_congr (h.rw.sg q hq) (h.px q hq) (Nat.le_refl _) (hRr _ (by omega) (by omega) (by omega)) (fun k _ => hF _ _ (by omega) (by omega) (by omega)) (fun i k a b => hF _ _ (by omega) (by omega) (by omega)) (fun r a b => hg2 r q a b e) (fun r m a b c => hg3 r _ a b (by omega))
  · rw [hln]
    by_cases e : q = p
    · subst e
      rw [upG_eq]
      exact hy
    · rw [upG_ne e]
      exact CY_congr (h.rw.pf q hq) (h.rw.pb q hq) (h.py q hq) (Nat.le_refl _) (Nat.le_refl _) rfl rfl id (hRr _ (by omega) (by omega) (by omega)) (hRr _ (by omega) (by omega) (by omega)) (fun i k a b => hF _ _ (by omega) (by omega) (by omega)) (fun s hs => hg4 s (by omega) (by omega)) (fun s r k hs a b c => hg5 r _ a b (by omega))
/-- the same where nothing but path p changes, and neither its places nor its low number -/
theorem CI_step1 {θ : TG} {Γ : Nat → PG} {F G f g F2 g2 : FN} {R R2 : RN} {p : Nat} {γ2 : PG} (h : CI θ Γ F G R f g) (hp : p < 4) (hR : RW R2)
    (hF : ∀ i k, ¬ (5 + 21 * p ≤ i ∧ i ≤ 5 + 21 * p + 20) → F2 i k = F i k) (hRr : ∀ i, ¬ (5 + 21 * p ≤ i ∧ i ≤ 5 + 21 * p + 20) → R2 i = R i)
    (hg1 : ∀ r, r < 107 ∨ r = 123 → g2 r = g r) (hg2 : ∀ r q, 107 ≤ r → r ≤ 117 → ¬ q = p → g2 r q = g r q) (hg3 : ∀ r m, 118 ≤ r → r ≤ 122 → (m < 402 * p ∨ 402 * p + 402 ≤ m) → g2 r m = g r m)
    (hg4 : ∀ q, ¬ q = 2 * p → ¬ q = 2 * p + 1 → g2 124 q = g 124 q) (hg5 : ∀ r m, 125 ≤ r → r ≤ 130 → (m < 12 * p ∨ 12 * p + 12 ≤ m) → g2 r m = g r m)
    (h1 : γ2.pl = (Γ p).pl) (h2 : γ2.lw = (Γ p).lw) (hx : CX θ.now θ.ln p γ2 F2 R2 g2) (hy : CY θ.ln p γ2 F2 R2 g2) : CI θ (upG Γ p γ2) F2 G R2 f g2 := by
  refine CI_step h hp hR (fun i k _ _ a => hF i k a) (fun i _ _ a => hRr i a) hg2 hg3 hg4 hg5 rfl rfl (CT_congr h.ct (fun i k a b => hF i k (by omega)) (fun _ _ _ => rfl) (fun _ => rfl) (fun r a => hg1 r (by omega))) (fun u hu => ?_) hx hy
  rw [h.st u hu]
  constructor
  · intro a q hq
    by_cases e : q = p
    · subst e
      rw [upG_eq, h1, h2]
      exact a q hq
    · rw [upG_ne e]
      exact a q hq
  · intro a q hq
    have a := a q hq
    by_cases e : q = p
    · subst e
      rw [upG_eq, h1, h2] at a
      exact a
    · rw [upG_ne e] at a
      exact a
