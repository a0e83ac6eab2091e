/-! THE COUPLING, thirteenth part: the path that gets the next segment. -/
def fb1 (c : Nat → Bool) (rk : Nat → Int) (p : Nat) (bo : Option Nat) : Option Nat := if c p = true then (match bo with
  | none => some p
  | some b => if rk p < rk b then some p else some b) else bo
def fb (c : Nat → Bool) (rk : Nat → Int) : Nat → Nat → Option Nat → Option Nat
  | 0, _, bo => bo
  | n + 1, p, bo => fb c rk n (p + 1) (fb1 c rk p bo)
def best (c : Nat → Bool) (rk : Nat → Int) (m : Nat) (o : Option Nat) : Prop := match o with
  | none => ∀ p, p < m → c p = false
  | some b => b < m ∧ c b = true ∧ ∀ p, p < m → c p = true → rk b ≤ rk p ∧ (p < b → rk b < rk p)
theorem best_step {c : Nat → Bool} {rk : Nat → Int} {m : Nat} {o : Option Nat} (h : best c rk m o) : best c rk (m + 1) (fb1 c rk m o) := by
  unfold fb1
  by_cases e : c m = true
  · rw [if_pos e]
    cases o with
    | none =>
      refine ⟨by omega, e, fun p hp hc => ?_⟩
      by_cases e2 : p = m
      · subst e2
        exact ⟨Int.le_refl _, fun q => by omega⟩
      · have := h p (by omega)
        rw [this] at hc
        exact absurd hc (by decide)
    | some b =>
      obtain ⟨h1, h2, h3⟩ := h
      dsimp only
      by_cases e3 : rk m < rk b
      · rw [if_pos e3]
        refine ⟨by omega, e, fun p hp hc => ?_⟩
        by_cases e2 : p = m
        · subst e2
          exact ⟨Int.le_refl _, fun q => by omega⟩
        · have := h3 p (by omega) hc
          omega
      · rw [if_neg e3]
        refine ⟨by omega, h2, fun p hp hc => ?_⟩
        by_cases e2 : p = m
        · subst e2
          exact ⟨by omega, fun q => by omega⟩
        · exact h3 p (by omega) hc
  · rw [if_neg e]
    have e : c m = false := by
      cases hc : c m with
      | true => exact absurd hc e
      | false => rfl
    cases o with
    | none =>
      intro p hp
      by_cases e2 : p = m
      · subst e2; exact e
      · exact h p (by omega)
    | some b =>
      obtain ⟨h1, h2, h3⟩ := h
      refine ⟨by omega, h2, fun p hp hc => ?_⟩
      by_cases e2 : p = m
      · subst e2
        rw [e] at hc
        exact absurd hc (by decide)
      · exact h3 p (by omega) hc
theorem best_fb {c : Nat → Bool} {rk : Nat → Int} : ∀ (n p : Nat) (o : Option Nat), best c rk p o → best c rk (p + n) (fb c rk n p o)
  | 0, _, _, h => h
  | n + 1, p, o, h => by
    rw [fb, show p + (n + 1) = p + 1 + n from by omega]
    exact best_fb n (p + 1) _ (best_step h)
theorem best_0 {c : Nat → Bool} {rk : Nat → Int} : best c rk 0 none := fun p hp => absurd hp (Nat.not_lt_zero p)
theorem best_uniq {c : Nat → Bool} {rk : Nat → Int} {m : Nat} {o1 o2 : Option Nat} (h1 : best c rk m o1) (h2 : best c rk m o2) : o1 = o2 := by
  cases o1 with
  | none =>
    cases o2 with
    | none => rfl
    | some b =>
      have := h1 b h2.1
      rw [h2.2.1] at this
      exact absurd this (by decide)
  | some a =>
    cases o2 with
    | none =>
      have := h2 a h1.1
      rw [h1.2.1] at this
      exact absurd this (by decide)
    | some b =>
      have x := h1.2.2 b h2.1 h2.2.1
      have y := h2.2.2 a h1.1 h1.2.1
      have : a = b := by omega
      rw [this]
/-! the mask of the paths that are out -/
theorem mk_bit : ∀ m, m < 16 → ∀ p, p < 4 → ((nI m >>> (nI p &&& 31)) &&& nI 1 = 0 ↔ m.testBit p = false) := by decide +kernel
theorem mk_or : ∀ m, m < 16 → ∀ b, b < 4 → nI m ||| (nI 1 <<< (nI b &&& 31)) = nI (m ||| (1 <<< b)) ∧ (m ||| (1 <<< b)) < 16 := by decide +kernel
theorem mk_test : ∀ m, m < 16 → ∀ b, b < 4 → ∀ p, p < 4 → (m ||| (1 <<< b)).testBit p = (m.testBit p || decide (p = b)) := by decide +kernel
def mcn (m : Nat) : Nat := (if m.testBit 0 then 0 else 1) + (if m.testBit 1 then 0 else 1) + (if m.testBit 2 then 0 else 1) + (if m.testBit 3 then 0 else 1)
theorem mk_cnt : ∀ m, m < 16 → ∀ b, b < 4 → m.testBit b = false → mcn (m ||| (1 <<< b)) + 1 = mcn m := by decide +kernel
theorem mk_zero : ∀ m, m < 16 → mcn m = 0 → ∀ p, p < 4 → m.testBit p = true := by decide +kernel
/-! the rank of a path -/
def rkG (g : FN) (p : Nat) : Int := if g 112 p = 0 then 2 ^ 40 else (g 113 p).toInt
theorem rk_lt {g : FN} {p b : Nat} : (if g 112 p = 0 then some b else if g 112 b = 0 then some p else if g 113 b ≤ g 113 p then some b else some p) = if rkG g p < rkG g b then some p else some b := by
  unfold rkG
  have b1 := Int32.toInt_lt (g 113 p)
  have b2 := Int32.toInt_lt (g 113 b)
  by_cases e1 : g 112 p = 0
  · rw [if_pos e1, if_pos e1, if_neg]
    split <;> omega
  · rw [if_neg e1, if_neg e1]
    by_cases e2 : g 112 b = 0
    · rw [if_pos e2, if_pos e2, if_pos]
      omega
    · rw [if_neg e2, if_neg e2]
      by_cases e3 : g 113 b ≤ g 113 p
      · have := Int32.le_iff_toInt_le.mp e3
        rw [if_pos e3, if_neg (by omega)]
      · have : ¬ (g 113 b).toInt ≤ (g 113 p).toInt := fun q => e3 (Int32.le_iff_toInt_le.mpr q)
        rw [if_neg e3, if_pos (by omega)]
def cT (g : FN) (w : Int32) (m : Nat) : Nat → Bool := fun p => decide (g 107 p = w) && !(m.testBit p)
theorem tb2_fb {g : FN} {w : Int32} {m p : Nat} {bo : Option Nat} (hm : m < 16) (hp : p < 4) : tb2 g w (nI m) p bo = fb1 (cT g w m) (rkG g) p bo := by
  unfold tb2 fb1 cT
  by_cases e1 : g 107 p = w
  · rw [if_pos e1]
    by_cases e2 : m.testBit p = false
    · rw [if_pos ((mk_bit m hm p hp).mpr e2), if_pos (by rw [e2]; simp [e1])]
      cases bo with
      | none => rfl
      | some b => exact rk_lt
    · have e3 : m.testBit p = true := by
        cases hc : m.testBit p with
        | true => rfl
        | false => exact absurd hc e2
      rw [if_neg (fun q => e2 ((mk_bit m hm p hp).mp q)), if_neg (by rw [e3]; simp)]
  · rw [if_neg e1, if_neg (by simp [e1])]
theorem tbst_fb {g : FN} {w : Int32} {m : Nat} (hm : m < 16) : ∀ (n p : Nat) (bo : Option Nat), p + n ≤ 4 → tbst g w (nI m) n p bo = fb (cT g w m) (rkG g) n p bo
  | 0, _, _, _ => rfl
  | n + 1, p, bo, h => by rw [tbst, fb, tb2_fb hm (by omega), tbst_fb hm n (p + 1) _ (by omega)]
/-- the path that the reference takes -/
theorem tsn_best {ab : Nat → Bool} {g : FN} {w : Int32} {cc : Nat → Bool} (hcc : ∀ p, p < 4 → cc p = (decide (g 107 p = w) && ab p)) : ∀ (n m : Nat), m < 16 → mcn m ≤ n → (∀ p, p < 4 → m.testBit p = true → cc p = false) → best cc (rkG g) 4 (tsn ab g w n (nI m))
  | 0, m, hm, hn, hd => fun p hp => hd p hp (mk_zero m hm (by omega) p hp)
  | n + 1, m, hm, hn, hd => by
    have hB := best_fb (c := cT g w m) (rk := rkG g) 4 0 none best_0
    rw [← tbst_fb hm 4 0 none (by omega)] at hB
    cases e : tbst g w (nI m) 4 0 none with
    | none =>
      rw [e] at hB
      rw [tsn_none e]
      intro p hp
      cases hb : m.testBit p with
      | true => exact hd p hp hb
      | false =>
        have := hB p (by omega)
        unfold cT at this
        rw [hb] at this
        rw [hcc p hp]
        simp at this
        simp [this]
    | some b =>
      rw [e] at hB
      obtain ⟨h1, h2, h3⟩ := hB
      have h1 : b < 4 := by omega
      have hb0 : m.testBit b = false := by
        cases hb : m.testBit b with
        | false => rfl
        | true => unfold cT at h2; rw [hb] at h2; simp at h2
      have hw : g 107 b = w := by
        unfold cT at h2
        rw [hb0] at h2
        simpa using h2
      cases ha : ab b with
      | true =>
        rw [tsn_t e ha]
        refine ⟨h1, by rw [hcc b h1, ha]; simp [hw], fun p hp hc => ?_⟩
        refine h3 p (by omega) ?_
        cases hb : m.testBit p with
        | true =>
          rw [hd p hp hb] at hc
          exact absurd hc (by decide)
        | false =>
          rw [hcc p hp] at hc
          unfold cT
          rw [hb]
          simp at hc
          simp [hc.1]
      | false =>
        rw [tsn_f e ha, (mk_or m hm b h1).1]
        have hcn := mk_cnt m hm b h1 hb0
        refine tsn_best hcc n _ (mk_or m hm b h1).2 (by omega) (fun p hp ht => ?_)
        rw [mk_test m hm b h1 p hp] at ht
        by_cases e2 : p = b
        · subst e2
          rw [hcc p hp, ha]
          simp
        · simp [e2] at ht
          exact hd p hp ht
/-- the path that the class takes -/
theorem cquick_rk {F g : FN} {p b : Nat} (h1 : F (5 + 21 * p) 10 = g 112 p) (h2 : F (5 + 21 * p) 11 = g 113 p) (h3 : F (5 + 21 * b) 10 = g 112 b) (h4 : F (5 + 21 * b) 11 = g 113 b) : cquick_r F (5 + 21 * p) (5 + 21 * b) = 0 ↔ ¬ rkG g p < rkG g b := by
  unfold cquick_r rkG
  rw [h1, h2, h3, h4]
  have b1 := Int32.toInt_lt (g 113 p)
  have b2 := Int32.toInt_lt (g 113 b)
  have n0 : nI 0 = 0 := nI_0
  have n1 : ¬ nI 1 = 0 := by decide
  by_cases e1 : g 112 p = 0
  · rw [if_pos e1, if_pos e1]
    refine ⟨fun _ => ?_, fun _ => n0⟩
    split <;> omega
  · rw [if_neg e1, if_neg e1]
    by_cases e2 : g 112 b = 0
    · rw [if_pos e2, if_pos e2]
      exact ⟨fun q => absurd q n1, fun q => absurd (by omega) q⟩
    · rw [if_neg e2, if_neg e2]
      by_cases e3 : g 113 b ≤ g 113 p
      · have := Int32.le_iff_toInt_le.mp e3
        rw [if_pos e3]
        exact ⟨fun _ => by omega, fun _ => n0⟩
      · have : ¬ (g 113 b).toInt ≤ (g 113 p).toInt := fun q => e3 (Int32.le_iff_toInt_le.mpr q)
        rw [if_neg e3]
        exact ⟨fun q => absurd q n1, fun q => absurd (by omega) q⟩
theorem oI_m1 {o : Option Nat} (h : ∀ u, o = some u → u < 2 ^ 31) : oI o = -1 ↔ o.isSome = false := by
  cases o with
  | none => exact ⟨fun _ => rfl, fun _ => rfl⟩
  | some u => exact ⟨fun q => absurd q (nI_nm1 (h u rfl)), fun q => absurd (show true = false from q) (by decide)⟩
theorem cqn_fb {F g : FN} {w : Int32} {sc : Nat → Nat} {fu : Nat → Option Nat} {cc : Nat → Bool} (hcc : ∀ p, p < 4 → cc p = (decide (F (5 + 21 * p) 5 = w) && (decide (sc p < 3) && (fu p).isSome))) (hfu : ∀ p, p < 4 → ∀ u, fu p = some u → u < 2 ^ 31) (h10 : ∀ p, p < 4 → F (5 + 21 * p) 10 = g 112 p) (h11 : ∀ p, p < 4 → F (5 + 21 * p) 11 = g 113 p) : ∀ (n p : Nat) (bo : Option Nat), p + n ≤ 4 → (∀ b, bo = some b → b < 4) → cqn F w sc fu n p bo = fb cc (rkG g) n p bo
  | 0, _, _, _, _ => rfl
  | n + 1, p, bo, h, hb => by
    have hp : p < 4 := by omega
    rw [cqn, fb, cqn_fb hcc hfu h10 h11 n (p + 1) _ (by omega) (cq1_lt hp hb)]
    congr 1
    unfold cq1 fb1
    rw [hcc p hp]
    by_cases e1 : F (5 + 21 * p) 5 = w
    · rw [if_pos e1]
      by_cases e2 : sc p < 3
      · rw [if_pos e2]
        cases bo with
        | none =>
          cases e3 : (fu p).isSome with
          | false => simp [(oI_m1 (hfu p hp)).mpr e3]
          | true =>
            have : ¬ oI (fu p) = -1 := fun q => by rw [(oI_m1 (hfu p hp)).mp q] at e3; exact absurd e3 (by decide)
            simp [this, e1, e2]
        | some b =>
          have hb4 := hb b rfl
          have hq := cquick_rk (F := F) (g := g) (h10 p hp) (h11 p hp) (h10 b hb4) (h11 b hb4)
          dsimp only
          by_cases e4 : rkG g p < rkG g b
          · rw [if_neg (fun q => hq.mp q e4)]
            cases e3 : (fu p).isSome with
            | false => simp [(oI_m1 (hfu p hp)).mpr e3]
            | true =>
              have : ¬ oI (fu p) = -1 := fun q => by rw [(oI_m1 (hfu p hp)).mp q] at e3; exact absurd e3 (by decide)
              simp [this, e1, e2, e4]
          · rw [if_pos (hq.mpr e4)]
            simp [e4]
      · rw [if_neg e2]
        simp [e2]
    · rw [if_neg e1]
      simp [e1]
/-! put together -/
def wnt (F : FN) : Int32 := if cany F 4 0 = 0 then nI 3 else nI 2
theorem wnt_same {θ : TG} {Γ : Nat → PG} {F G f g : FN} {R : RN} (h : CI θ Γ F G R f g) : twant g 4 0 (nI 3) = wnt F := by
  have e : ∀ q, q < 4 → F (5 + 21 * q) 5 = g 107 q := fun q hq => by rw [(h.px q hq).f5, (h.px q hq).g107]
  have e0 := e 0 (by omega)
  have e1 := e 1 (by omega)
  have e2 := e 2 (by omega)
  have e3 := e 3 (by omega)
  unfold wnt
  simp only [twant, cany, Nat.reduceAdd, e0, e1, e2, e3]
  by_cases c0 : g 107 0 = nI 2
  · by_cases c1 : g 107 1 = nI 2 <;> by_cases c2 : g 107 2 = nI 2 <;> by_cases c3 : g 107 3 = nI 2 <;> simp [c0, c1, c2, c3]
  · by_cases c1 : g 107 1 = nI 2 <;> by_cases c2 : g 107 2 = nI 2 <;> by_cases c3 : g 107 3 = nI 2 <;> simp [c0, c1, c2, c3]
theorem wnt_or (F : FN) : wnt F = nI 2 ∨ wnt F = nI 3 := by
  unfold wnt
  split
  · exact .inr rfl
  · exact .inl rfl
def lwG (Γ : Nat → PG) : Nat → Nat := fun q => (Γ q).lw
def hiG (Γ : Nat → PG) : Nat → Nat := fun q => (Γ q).hi
def flG (Γ : Nat → PG) : Nat → Nat := fun q => (Γ q).fl
def cfG (θ : TG) (Γ : Nat → PG) (F G : FN) : Nat → Option Nat := cfp F G (scG Γ) (suG Γ) (snG Γ) θ.kn θ.ln θ.ed
theorem sc_hl {now ln p : Nat} {γ : PG} {F : FN} {R : RN} {g : FN} (hx : CX now ln p γ F R g) (hst : ¬ γ.st = 4) : γ.sc = 0 ↔ γ.hi ≤ γ.lw := by
  constructor
  · intro e
    have := hx.ch1 hst e
    omega
  · intro e
    by_cases c : γ.sc = 0
    · exact c
    · have c0 := hx.ch0 hst (by omega)
      have := CX_hn hx (j := 0) (by omega)
      have := (hx.sb 0 (by omega)).1
      omega
theorem cfG_eq {θ : TG} {Γ : Nat → PG} {F G f g : FN} {R : RN} {p : Nat} (h : CI θ Γ F G R f g) (hp : p < 4) (hst : ¬ (Γ p).st = 4) : cfG θ Γ F G p = if tcan θ.kn θ.ln θ.ed (Γ p).lw (Γ p).hi (lu f g p θ.kn θ.ln) then some (lu f g p θ.kn θ.ln) else none := by
  have hkl := h.ct.kl
  unfold cfG cfp lu
  exact cfu_same (fun u => loose_same h hp) (sc_hl (h.px p hp) hst) _ _ (by omega)
theorem cfu_lt {lz : Nat → Bool} {kn ln ed sc : Nat} : ∀ n u, u + n = ln → ∀ v, cfu lz kn ln ed sc n u = some v → v < ln
  | 0, u, e, v, q => by rw [cfu] at q; exact absurd q (by simp)
  | n + 1, u, e, v, q => by
    rw [cfu] at q
    split at q
    · exact absurd q (by simp)
    · split at q
      · split at q
        · injection q with q; omega
        · split at q
          · split at q
            · injection q with q; omega
            · exact absurd q (by simp)
          · exact absurd q (by simp)
      · exact cfu_lt n (u + 1) (by omega) v q
theorem choose_same {θ : TG} {Γ : Nat → PG} {F G f g : FN} {R : RN} (h : CI θ Γ F G R f g) : tsb f g θ.kn θ.ln θ.ed (lwG Γ) (hiG Γ) = cqn F (wnt F) (scG Γ) (cfG θ Γ F G) 4 0 none := by
  have hl := CT_ln h.ct
  have hkl := h.ct.kl
  have e5 : ∀ q, q < 4 → F (5 + 21 * q) 5 = g 107 q := fun q hq => by rw [(h.px q hq).f5, (h.px q hq).g107]
  have hfu : ∀ p, p < 4 → ∀ u, cfG θ Γ F G p = some u → u < 2 ^ 31 := fun p hp u e => by
    have := cfu_lt (θ.ln - θ.kn) θ.kn (by omega) u e
    omega
  rw [cqn_fb (g := g) (cc := fun p => decide (F (5 + 21 * p) 5 = wnt F) && (decide (scG Γ p < 3) && (cfG θ Γ F G p).isSome)) (fun p _ => rfl) hfu (fun p hp => (h.px p hp).f10) (fun p hp => (h.px p hp).f11) 4 0 none (by omega) (fun b q => by cases q)]
  unfold tsb
  rw [wnt_same h]
  refine best_uniq (m := 4) (rk := rkG g) (tsn_best (fun p hp => ?_) 4 0 (by omega) (by decide) (fun p hp q => ?_)) (best_fb 4 0 none best_0)
  · show (decide (F (5 + 21 * p) 5 = wnt F) && (decide (scG Γ p < 3) && (cfG θ Γ F G p).isSome)) = _
    rw [e5 p hp]
    by_cases c : g 107 p = wnt F
    · have hx := h.px p hp
      have hst : ¬ (Γ p).st = 4 := fun q => by
        rw [hx.g107, q] at c
        rcases wnt_or F with w | w <;> rw [w] at c <;> exact absurd c (by decide)
      unfold tab lwG hiG scG
      rw [to3_sc hx hst, cfG_eq h hp hst]
      by_cases t : tcan θ.kn θ.ln θ.ed (Γ p).lw (Γ p).hi (lu f g p θ.kn θ.ln)
      · rw [if_pos t]
        simp [t]
      · rw [if_neg t]
        simp [t]
    · simp [c]
  · rw [Nat.zero_testBit] at q
    exact absurd q (by decide)
theorem cqn_st {F : FN} {w : Int32} {sc : Nat → Nat} {fu : Nat → Option Nat} : ∀ (n p : Nat) (bo : Option Nat), (∀ b, bo = some b → F (5 + 21 * b) 5 = w ∧ sc b < 3 ∧ ∃ u, fu b = some u) → (∀ p u, fu p = some u → True) → ∀ b, cqn F w sc fu n p bo = some b → F (5 + 21 * b) 5 = w ∧ sc b < 3 ∧ ∃ u, fu b = some u
  | 0, _, _, hb, _, b, e => hb b e
  | n + 1, p, bo, hb, ht, b, e => by
    rw [cqn] at e
    refine cqn_st n (p + 1) _ (fun b2 e2 => ?_) ht b e
    unfold cq1 at e2
    have hs : ¬ oI (fu p) = -1 → ∃ u, fu p = some u := by
      intro q
      cases hf : fu p with
      | none => rw [hf] at q; exact absurd rfl q
      | some u => exact ⟨u, rfl⟩
    by_cases c1 : F (5 + 21 * p) 5 = w
    · rw [if_pos c1] at e2
      by_cases c2 : sc p < 3
      · rw [if_pos c2] at e2
        cases bo with
        | none =>
          dsimp only at e2
          by_cases c3 : oI (fu p) = -1
          · rw [if_pos c3] at e2
            exact absurd e2 (by simp)
          · rw [if_neg c3] at e2
            injection e2 with e2
            subst e2
            exact ⟨c1, c2, hs c3⟩
        | some b0 =>
          have h0 := hb b0 rfl
          dsimp only at e2
          split at e2
          · injection e2 with e2; subst e2; exact h0
          · by_cases c3 : oI (fu p) = -1
            · rw [if_pos c3] at e2
              injection e2 with e2; subst e2; exact h0
            · rw [if_neg c3] at e2
              injection e2 with e2; subst e2
              exact ⟨c1, c2, hs c3⟩
      · rw [if_neg c2] at e2
        exact hb b2 e2
    · rw [if_neg c1] at e2
      exact hb b2 e2
