/-! THE COUPLING, tenth part: measuring, and which segments an ACK settles. -/
def msm (z s x : Int32) : Int32 := if z = 0 then nI 8 * x else (s - s / nI 8) + x
def mva (z s v x : Int32) : Int32 := if z = 0 then nI 2 * x else (v - v / nI 4) + (if 0 ≤ s / nI 8 - x then s / nI 8 - x else 0 - (s / nI 8 - x))
def mto (z s v x : Int32) : Int32 := cclamp_r (msm z s x / nI 8 + mva z s v x) (nI 6) (nI 120)
theorem neg_cases (X : Int32) : (¬ nI 6 ≤ X ∧ X < nI 120 ∧ ¬ nI 6 < X) ∨ ∃ j : Nat, j < 2 ^ 31 ∧ X = nI j := by
  by_cases h : X < 0
  · left
    have h0 : X.toInt < 0 := by
      have := Int32.lt_iff_toInt_lt.mp h
      exact this
    have h6 : (nI 6).toInt = 6 := nI_toInt (n := 6) (by decide)
    have h12 : (nI 120).toInt = 120 := nI_toInt (n := 120) (by decide)
    refine ⟨fun q => ?_, ?_, fun q => ?_⟩
    · have := Int32.le_iff_toInt_le.mp q
      omega
    · exact Int32.lt_iff_toInt_lt.mpr (by omega)
    · have := Int32.lt_iff_toInt_lt.mp q
      omega
  · exact .inr (nI_of h)
theorem clamp_tw (X : Int32) : (if nI 6 ≤ X then (if X ≤ nI 120 then X else nI 120) else nI 6) = cclamp_r X (nI 6) (nI 120) := by
  unfold cclamp_r
  rcases neg_cases X with ⟨h1, h2, h3⟩ | ⟨j, hj, rfl⟩
  · rw [if_neg h1, if_pos h2, if_neg h3]
  · by_cases c1 : 6 ≤ j
    · rw [if_pos ((nI_leI (by omega) hj).mpr c1)]
      by_cases c2 : j < 120
      · rw [if_pos ((nI_leI hj (by omega)).mpr (by omega)), if_pos ((nI_ltI hj (by omega)).mpr c2)]
        by_cases c3 : 6 < j
        · rw [if_pos ((nI_ltI (by omega) hj).mpr c3)]
        · rw [if_neg (fun q => c3 ((nI_ltI (by omega) hj).mp q)), show j = 6 from by omega]
      · rw [if_neg (show ¬ nI j < nI 120 from fun q => c2 ((nI_ltI hj (by omega)).mp q)), if_pos (show nI 6 < nI 120 from (nI_ltI (by omega) (by omega)).mpr (by omega))]
        by_cases c3 : j ≤ 120
        · rw [if_pos ((nI_leI hj (by omega)).mpr c3), show j = 120 from by omega]
        · rw [if_neg (fun q => c3 ((nI_leI hj (by omega)).mp q))]
    · rw [if_neg (fun q => c1 ((nI_leI (by omega) hj).mp q)), if_pos (show nI j < nI 120 from (nI_ltI hj (by omega)).mpr (by omega)), if_neg (show ¬ nI 6 < nI j from fun q => by rw [nI_ltI (by omega) hj] at q; omega)]
theorem clamp_nat (X : Int32) : ∃ n, 6 ≤ n ∧ n ≤ 120 ∧ cclamp_r X (nI 6) (nI 120) = nI n := by
  rw [← clamp_tw]
  split
  · split
    · rename_i h1 h2
      rcases neg_cases X with ⟨q1, q2, q3⟩ | ⟨j, hj, rfl⟩
      · exact absurd h1 q1
      · exact ⟨j, (nI_leI (by omega) hj).mp h1, (nI_leI hj (by omega)).mp h2, rfl⟩
    · exact ⟨120, by omega, by omega, rfl⟩
  · exact ⟨6, by omega, by omega, rfl⟩
theorem meas_o {G : FN} {p r w : Nat} {x : Int32} (h : ¬ (w = p ∧ (r = 110 ∨ r = 112 ∨ r = 113 ∨ r = 114))) : meas_G G p x r w = G r w := by
  unfold meas_G
  split
  · split
    · split <;> (repeat (first | rw [up2_eq] | rw [up2_ne (by omega)]))
    · (repeat (first | rw [up2_eq] | rw [up2_ne (by omega)]))
  · split
    · split
      · split <;> (repeat (first | rw [up2_eq] | rw [up2_ne (by omega)]))
      · (repeat (first | rw [up2_eq] | rw [up2_ne (by omega)]))
    · split
      · split <;> (repeat (first | rw [up2_eq] | rw [up2_ne (by omega)]))
      · (repeat (first | rw [up2_eq] | rw [up2_ne (by omega)]))
theorem meas_112 {G : FN} {p : Nat} {x : Int32} : meas_G G p x 112 p = if G 112 p = 0 then nI 1 else G 112 p := by
  unfold meas_G
  by_cases e : G 112 p = 0
  · rw [if_pos e, if_pos e]
    split
    · split <;> (repeat (first | rw [up2_eq] | rw [up2_ne (by omega)]))
    · (repeat (first | rw [up2_eq] | rw [up2_ne (by omega)]))
  · rw [if_neg e, if_neg e]
    split
    · split
      · split <;> (repeat (first | rw [up2_eq] | rw [up2_ne (by omega)]))
      · (repeat (first | rw [up2_eq] | rw [up2_ne (by omega)]))
    · split
      · split <;> (repeat (first | rw [up2_eq] | rw [up2_ne (by omega)]))
      · (repeat (first | rw [up2_eq] | rw [up2_ne (by omega)]))
theorem meas_113 {G : FN} {p : Nat} {x : Int32} : meas_G G p x 113 p = msm (G 112 p) (G 113 p) x := by
  unfold meas_G msm
  by_cases e : G 112 p = 0
  · rw [if_pos e, if_pos e]
    split
    · split <;> (repeat (first | rw [up2_eq] | rw [up2_ne (by omega)]))
    · (repeat (first | rw [up2_eq] | rw [up2_ne (by omega)]))
  · rw [if_neg e, if_neg e]
    split
    · split
      · split <;> (repeat (first | rw [up2_eq] | rw [up2_ne (by omega)]))
      · (repeat (first | rw [up2_eq] | rw [up2_ne (by omega)]))
    · split
      · split <;> (repeat (first | rw [up2_eq] | rw [up2_ne (by omega)]))
      · (repeat (first | rw [up2_eq] | rw [up2_ne (by omega)]))
theorem meas_114 {G : FN} {p : Nat} {x : Int32} : meas_G G p x 114 p = mva (G 112 p) (G 113 p) (G 114 p) x := by
  unfold meas_G mva
  by_cases e : G 112 p = 0
  · rw [if_pos e, if_pos e]
    split
    · split <;> (repeat (first | rw [up2_eq] | rw [up2_ne (by omega)]))
    · (repeat (first | rw [up2_eq] | rw [up2_ne (by omega)]))
  · rw [if_neg e, if_neg e]
    by_cases e2 : 0 ≤ G 113 p / nI 8 - x
    · rw [if_pos e2, if_pos e2]
      split
      · split <;> (repeat (first | rw [up2_eq] | rw [up2_ne (by omega)]))
      · (repeat (first | rw [up2_eq] | rw [up2_ne (by omega)]))
    · rw [if_neg e2, if_neg e2, Int32.zero_sub]
      split
      · split <;> (repeat (first | rw [up2_eq] | rw [up2_ne (by omega)]))
      · (repeat (first | rw [up2_eq] | rw [up2_ne (by omega)]))
theorem meas_110 {G : FN} {p : Nat} {x : Int32} : meas_G G p x 110 p = mto (G 112 p) (G 113 p) (G 114 p) x := by
  unfold meas_G mto msm mva
  rw [← clamp_tw]
  by_cases e : G 112 p = 0
  · rw [if_pos e, if_pos e, if_pos e]
    split
    · split <;> (repeat (first | rw [up2_eq] | rw [up2_ne (by omega)]))
    · (repeat (first | rw [up2_eq] | rw [up2_ne (by omega)]))
  · rw [if_neg e, if_neg e, if_neg e]
    by_cases e2 : 0 ≤ G 113 p / nI 8 - x
    · rw [if_pos e2, if_pos e2]
      split
      · split <;> (repeat (first | rw [up2_eq] | rw [up2_ne (by omega)]))
      · (repeat (first | rw [up2_eq] | rw [up2_ne (by omega)]))
    · rw [if_neg e2, if_neg e2, Int32.zero_sub]
      split
      · split <;> (repeat (first | rw [up2_eq] | rw [up2_ne (by omega)]))
      · (repeat (first | rw [up2_eq] | rw [up2_ne (by omega)]))
theorem cmeas_at {F : FN} {a : Nat} {x : Int32} : cmeas_F F a x a 10 = (if F a 10 = 0 then nI 1 else F a 10) ∧ cmeas_F F a x a 11 = msm (F a 10) (F a 11) x ∧ cmeas_F F a x a 12 = mva (F a 10) (F a 11) (F a 12) x ∧ cmeas_F F a x a 8 = mto (F a 10) (F a 11) (F a 12) x := by
  unfold cmeas_F mto msm mva
  by_cases e : F a 10 = 0
  · simp only [if_pos e]
    refine ⟨?_, ?_, ?_, ?_⟩
    · (repeat (first | rw [up2_eq] | rw [up2_ne (by omega)]))
    · (repeat (first | rw [up2_eq] | rw [up2_ne (by omega)]))
    · (repeat (first | rw [up2_eq] | rw [up2_ne (by omega)]))
    · (repeat (first | rw [up2_eq] | rw [up2_ne (by omega)]))
  · simp only [if_neg e]
    refine ⟨?_, ?_, ?_, ?_⟩
    · (repeat (first | rw [up2_eq] | rw [up2_ne (by omega)]))
    · (repeat (first | rw [up2_eq] | rw [up2_ne (by omega)]))
    · (repeat (first | rw [up2_eq] | rw [up2_ne (by omega)]))
    · (repeat (first | rw [up2_eq] | rw [up2_ne (by omega)]))
theorem cmeas_o {F : FN} {a i k : Nat} {x : Int32} (h : ¬ (i = a ∧ (k = 8 ∨ k = 10 ∨ k = 11 ∨ k = 12))) : cmeas_F F a x i k = F i k := by
  unfold cmeas_F
  split <;> (repeat (first | rw [up2_eq] | rw [up2_ne (by omega)]))
/-! the last segment that an ACK settles -/
theorem tla_zero {g : FN} {p : Nat} {a : Int32} : ∀ (n j : Nat) (l : Option Nat), (∀ i, i < n → g 119 (402 * p + (j + i)) = nI 0) → tla g p a n j l = l
  | 0, _, _, _ => rfl
  | n + 1, j, l, h => by
    have h0 := h 0 (by omega)
    rw [Nat.add_zero] at h0
    rw [tla, h0, if_pos (by decide), tla_zero n (j + 1) l (fun i hi => by have := h (i + 1) (by omega); rwa [show j + (i + 1) = j + 1 + i from by omega] at this)]
theorem tla_split {g : FN} {p : Nat} {a : Int32} {n2 : Nat} : ∀ (n1 j : Nat) (l : Option Nat), tla g p a (n1 + n2) j l = tla g p a n2 (j + n1) (tla g p a n1 j l)
  | 0, j, l => by rw [Nat.zero_add]; rfl
  | n1 + 1, j, l => by
    rw [show n1 + 1 + n2 = (n1 + n2) + 1 from by omega, tla, tla_split n1 (j + 1), tla, show j + 1 + n1 = j + (n1 + 1) from by omega]
theorem tla_seg {g : FN} {p lm j m : Nat} {l : Option Nat} (hm : 1 ≤ m) (hb : j + m < 2 ^ 31) (hl : lm < 2 ^ 31) (h0 : g 119 (402 * p + j) = nI m) (h1 : ∀ i, 0 < i → i < m → g 119 (402 * p + j + i) = nI 0) : tla g p (nI lm) m j l = if j + m ≤ lm then some j else l := by
  obtain ⟨n, rfl⟩ : ∃ n, m = n + 1 := ⟨m - 1, by omega⟩
  rw [tla, tla_zero n (j + 1) _ (fun i hi => by have := h1 (i + 1) (by omega) (by omega); rwa [show 402 * p + j + (i + 1) = 402 * p + (j + 1 + i) from by omega] at this), h0, if_neg (by rw [← nI_0, nI_leI (by omega) (by omega)]; omega), nI_add]
  by_cases c : j + (n + 1) ≤ lm
  · rw [if_pos c, if_neg (by rw [nI_ltI hl hb]; omega)]
  · rw [if_neg c, if_pos ((nI_ltI hl hb).mpr (by omega))]
theorem tla_cst {now ln p lm : Nat} {γ : PG} {F : FN} {R : RN} {g : FN} (hx : CX now ln p γ F R g) (hst : ¬ γ.st = 4) (hl : lm < 2 ^ 30) : tla g p (nI lm) (γ.hi - γ.lw) γ.lw none = if cst lm 3 γ.sc γ.nu γ.nm = 0 then none else some (γ.nu (cst lm 3 γ.sc γ.nu γ.nm - 1)) := by
  have h3 := hx.sc3
  have hh := hx.h402
  have seg : ∀ j l, j < γ.sc → tla g p (nI lm) (γ.nm j) (γ.nu j) l = if γ.nu j + γ.nm j ≤ lm then some (γ.nu j) else l := by
    intro j l hj
    have := CX_hn hx hj
    exact tla_seg (hx.sb j hj).1 (by omega) (by omega) (hx.sh j hj).2 (hx.z1 j hj)
  have hsc : γ.sc = 0 ∨ γ.sc = 1 ∨ γ.sc = 2 ∨ γ.sc = 3 := by omega
  rcases hsc with e | e | e | e
  · have := hx.ch1 hst e
    rw [this, Nat.sub_self, e]
    rfl
  · have c0 := hx.ch0 hst (by omega)
    have c3 := hx.ch3 0 (by omega)
    rw [show γ.hi - γ.lw = γ.nm 0 from by omega, ← c0, seg 0 _ (by omega), e]
    simp only [cst]
    by_cases d0 : γ.nu 0 + γ.nm 0 ≤ lm
    · simp [d0]
    · simp [d0]
  · have c0 := hx.ch0 hst (by omega)
    have c2 : γ.nu 1 = γ.nu 0 + γ.nm 0 := hx.ch2 0 (by omega)
    have c3 := hx.ch3 1 (by omega)
    have b1 := (hx.sb 1 (by omega)).1
    rw [show γ.hi - γ.lw = γ.nm 0 + γ.nm 1 from by omega, ← c0, tla_split, seg 0 _ (by omega), ← c2, seg 1 _ (by omega), e]
    simp only [cst]
    by_cases d0 : γ.nu 0 + γ.nm 0 ≤ lm
    · have f0 : γ.nu 1 ≤ lm := by omega
      by_cases d1 : γ.nu 1 + γ.nm 1 ≤ lm
      · simp [d0, d1, f0]
      · simp [d0, d1, f0]
    · have d1 : ¬ γ.nu 1 + γ.nm 1 ≤ lm := by omega
      have f0 : ¬ γ.nu 1 ≤ lm := by omega
      simp only [d0, d1, f0, if_false]; rfl
  · have c0 := hx.ch0 hst (by omega)
    have c2 : γ.nu 1 = γ.nu 0 + γ.nm 0 := hx.ch2 0 (by omega)
    have c21 : γ.nu 2 = γ.nu 1 + γ.nm 1 := hx.ch2 1 (by omega)
    have c3 := hx.ch3 2 (by omega)
    have b1 := (hx.sb 1 (by omega)).1
    have b2 := (hx.sb 2 (by omega)).1
    rw [show γ.hi - γ.lw = γ.nm 0 + (γ.nm 1 + γ.nm 2) from by omega, ← c0, tla_split, seg 0 _ (by omega), ← c2, tla_split, seg 1 _ (by omega), ← c21, seg 2 _ (by omega), e]
    simp only [cst]
    by_cases d0 : γ.nu 0 + γ.nm 0 ≤ lm
    · have f0 : γ.nu 1 ≤ lm := by omega
      by_cases d1 : γ.nu 1 + γ.nm 1 ≤ lm
      · have f1 : γ.nu 2 ≤ lm := by omega
        by_cases d2 : γ.nu 2 + γ.nm 2 ≤ lm
        · simp [d0, d1, d2, f0, f1]
        · simp [d0, d1, d2, f0, f1]
      · have d2 : ¬ γ.nu 2 + γ.nm 2 ≤ lm := by omega
        have f1 : ¬ γ.nu 2 ≤ lm := by omega
        simp only [d0, d1, d2, f0, f1, if_false, if_true]; rfl
    · have d1 : ¬ γ.nu 1 + γ.nm 1 ≤ lm := by omega
      have d2 : ¬ γ.nu 2 + γ.nm 2 ≤ lm := by omega
      have f0 : ¬ γ.nu 1 ≤ lm := by omega
      have f1 : ¬ γ.nu 2 ≤ lm := by omega
      simp only [d0, d1, d2, f0, f1, if_false]; rfl
/-- the units of a segment that is not acknowledged -/
theorem seg_pl {now ln p : Nat} {γ : PG} {F : FN} {R : RN} {g : FN} (hx : CX now ln p γ F R g) (hln : ln ≤ 401) {j v : Nat} (hj : j < γ.sc) (hv : v < 401) : (γ.su j ≤ v ∧ v < γ.su j + γ.sn j) ↔ (0 < γ.pl v ∧ γ.nu j ≤ γ.pl v ∧ γ.pl v < γ.nu j + γ.nm j) := by
  have hh := CX_hn hx hj
  have h4 := hx.h402
  by_cases e : γ.nu j = 0
  · obtain ⟨s1, s2, s3⟩ := hx.sy j hj e
    omega
  · obtain ⟨d1, d2, d3⟩ := hx.dt j hj (by omega)
    constructor
    · intro a
      have := d3 (v - γ.su j) (by omega)
      rw [show γ.su j + (v - γ.su j) = v from by omega] at this
      omega
    · intro a
      have h1 := (hx.pu v hv a.1).2
      have h2 := hx.d2 j hj (by omega) (γ.pl v - γ.nu j) (by omega)
      rw [show γ.nu j + (γ.pl v - γ.nu j) = γ.pl v from by omega, h1, nI_eq (by omega) (by omega)] at h2
      omega
