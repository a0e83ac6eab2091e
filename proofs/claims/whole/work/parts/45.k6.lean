/-! THE COUPLING, sixth part: a segment is added, and sent for the first time. -/
def ups (f : Nat → Nat) (i v : Nat) : Nat → Nat := fun j => if j = i then v else f j
theorem ups_eq {f : Nat → Nat} {i v : Nat} : ups f i v i = v := if_pos rfl
theorem ups_ne {f : Nat → Nat} {i v j : Nat} (h : ¬ j = i) : ups f i v j = f j := if_neg h
def PG.add (γ : PG) (now st m u un : Nat) (pl : Nat → Nat) : PG := PG.mk st γ.to (if γ.tm = 0 then now + γ.to else γ.tm) γ.lw (γ.hi + m) (γ.sc + 1) γ.fl γ.bl (ups γ.nu γ.sc γ.hi) (ups γ.nm γ.sc m) (ups γ.su γ.sc u) (ups γ.sn γ.sc un) (ups γ.tr γ.sc 1) pl
theorem CX_add {now ln p st m u un : Nat} {γ : PG} {F F2 : FN} {R : RN} {g g2 : FN} {pl : Nat → Nat} (hS : segR (5 + 21 * p) R) (h : CX now ln p γ F R g) (hs3 : γ.sc < 3) (hm1 : 1 ≤ m) (hm7 : m ≤ 7) (hh : γ.hi + m ≤ 402) (hst4 : st ≤ 4) (hst : ¬ st = 4) (hst0 : ¬ st = 0) (hst2 : γ.st ≠ 4) (hn20 : now < 2 ^ 20) (hn1 : γ.tm = now → γ.tm ≠ 0 → 1 ≤ now)
    (s0 : F2 (rx R (5 + 21 * p + 17) γ.sc) 0 = nI γ.hi) (s1 : F2 (rx R (5 + 21 * p + 17) γ.sc) 1 = nI m) (s2 : F2 (rx R (5 + 21 * p + 17) γ.sc) 2 = nI u) (s3 : F2 (rx R (5 + 21 * p + 17) γ.sc) 3 = nI un) (s5 : F2 (rx R (5 + 21 * p + 17) γ.sc) 5 = nI 1) (s4 : F2 (rx R (5 + 21 * p + 17) γ.sc) 4 = nI now)
    (a3 : F2 (5 + 21 * p) 3 = nI (γ.sc + 1)) (a4 : F2 (5 + 21 * p) 4 = nI (γ.hi + m)) (a5 : F2 (5 + 21 * p) 5 = nI st) (a6 : F2 (5 + 21 * p) 6 = g2 108 p) (a7 : F2 (5 + 21 * p) 7 = g2 109 p) (a9 : F2 (5 + 21 * p) 9 = if γ.tm = 0 then nI (now + γ.to) else F (5 + 21 * p) 9) (a13 : F2 (5 + 21 * p) 13 = F (5 + 21 * p) 13 + nI 1) (aa : ∀ k, k = 8 ∨ k = 10 ∨ k = 11 ∨ k = 12 → F2 (5 + 21 * p) k = F (5 + 21 * p) k)
    (ao : ∀ i k, 5 + 21 * p + 18 ≤ i → i ≤ 5 + 21 * p + 20 → ¬ i = rx R (5 + 21 * p + 17) γ.sc → F2 i k = F i k)
    (g7 : g2 107 p = nI st) (g11 : g2 111 p = if γ.tm = 0 then nI (now + γ.to) else g 111 p) (g16 : g2 116 p = nI (γ.hi + m)) (g17 : g2 117 p = g 117 p + nI 1) (go : ∀ r, r = 110 ∨ r = 112 ∨ r = 113 ∨ r = 114 ∨ r = 115 → g2 r p = g r p)
    (g19 : g2 119 (402 * p + γ.hi) = nI m) (g20 : g2 120 (402 * p + γ.hi) = nI now) (g21 : g2 121 (402 * p + γ.hi) = nI 1) (gp : ∀ r w, 119 ≤ r → r ≤ 121 → w < 402 → ¬ w = γ.hi → g2 r (402 * p + w) = g r (402 * p + w))
    (hsyn : γ.hi = 0 → un = 0 ∧ m = 1 ∧ u = 0) (hnew : 0 < γ.hi → un = m ∧ u + m ≤ ln ∧ ∀ i, i < m → pl (u + i) = γ.hi + i) (hnew2 : 0 < γ.hi → ∀ i, i < m → g2 118 (402 * p + (γ.hi + i)) = nI (u + i))
    (h118 : ∀ w, 0 < w → w < γ.hi → g2 118 (402 * p + w) = g 118 (402 * p + w)) (hpl : ∀ w, 0 < γ.pl w → pl w = γ.pl w) (hpg : ∀ w, w < 401 → g2 122 (402 * p + w) = nI (pl w)) (hpu : ∀ w, w < 401 → 0 < pl w → pl w < γ.hi + m ∧ g2 118 (402 * p + pl w) = nI w) (hpc : cnz pl 401 + 1 = γ.hi + m) : CX now ln p (γ.add now st m u un pl) F2 R g2 := by
  have hsc := h.sc3
  have hr := hS.1 γ.sc hs3
  have hne : ∀ j, j < γ.sc → ¬ rx R (5 + 21 * p + 17) j = rx R (5 + 21 * p + 17) γ.sc := fun j hj e => by
    have := hS.2 _ _ (by omega) (by omega) e
    omega
  have hb : ∀ j, j < γ.sc → ∀ k, F2 (rx R (5 + 21 * p + 17) j) k = F (rx R (5 + 21 * p + 17) j) k := fun j hj k => ao _ _ (hS.1 j (by omega)).2.1 (hS.1 j (by omega)).2.2 (hne j hj)
  have hnn : ∀ j, j < γ.sc → γ.nu j + γ.nm j ≤ γ.hi := fun j hj => CX_hn h hj
  have hpos : ∀ j, j < γ.sc → 1 ≤ γ.nm j := fun j hj => (h.sb j hj).1
  have hlh := h.lh
  have ec : ∀ j, j < γ.sc + 1 → j = γ.sc ∨ j < γ.sc := fun j hj => by omega
  refine CX.mk a3 a4 g16 ?_ a5 g7 a6 a7 ?_ ?_ ?_ ?_ ?_ ?_ ?_ ?_ ?_ ?_ hh hst4 h.to6 h.to120 ?_ (fun _ => Nat.succ_pos _) (fun e => absurd e hst0) ?_ (fun e => absurd e hst) ?_ ?_ ?_ ?_ ?_ ?_ ?_ ?_ ?_ ?_ ?_ ?_ ?_ ?_ hpg hpu ?_
  · rw [go 115 (by omega)]; exact h.g115
  · rw [aa 8 (by omega)]; exact h.f8
  · rw [go 110 (by omega)]; exact h.g110
  · rw [a9]
    show _ = if (if γ.tm = 0 then now + γ.to else γ.tm) = 0 then -1 else nI (if γ.tm = 0 then now + γ.to else γ.tm)
    have := h.to6
    by_cases e : γ.tm = 0
    · rw [if_pos e, if_pos e, if_neg (by omega)]
    · rw [if_neg e, if_neg e, if_neg e, h.f9, if_neg e]
  · rw [g11]
    show _ = nI (if γ.tm = 0 then now + γ.to else γ.tm)
    by_cases e : γ.tm = 0
    · rw [if_pos e, if_pos e]
    · rw [if_neg e, if_neg e]; exact h.g111
  · rw [aa 10 (by omega), go 112 (by omega)]; exact h.f10
  · rw [aa 11 (by omega), go 113 (by omega)]; exact h.f11
  · rw [aa 12 (by omega), go 114 (by omega)]; exact h.f12
  · rw [a13, g17, h.f13]
  · show γ.sc + 1 ≤ 3
    omega
  · show γ.lw ≤ γ.hi + m
    omega
  · show (if γ.tm = 0 then now + γ.to else γ.tm) ≤ now + 120
    have := h.tmb
    have := h.to120
    split <;> omega
  · intro _
    show 1 ≤ γ.hi + m
    omega
  · intro j hj
    show _ = nI (ups γ.nu γ.sc γ.hi j) ∧ _ = nI (ups γ.nm γ.sc m j) ∧ _ = nI (ups γ.su γ.sc u j) ∧ _ = nI (ups γ.sn γ.sc un j) ∧ _ = nI (ups γ.tr γ.sc 1 j)
    rcases ec j hj with e | e
    · subst e
      rw [ups_eq, ups_eq, ups_eq, ups_eq, ups_eq]
      exact ⟨s0, s1, s2, s3, s5⟩
    · rw [ups_ne (by omega), ups_ne (by omega), ups_ne (by omega), ups_ne (by omega), ups_ne (by omega), hb j e, hb j e, hb j e, hb j e, hb j e]
      exact h.sg j e
  · intro j hj
    show g2 121 (402 * p + ups γ.nu γ.sc γ.hi j) = nI (ups γ.tr γ.sc 1 j) ∧ g2 119 (402 * p + ups γ.nu γ.sc γ.hi j) = nI (ups γ.nm γ.sc m j)
    rcases ec j hj with e | e
    · subst e
      rw [ups_eq, ups_eq, ups_eq]
      exact ⟨g21, g19⟩
    · have := hnn j e
      have := hpos j e
      rw [ups_ne (by omega), ups_ne (by omega), ups_ne (by omega), gp 121 _ (by omega) (by omega) (by omega) (by omega), gp 119 _ (by omega) (by omega) (by omega) (by omega)]
      exact h.sh j e
  · intro j hj
    show 1 ≤ ups γ.nm γ.sc m j ∧ ups γ.nm γ.sc m j ≤ 7 ∧ 1 ≤ ups γ.tr γ.sc 1 j ∧ ups γ.tr γ.sc 1 j ≤ now + 1 ∧ ((if γ.tm = 0 then now + γ.to else γ.tm) = now → ups γ.tr γ.sc 1 j ≤ now)
    have := h.to6
    rcases ec j hj with e | e
    · subst e
      rw [ups_eq, ups_eq]
      refine ⟨hm1, hm7, Nat.le_refl _, by omega, fun e => ?_⟩
      split at e
      · omega
      · exact hn1 e (by assumption)
    · rw [ups_ne (by omega), ups_ne (by omega)]
      obtain ⟨b1, b2, b3, b4, b5⟩ := h.sb j e
      refine ⟨b1, b2, b3, b4, fun e => ?_⟩
      split at e
      · omega
      · exact b5 e
  · intro j hj ht
    show F2 _ 4 = g2 120 (402 * p + ups γ.nu γ.sc γ.hi j)
    have ht : ups γ.tr γ.sc 1 j = 1 := ht
    rcases ec j hj with e | e
    · subst e
      rw [ups_eq, s4, g20]
    · have := hnn j e
      have := hpos j e
      rw [ups_ne (by omega)] at ht
      rw [ups_ne (by omega), hb j e, gp 120 _ (by omega) (by omega) (by omega) (by omega)]
      exact h.s8 j e ht
  · intro j hj i hi0 hi1
    show g2 119 (402 * p + ups γ.nu γ.sc γ.hi j + i) = nI 0
    have hi1 : i < ups γ.nm γ.sc m j := hi1
    rcases ec j hj with e | e
    · subst e
      rw [ups_eq] at hi1
      rw [ups_eq, Nat.add_assoc, gp 119 _ (by omega) (by omega) (by omega) (by omega)]
      exact h.z2 _ (by omega) (by omega)
    · have := hnn j e
      rw [ups_ne (by omega)] at hi1
      rw [ups_ne (by omega), Nat.add_assoc, gp 119 _ (by omega) (by omega) (by omega) (by omega), ← Nat.add_assoc]
      exact h.z1 j e i hi0 hi1
  · intro w hw hw4
    have hw : γ.hi + m ≤ w := hw
    rw [gp 119 _ (by omega) (by omega) hw4 (by omega)]
    exact h.z2 w (by omega) hw4
  · intro w hw hw4
    have hw : γ.hi + m ≤ w := hw
    rw [gp 121 _ (by omega) (by omega) hw4 (by omega)]
    exact h.z3 w (by omega) hw4
  · intro _ _
    show ups γ.nu γ.sc γ.hi 0 = γ.lw
    by_cases e : γ.sc = 0
    · rw [e, ups_eq]
      exact (h.ch1 hst2 e).symm
    · rw [ups_ne (by omega)]
      exact h.ch0 hst2 (by omega)
  · intro _ e
    exact absurd e (Nat.succ_ne_zero _)
  · intro j hj
    have hj : j + 1 < γ.sc + 1 := hj
    show ups γ.nu γ.sc γ.hi (j + 1) = ups γ.nu γ.sc γ.hi j + ups γ.nm γ.sc m j
    rw [ups_ne (show ¬ j = γ.sc by omega), ups_ne (show ¬ j = γ.sc by omega)]
    by_cases e : j + 1 = γ.sc
    · rw [e, ups_eq]
      exact (h.ch3 j e).symm
    · rw [ups_ne e]
      exact h.ch2 j (by omega)
  · intro j hj
    have hj : j + 1 = γ.sc + 1 := hj
    have e : j = γ.sc := by omega
    subst e
    show ups γ.nu γ.sc γ.hi γ.sc + ups γ.nm γ.sc m γ.sc = γ.hi + m
    rw [ups_eq, ups_eq]
  · intro j hj
    show ups γ.nu γ.sc γ.hi j = 0 → ups γ.sn γ.sc un j = 0 ∧ ups γ.nm γ.sc m j = 1 ∧ ups γ.su γ.sc u j = 0
    rcases ec j hj with e | e
    · subst e
      rw [ups_eq, ups_eq, ups_eq, ups_eq]
      exact hsyn
    · rw [ups_ne (by omega), ups_ne (by omega), ups_ne (by omega), ups_ne (by omega)]
      exact h.sy j e
  · intro j hj
    show 0 < ups γ.nu γ.sc γ.hi j → ups γ.sn γ.sc un j = ups γ.nm γ.sc m j ∧ ups γ.su γ.sc u j + ups γ.nm γ.sc m j ≤ ln ∧ ∀ i, i < ups γ.nm γ.sc m j → pl (ups γ.su γ.sc u j + i) = ups γ.nu γ.sc γ.hi j + i
    rcases ec j hj with e | e
    · subst e
      rw [ups_eq, ups_eq, ups_eq, ups_eq]
      exact hnew
    · rw [ups_ne (by omega), ups_ne (by omega), ups_ne (by omega), ups_ne (by omega)]
      intro h0
      obtain ⟨d1, d2, d3⟩ := h.dt j e h0
      refine ⟨d1, d2, fun i hi => ?_⟩
      rw [hpl _ (by rw [d3 i hi]; omega)]
      exact d3 i hi
  · intro j hj
    show 0 < ups γ.nu γ.sc γ.hi j → ∀ i, i < ups γ.nm γ.sc m j → g2 118 (402 * p + (ups γ.nu γ.sc γ.hi j + i)) = nI (ups γ.su γ.sc u j + i)
    rcases ec j hj with e | e
    · subst e
      rw [ups_eq, ups_eq, ups_eq]
      exact hnew2
    · have := hnn j e
      rw [ups_ne (by omega), ups_ne (by omega), ups_ne (by omega)]
      intro h0 i hi
      rw [h118 _ (by omega) (by omega)]
      exact h.d2 j e h0 i hi
  · show cnz pl 401 + (if γ.hi + m = 0 then 0 else 1) = γ.hi + m
    rw [if_neg (by omega)]
    exact hpc
