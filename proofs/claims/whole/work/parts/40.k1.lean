/-! THE COUPLING of the class's memory (F G R, places below 103) with the reference's (f g, places 103 to 130). -/
/-- the places of the copies of the pipe at e -/
def pipR (e : Nat) (R : RN) : Prop := (∀ k, k < 6 → R (e + 1) k = some (rx R (e + 1) k) ∧ e + 2 ≤ rx R (e + 1) k ∧ rx R (e + 1) k ≤ e + 7) ∧ ∀ j k, j < 6 → k < 6 → rx R (e + 1) j = rx R (e + 1) k → j = k
def RW (R : RN) : Prop := (∀ p, p < 4 → R 4 p = some (5 + 21 * p)) ∧ (∀ p, p < 4 → R 93 p = some (95 + 2 * p)) ∧ (∀ p, p < 4 → segR (5 + 21 * p) R) ∧ (∀ p, p < 4 → pipR (5 + 21 * p + 1) R) ∧ (∀ p, p < 4 → pipR (5 + 21 * p + 9) R)
theorem RW.mk {R : RN} (r4 : ∀ p, p < 4 → R 4 p = some (5 + 21 * p)) (r93 : ∀ p, p < 4 → R 93 p = some (95 + 2 * p)) (sg : ∀ p, p < 4 → segR (5 + 21 * p) R) (pf : ∀ p, p < 4 → pipR (5 + 21 * p + 1) R) (pb : ∀ p, p < 4 → pipR (5 + 21 * p + 9) R) : RW R := ⟨r4, r93, sg, pf, pb⟩
theorem RW.r4 {R : RN} (h_ : RW R) : ∀ p, p < 4 → R 4 p = some (5 + 21 * p) := h_.1
theorem RW.r93 {R : RN} (h_ : RW R) : ∀ p, p < 4 → R 93 p = some (95 + 2 * p) := h_.2.1
theorem RW.sg {R : RN} (h_ : RW R) : ∀ p, p < 4 → segR (5 + 21 * p) R := h_.2.2.1
theorem RW.pf {R : RN} (h_ : RW R) : ∀ p, p < 4 → pipR (5 + 21 * p + 1) R := h_.2.2.2.1
theorem RW.pb {R : RN} (h_ : RW R) : ∀ p, p < 4 → pipR (5 + 21 * p + 9) R := h_.2.2.2.2
theorem sl_copyf {L p x : Nat} (hp : p < 4) (h1 : 5 + 21 * p + 1 + 2 ≤ x) (h2 : x ≤ 5 + 21 * p + 1 + 7) : (sL L)[x]? = some (2, 1, [0, 0, 0, 0, 0, 0], 0) := by
  obtain ⟨d, hd⟩ : ∃ d, x = 5 + 21 * p + 3 + d := ⟨x - (5 + 21 * p + 3), by omega⟩
  have h : p = 0 ∨ p = 1 ∨ p = 2 ∨ p = 3 := by omega
  have h3 : d = 0 ∨ d = 1 ∨ d = 2 ∨ d = 3 ∨ d = 4 ∨ d = 5 := by omega
  subst hd
  rcases h with rfl | rfl | rfl | rfl <;> rcases h3 with rfl | rfl | rfl | rfl | rfl | rfl <;> rfl
theorem sl_copyb {L p x : Nat} (hp : p < 4) (h1 : 5 + 21 * p + 9 + 2 ≤ x) (h2 : x ≤ 5 + 21 * p + 9 + 7) : (sL L)[x]? = some (2, 1, [0, 0, 0, 0, 0, 0], 0) := by
  obtain ⟨d, hd⟩ : ∃ d, x = 5 + 21 * p + 11 + d := ⟨x - (5 + 21 * p + 11), by omega⟩
  have h : p = 0 ∨ p = 1 ∨ p = 2 ∨ p = 3 := by omega
  have h3 : d = 0 ∨ d = 1 ∨ d = 2 ∨ d = 3 ∨ d = 4 ∨ d = 5 := by omega
  subst hd
  rcases h with rfl | rfl | rfl | rfl <;> rcases h3 with rfl | rfl | rfl | rfl | rfl | rfl <;> rfl
theorem sl_seg {L p x : Nat} (hp : p < 4) (h1 : 5 + 21 * p + 18 ≤ x) (h2 : x ≤ 5 + 21 * p + 20) : (sL L)[x]? = some (2, 6, [0, 0, 0, 0, 0, 0], 0) := by
  obtain ⟨d, hd⟩ : ∃ d, x = 5 + 21 * p + 18 + d := ⟨x - (5 + 21 * p + 18), by omega⟩
  have h : p = 0 ∨ p = 1 ∨ p = 2 ∨ p = 3 := by omega
  have h3 : d = 0 ∨ d = 1 ∨ d = 2 := by omega
  subst hd
  rcases h with rfl | rfl | rfl | rfl <;> rcases h3 with rfl | rfl | rfl <;> rfl
theorem rw_path {L p : Nat} {R : RN} (h : RW R) (hp : p < 4) : pathok L (5 + 21 * p) R := by
  have hs := h.sg p hp
  have h1 := h.pf p hp
  have h2 := h.pb p hp
  refine ⟨sl_path hp, ?_, ⟨?_, ?_, ?_, fun k hk => ⟨_, (h1.1 k hk).1, sl_copyf hp (h1.1 k hk).2.1 (h1.1 k hk).2.2⟩⟩, ⟨?_, ?_, ?_, fun k hk => ⟨_, (h2.1 k hk).1, sl_copyb hp (h2.1 k hk).2.1 (h2.1 k hk).2.2⟩⟩, ?_, fun k hk => ⟨_, (hs.1 k hk).1, sl_seg hp (hs.1 k hk).2.1 (hs.1 k hk).2.2⟩⟩
  all_goals clear hs h1 h2 h
  all_goals
    have h : p = 0 ∨ p = 1 ∨ p = 2 ∨ p = 3 := by omega
    rcases h with rfl | rfl | rfl | rfl
  all_goals first | rfl | exact ⟨rfl, rfl, rfl⟩
/-- pipe e of the class is pipe q of the reference, with n copies -/
def PQ (F : FN) (R : RN) (e : Nat) (g : FN) (q n : Nat) : Prop := n ≤ 6 ∧ F e 1 = nI n ∧ g 124 q = nI n ∧ ∀ k, k < n → F (rx R (e + 1) k) 0 = g 125 (6 * q + k) ∧ F (rx R (e + 1) k) 1 = g 129 (6 * q + k) ∧ F (rx R (e + 1) k) 2 = g 126 (6 * q + k) ∧ F (rx R (e + 1) k) 3 = g 127 (6 * q + k) ∧ F (rx R (e + 1) k) 4 = g 128 (6 * q + k) ∧ F (rx R (e + 1) k) 5 = g 130 (6 * q + k)
/-- a copy that is under way to B: a SYN or DATA -/
def cpF (hi ln : Nat) (k one two un : Int32) : Prop := (k = nI 0 ∧ un = nI 0) ∨ (k = nI 1 ∧ ∃ a b m, one = nI a ∧ two = nI b ∧ un = nI m ∧ 0 < m ∧ m ≤ 7 ∧ 0 < a ∧ a + m ≤ hi ∧ b + m ≤ ln)
/-- to A: an ACK or a REFUSE -/
def cpB (ln : Nat) (k one two three un : Int32) : Prop := un = nI 0 ∧ (k = nI 3 ∨ (k = nI 2 ∧ ∃ a b c, one = nI a ∧ two = nI b ∧ three = nI c ∧ a ≤ 402 ∧ b ≤ ln ∧ c ≤ 457))
theorem cpF_mono {hi hi2 ln ln2 : Nat} {k one two un : Int32} (h1 : hi ≤ hi2) (h2 : ln ≤ ln2) (h : cpF hi ln k one two un) : cpF hi2 ln2 k one two un := by
  rcases h with h | ⟨h, a, b, m, e1, e2, e3, e4, e5, e6, e7, e8⟩
  · exact .inl h
  · exact .inr ⟨h, a, b, m, e1, e2, e3, e4, e5, e6, by omega, by omega⟩
theorem cpB_mono {ln ln2 : Nat} {k one two three un : Int32} (h2 : ln ≤ ln2) (h : cpB ln k one two three un) : cpB ln2 k one two three un := by
  obtain ⟨h0, h | ⟨h, a, b, c, e1, e2, e3, e4, e5, e6⟩⟩ := h
  · exact ⟨h0, .inl h⟩
  · exact ⟨h0, .inr ⟨h, a, b, c, e1, e2, e3, e4, by omega, e6⟩⟩
/-- the numbers of a path -/
abbrev PG : Type := (Nat) × (Nat) × (Nat) × (Nat) × (Nat) × (Nat) × (Nat) × (Nat) × (Nat → Nat) × (Nat → Nat) × (Nat → Nat) × (Nat → Nat) × (Nat → Nat) × (Nat → Nat)
abbrev PG.mk (st : Nat) (to : Nat) (tm : Nat) (lw : Nat) (hi : Nat) (sc : Nat) (fl : Nat) (bl : Nat) (nu : Nat → Nat) (nm : Nat → Nat) (su : Nat → Nat) (sn : Nat → Nat) (tr : Nat → Nat) (pl : Nat → Nat) : PG := (st, to, tm, lw, hi, sc, fl, bl, nu, nm, su, sn, tr, pl)
abbrev PG.st (x_ : PG) : Nat := x_.1
abbrev PG.to (x_ : PG) : Nat := x_.2.1
abbrev PG.tm (x_ : PG) : Nat := x_.2.2.1
abbrev PG.lw (x_ : PG) : Nat := x_.2.2.2.1
abbrev PG.hi (x_ : PG) : Nat := x_.2.2.2.2.1
abbrev PG.sc (x_ : PG) : Nat := x_.2.2.2.2.2.1
abbrev PG.fl (x_ : PG) : Nat := x_.2.2.2.2.2.2.1
abbrev PG.bl (x_ : PG) : Nat := x_.2.2.2.2.2.2.2.1
abbrev PG.nu (x_ : PG) : Nat → Nat := x_.2.2.2.2.2.2.2.2.1
abbrev PG.nm (x_ : PG) : Nat → Nat := x_.2.2.2.2.2.2.2.2.2.1
abbrev PG.su (x_ : PG) : Nat → Nat := x_.2.2.2.2.2.2.2.2.2.2.1
abbrev PG.sn (x_ : PG) : Nat → Nat := x_.2.2.2.2.2.2.2.2.2.2.2.1
abbrev PG.tr (x_ : PG) : Nat → Nat := x_.2.2.2.2.2.2.2.2.2.2.2.2.1
abbrev PG.pl (x_ : PG) : Nat → Nat := x_.2.2.2.2.2.2.2.2.2.2.2.2.2
/-- how many of the first n are not 0 -/
def cnz (f : Nat → Nat) : Nat → Nat
  | 0 => 0
  | n + 1 => cnz f n + (if f n = 0 then 0 else 1)
theorem cnz_le (f : Nat → Nat) : ∀ n, cnz f n ≤ n
  | 0 => Nat.le_refl _
  | n + 1 => by
    have := cnz_le f n
    rw [cnz]
    split <;> omega
/-- path p but its pipes -/
def CX (now ln p : Nat) (γ : PG) (F : FN) (R : RN) (g : FN) : Prop := (F (5 + 21 * p) 3 = nI γ.sc) ∧ (F (5 + 21 * p) 4 = nI γ.hi) ∧ (g 116 p = nI γ.hi) ∧ (g 115 p = nI γ.lw) ∧ (F (5 + 21 * p) 5 = nI γ.st) ∧ (g 107 p = nI γ.st) ∧ (F (5 + 21 * p) 6 = g 108 p) ∧ (F (5 + 21 * p) 7 = g 109 p) ∧ (F (5 + 21 * p) 8 = nI γ.to) ∧ (g 110 p = nI γ.to) ∧ (F (5 + 21 * p) 9 = if γ.tm = 0 then -1 else nI γ.tm) ∧ (g 111 p = nI γ.tm) ∧ (F (5 + 21 * p) 10 = g 112 p) ∧ (F (5 + 21 * p) 11 = g 113 p) ∧ (F (5 + 21 * p) 12 = g 114 p) ∧ (F (5 + 21 * p) 13 = g 117 p) ∧ (γ.sc ≤ 3) ∧ (γ.lw ≤ γ.hi) ∧ (γ.hi ≤ 402) ∧ (γ.st ≤ 4) ∧ (6 ≤ γ.to) ∧ (γ.to ≤ 120) ∧ (γ.tm ≤ now + 120) ∧ (γ.tm ≠ 0 → 0 < γ.sc) ∧ (γ.st = 0 → γ.hi = 0) ∧ (γ.st ≠ 0 → 1 ≤ γ.hi) ∧ (γ.st = 4 → γ.sc = 0) ∧ (∀ j, j < γ.sc → F (rx R (5 + 21 * p + 17) j) 0 = nI (γ.nu j) ∧ F (rx R (5 + 21 * p + 17) j) 1 = nI (γ.nm j) ∧ F (rx R (5 + 21 * p + 17) j) 2 = nI (γ.su j) ∧ F (rx R (5 + 21 * p + 17) j) 3 = nI (γ.sn j) ∧ F (rx R (5 + 21 * p + 17) j) 5 = nI (γ.tr j)) ∧ (∀ j, j < γ.sc → g 121 (402 * p + γ.nu j) = nI (γ.tr j) ∧ g 119 (402 * p + γ.nu j) = nI (γ.nm j)) ∧ (∀ j, j < γ.sc → 1 ≤ γ.nm j ∧ γ.nm j ≤ 7 ∧ 1 ≤ γ.tr j ∧ γ.tr j ≤ now + 1 ∧ (γ.tm = now → γ.tr j ≤ now)) ∧ (∀ j, j < γ.sc → γ.tr j = 1 → F (rx R (5 + 21 * p + 17) j) 4 = g 120 (402 * p + γ.nu j)) ∧ (∀ j, j < γ.sc → ∀ i, 0 < i → i < γ.nm j → g 119 (402 * p + γ.nu j + i) = nI 0) ∧ (∀ m, γ.hi ≤ m → m < 402 → g 119 (402 * p + m) = nI 0) ∧ (∀ m, γ.hi ≤ m → m < 402 → g 121 (402 * p + m) = nI 0) ∧ (γ.st ≠ 4 → 0 < γ.sc → γ.nu 0 = γ.lw) ∧ (γ.st ≠ 4 → γ.sc = 0 → γ.lw = γ.hi) ∧ (∀ j, j + 1 < γ.sc → γ.nu (j + 1) = γ.nu j + γ.nm j) ∧ (∀ j, j + 1 = γ.sc → γ.nu j + γ.nm j = γ.hi) ∧ (∀ j, j < γ.sc → γ.nu j = 0 → γ.sn j = 0 ∧ γ.nm j = 1 ∧ γ.su j = 0) ∧ (∀ j, j < γ.sc → 0 < γ.nu j → γ.sn j = γ.nm j ∧ γ.su j + γ.nm j ≤ ln ∧ ∀ i, i < γ.nm j → γ.pl (γ.su j + i) = γ.nu j + i) ∧ (∀ j, j < γ.sc → 0 < γ.nu j → ∀ i, i < γ.nm j → g 118 (402 * p + (γ.nu j + i)) = nI (γ.su j + i)) ∧ (∀ u, u < 401 → g 122 (402 * p + u) = nI (γ.pl u)) ∧ (∀ u, u < 401 → 0 < γ.pl u → γ.pl u < γ.hi ∧ g 118 (402 * p + γ.pl u) = nI u) ∧ (cnz γ.pl 401 + (if γ.hi = 0 then 0 else 1) = γ.hi)
theorem CX.mk {now ln p : Nat} {γ : PG} {F : FN} {R : RN} {g : FN} (f3 : F (5 + 21 * p) 3 = nI γ.sc) (f4 : F (5 + 21 * p) 4 = nI γ.hi) (g116 : g 116 p = nI γ.hi) (g115 : g 115 p = nI γ.lw) (f5 : F (5 + 21 * p) 5 = nI γ.st) (g107 : g 107 p = nI γ.st) (f6 : F (5 + 21 * p) 6 = g 108 p) (f7 : F (5 + 21 * p) 7 = g 109 p) (f8 : F (5 + 21 * p) 8 = nI γ.to) (g110 : g 110 p = nI γ.to) (f9 : F (5 + 21 * p) 9 = if γ.tm = 0 then -1 else nI γ.tm) (g111 : g 111 p = nI γ.tm) (f10 : F (5 + 21 * p) 10 = g 112 p) (f11 : F (5 + 21 * p) 11 = g 113 p) (f12 : F (5 + 21 * p) 12 = g 114 p) (f13 : F (5 + 21 * p) 13 = g 117 p) (sc3 : γ.sc ≤ 3) (lh : γ.lw ≤ γ.hi) (h402 : γ.hi ≤ 402) (st4 : γ.st ≤ 4) (to6 : 6 ≤ γ.to) (to120 : γ.to ≤ 120) (tmb : γ.tm ≤ now + 120) (t0 : γ.tm ≠ 0 → 0 < γ.sc) (s0 : γ.st = 0 → γ.hi = 0) (s1 : γ.st ≠ 0 → 1 ≤ γ.hi) (s4 : γ.st = 4 → γ.sc = 0) (sg : ∀ j, j < γ.sc → F (rx R (5 + 21 * p + 17) j) 0 = nI (γ.nu j) ∧ F (rx R (5 + 21 * p + 17) j) 1 = nI (γ.nm j) ∧ F (rx R (5 + 21 * p + 17) j) 2 = nI (γ.su j) ∧ F (rx R (5 + 21 * p + 17) j) 3 = nI (γ.sn j) ∧ F (rx R (5 + 21 * p + 17) j) 5 = nI (γ.tr j)) (sh : ∀ j, j < γ.sc → g 121 (402 * p + γ.nu j) = nI (γ.tr j) ∧ g 119 (402 * p + γ.nu j) = nI (γ.nm j)) (sb : ∀ j, j < γ.sc → 1 ≤ γ.nm j ∧ γ.nm j ≤ 7 ∧ 1 ≤ γ.tr j ∧ γ.tr j ≤ now + 1 ∧ (γ.tm = now → γ.tr j ≤ now)) (s8 : ∀ j, j < γ.sc → γ.tr j = 1 → F (rx R (5 + 21 * p + 17) j) 4 = g 120 (402 * p + γ.nu j)) (z1 : ∀ j, j < γ.sc → ∀ i, 0 < i → i < γ.nm j → g 119 (402 * p + γ.nu j + i) = nI 0) (z2 : ∀ m, γ.hi ≤ m → m < 402 → g 119 (402 * p + m) = nI 0) (z3 : ∀ m, γ.hi ≤ m → m < 402 → g 121 (402 * p + m) = nI 0) (ch0 : γ.st ≠ 4 → 0 < γ.sc → γ.nu 0 = γ.lw) (ch1 : γ.st ≠ 4 → γ.sc = 0 → γ.lw = γ.hi) (ch2 : ∀ j, j + 1 < γ.sc → γ.nu (j + 1) = γ.nu j + γ.nm j) (ch3 : ∀ j, j + 1 = γ.sc → γ.nu j + γ.nm j = γ.hi) (sy : ∀ j, j < γ.sc → γ.nu j = 0 → γ.sn j = 0 ∧ γ.nm j = 1 ∧ γ.su j = 0) (dt : ∀ j, j < γ.sc → 0 < γ.nu j → γ.sn j = γ.nm j ∧ γ.su j + γ.nm j ≤ ln ∧ ∀ i, i < γ.nm j → γ.pl (γ.su j + i) = γ.nu j + i) (d2 : ∀ j, j < γ.sc → 0 < γ.nu j → ∀ i, i < γ.nm j → g 118 (402 * p + (γ.nu j + i)) = nI (γ.su j + i)) (pg : ∀ u, u < 401 → g 122 (402 * p + u) = nI (γ.pl u)) (pu : ∀ u, u < 401 → 0 < γ.pl u → γ.pl u < γ.hi ∧ g 118 (402 * p + γ.pl u) = nI u) (pc : cnz γ.pl 401 + (if γ.hi = 0 then 0 else 1) = γ.hi) : CX now ln p γ F R g := ⟨f3, f4, g116, g115, f5, g107, f6, f7, f8, g110, f9, g111, f10, f11, f12, f13, sc3, lh, h402, st4, to6, to120, tmb, t0, s0, s1, s4, sg, sh, sb, s8, z1, z2, z3, ch0, ch1, ch2, ch3, sy, dt, d2, pg, pu, pc⟩
theorem CX.f3 {now ln p : Nat} {γ : PG} {F : FN} {R : RN} {g : FN} (h_ : CX now ln p γ F R g) : F (5 + 21 * p) 3 = nI γ.sc := h_.1
theorem CX.f4 {now ln p : Nat} {γ : PG} {F : FN} {R : RN} {g : FN} (h_ : CX now ln p γ F R g) : F (5 + 21 * p) 4 = nI γ.hi := h_.2.1
theorem CX.g116 {now ln p : Nat} {γ : PG} {F : FN} {R : RN} {g : FN} (h_ : CX now ln p γ F R g) : g 116 p = nI γ.hi := h_.2.2.1
theorem CX.g115 {now ln p : Nat} {γ : PG} {F : FN} {R : RN} {g : FN} (h_ : CX now ln p γ F R g) : g 115 p = nI γ.lw := h_.2.2.2.1
theorem CX.f5 {now ln p : Nat} {γ : PG} {F : FN} {R : RN} {g : FN} (h_ : CX now ln p γ F R g) : F (5 + 21 * p) 5 = nI γ.st := h_.2.2.2.2.1
theorem CX.g107 {now ln p : Nat} {γ : PG} {F : FN} {R : RN} {g : FN} (h_ : CX now ln p γ F R g) : g 107 p = nI γ.st := h_.2.2.2.2.2.1
theorem CX.f6 {now ln p : Nat} {γ : PG} {F : FN} {R : RN} {g : FN} (h_ : CX now ln p γ F R g) : F (5 + 21 * p) 6 = g 108 p := h_.2.2.2.2.2.2.1
theorem CX.f7 {now ln p : Nat} {γ : PG} {F : FN} {R : RN} {g : FN} (h_ : CX now ln p γ F R g) : F (5 + 21 * p) 7 = g 109 p := h_.2.2.2.2.2.2.2.1
theorem CX.f8 {now ln p : Nat} {γ : PG} {F : FN} {R : RN} {g : FN} (h_ : CX now ln p γ F R g) : F (5 + 21 * p) 8 = nI γ.to := h_.2.2.2.2.2.2.2.2.1
theorem CX.g110 {now ln p : Nat} {γ : PG} {F : FN} {R : RN} {g : FN} (h_ : CX now ln p γ F R g) : g 110 p = nI γ.to := h_.2.2.2.2.2.2.2.2.2.1
theorem CX.f9 {now ln p : Nat} {γ : PG} {F : FN} {R : RN} {g : FN} (h_ : CX now ln p γ F R g) : F (5 + 21 * p) 9 = if γ.tm = 0 then -1 else nI γ.tm := h_.2.2.2.2.2.2.2.2.2.2.1
theorem CX.g111 {now ln p : Nat} {γ : PG} {F : FN} {R : RN} {g : FN} (h_ : CX now ln p γ F R g) : g 111 p = nI γ.tm := h_.2.2.2.2.2.2.2.2.2.2.2.1
theorem CX.f10 {now ln p : Nat} {γ : PG} {F : FN} {R : RN} {g : FN} (h_ : CX now ln p γ F R g) : F (5 + 21 * p) 10 = g 112 p := h_.2.2.2.2.2.2.2.2.2.2.2.2.1
theorem CX.f11 {now ln p : Nat} {γ : PG} {F : FN} {R : RN} {g : FN} (h_ : CX now ln p γ F R g) : F (5 + 21 * p) 11 = g 113 p := h_.2.2.2.2.2.2.2.2.2.2.2.2.2.1
theorem CX.f12 {now ln p : Nat} {γ : PG} {F : FN} {R : RN} {g : FN} (h_ : CX now ln p γ F R g) : F (5 + 21 * p) 12 = g 114 p := h_.2.2.2.2.2.2.2.2.2.2.2.2.2.2.1
theorem CX.f13 {now ln p : Nat} {γ : PG} {F : FN} {R : RN} {g : FN} (h_ : CX now ln p γ F R g) : F (5 + 21 * p) 13 = g 117 p := h_.2.2.2.2.2.2.2.2.2.2.2.2.2.2.2.1
theorem CX.sc3 {now ln p : Nat} {γ : PG} {F : FN} {R : RN} {g : FN} (h_ : CX now ln p γ F R g) : γ.sc ≤ 3 := h_.2.2.2.2.2.2.2.2.2.2.2.2.2.2.2.2.1
theorem CX.lh {now ln p : Nat} {γ : PG} {F : FN} {R : RN} {g : FN} (h_ : CX now ln p γ F R g) : γ.lw ≤ γ.hi := h_.2.2.2.2.2.2.2.2.2.2.2.2.2.2.2.2.2.1
theorem CX.h402 {now ln p : Nat} {γ : PG} {F : FN} {R : RN} {g : FN} (h_ : CX now ln p γ F R g) : γ.hi ≤ 402 := h_.2.2.2.2.2.2.2.2.2.2.2.2.2.2.2.2.2.2.1
theorem CX.st4 {now ln p : Nat} {γ : PG} {F : FN} {R : RN} {g : FN} (h_ : CX now ln p γ F R g) : γ.st ≤ 4 := h_.2.2.2.2.2.2.2.2.2.2.2.2.2.2.2.2.2.2.2.1
theorem CX.to6 {now ln p : Nat} {γ : PG} {F : FN} {R : RN} {g : FN} (h_ : CX now ln p γ F R g) : 6 ≤ γ.to := h_.2.2.2.2.2.2.2.2.2.2.2.2.2.2.2.2.2.2.2.2.1
theorem CX.to120 {now ln p : Nat} {γ : PG} {F : FN} {R : RN} {g : FN} (h_ : CX now ln p γ F R g) : γ.to ≤ 120 := h_.2.2.2.2.2.2.2.2.2.2.2.2.2.2.2.2.2.2.2.2.2.1
theorem CX.tmb {now ln p : Nat} {γ : PG} {F : FN} {R : RN} {g : FN} (h_ : CX now ln p γ F R g) : γ.tm ≤ now + 120 := h_.2.2.2.2.2.2.2.2.2.2.2.2.2.2.2.2.2.2.2.2.2.2.1
theorem CX.t0 {now ln p : Nat} {γ : PG} {F : FN} {R : RN} {g : FN} (h_ : CX now ln p γ F R g) : γ.tm ≠ 0 → 0 < γ.sc := h_.2.2.2.2.2.2.2.2.2.2.2.2.2.2.2.2.2.2.2.2.2.2.2.1
theorem CX.s0 {now ln p : Nat} {γ : PG} {F : FN} {R : RN} {g : FN} (h_ : CX now ln p γ F R g) : γ.st = 0 → γ.hi = 0 := h_.2.2.2.2.2.2.2.2.2.2.2.2.2.2.2.2.2.2.2.2.2.2.2.2.1
theorem CX.s1 {now ln p : Nat} {γ : PG} {F : FN} {R : RN} {g : FN} (h_ : CX now ln p γ F R g) : γ.st ≠ 0 → 1 ≤ γ.hi := h_.2.2.2.2.2.2.2.2.2.2.2.2.2.2.2.2.2.2.2.2.2.2.2.2.2.1
theorem CX.s4 {now ln p : Nat} {γ : PG} {F : FN} {R : RN} {g : FN} (h_ : CX now ln p γ F R g) : γ.st = 4 → γ.sc = 0 := h_.2.2.2.2.2.2.2.2.2.2.2.2.2.2.2.2.2.2.2.2.2.2.2.2.2.2.1
theorem CX.sg {now ln p : Nat} {γ : PG} {F : FN} {R : RN} {g : FN} (h_ : CX now ln p γ F R g) : ∀ j, j < γ.sc → F (rx R (5 + 21 * p + 17) j) 0 = nI (γ.nu j) ∧ F (rx R (5 + 21 * p + 17) j) 1 = nI (γ.nm j) ∧ F (rx R (5 + 21 * p + 17) j) 2 = nI (γ.su j) ∧ F (rx R (5 + 21 * p + 17) j) 3 = nI (γ.sn j) ∧ F (rx R (5 + 21 * p + 17) j) 5 = nI (γ.tr j) := h_.2.2.2.2.2.2.2.2.2.2.2.2.2.2.2.2.2.2.2.2.2.2.2.2.2.2.2.1
theorem CX.sh {now ln p : Nat} {γ : PG} {F : FN} {R : RN} {g : FN} (h_ : CX now ln p γ F R g) : ∀ j, j < γ.sc → g 121 (402 * p + γ.nu j) = nI (γ.tr j) ∧ g 119 (402 * p + γ.nu j) = nI (γ.nm j) := h_.2.2.2.2.2.2.2.2.2.2.2.2.2.2.2.2.2.2.2.2.2.2.2.2.2.2.2.2.1
theorem CX.sb {now ln p : Nat} {γ : PG} {F : FN} {R : RN} {g : FN} (h_ : CX now ln p γ F R g) : ∀ j, j < γ.sc → 1 ≤ γ.nm j ∧ γ.nm j ≤ 7 ∧ 1 ≤ γ.tr j ∧ γ.tr j ≤ now + 1 ∧ (γ.tm = now → γ.tr j ≤ now) := h_.2.2.2.2.2.2.2.2.2.2.2.2.2.2.2.2.2.2.2.2.2.2.2.2.2.2.2.2.2.1
theorem CX.s8 {now ln p : Nat} {γ : PG} {F : FN} {R : RN} {g : FN} (h_ : CX now ln p γ F R g) : ∀ j, j < γ.sc → γ.tr j = 1 → F (rx R (5 + 21 * p + 17) j) 4 = g 120 (402 * p + γ.nu j) := h_.2.2.2.2.2.2.2.2.2.2.2.2.2.2.2.2.2.2.2.2.2.2.2.2.2.2.2.2.2.2.1
theorem CX.z1 {now ln p : Nat} {γ : PG} {F : FN} {R : RN} {g : FN} (h_ : CX now ln p γ F R g) : ∀ j, j < γ.sc → ∀ i, 0 < i → i < γ.nm j → g 119 (402 * p + γ.nu j + i) = nI 0 := h_.2.2.2.2.2.2.2.2.2.2.2.2.2.2.2.2.2.2.2.2.2.2.2.2.2.2.2.2.2.2.2.1
theorem CX.z2 {now ln p : Nat} {γ : PG} {F : FN} {R : RN} {g : FN} (h_ : CX now ln p γ F R g) : ∀ m, γ.hi ≤ m → m < 402 → g 119 (402 * p + m) = nI 0 := h_.2.2.2.2.2.2.2.2.2.2.2.2.2.2.2.2.2.2.2.2.2.2.2.2.2.2.2.2.2.2.2.2.1
theorem CX.z3 {now ln p : Nat} {γ : PG} {F : FN} {R : RN} {g : FN} (h_ : CX now ln p γ F R g) : ∀ m, γ.hi ≤ m → m < 402 → g 121 (402 * p + m) = nI 0 := h_.2.2.2.2.2.2.2.2.2.2.2.2.2.2.2.2.2.2.2.2.2.2.2.2.2.2.2.2.2.2.2.2.2.1
theorem CX.ch0 {now ln p : Nat} {γ : PG} {F : FN} {R : RN} {g : FN} (h_ : CX now ln p γ F R g) : γ.st ≠ 4 → 0 < γ.sc → γ.nu 0 = γ.lw := h_.2.2.2.2.2.2.2.2.2.2.2.2.2.2.2.2.2.2.2.2.2.2.2.2.2.2.2.2.2.2.2.2.2.2.1
theorem CX.ch1 {now ln p : Nat} {γ : PG} {F : FN} {R : RN} {g : FN} (h_ : CX now ln p γ F R g) : γ.st ≠ 4 → γ.sc = 0 → γ.lw = γ.hi := h_.2.2.2.2.2.2.2.2.2.2.2.2.2.2.2.2.2.2.2.2.2.2.2.2.2.2.2.2.2.2.2.2.2.2.2.1
theorem CX.ch2 {now ln p : Nat} {γ : PG} {F : FN} {R : RN} {g : FN} (h_ : CX now ln p γ F R g) : ∀ j, j + 1 < γ.sc → γ.nu (j + 1) = γ.nu j + γ.nm j := h_.2.2.2.2.2.2.2.2.2.2.2.2.2.2.2.2.2.2.2.2.2.2.2.2.2.2.2.2.2.2.2.2.2.2.2.2.1
theorem CX.ch3 {now ln p : Nat} {γ : PG} {F : FN} {R : RN} {g : FN} (h_ : CX now ln p γ F R g) : ∀ j, j + 1 = γ.sc → γ.nu j + γ.nm j = γ.hi := h_.2.2.2.2.2.2.2.2.2.2.2.2.2.2.2.2.2.2.2.2.2.2.2.2.2.2.2.2.2.2.2.2.2.2.2.2.2.1
theorem CX.sy {now ln p : Nat} {γ : PG} {F : FN} {R : RN} {g : FN} (h_ : CX now ln p γ F R g) : ∀ j, j < γ.sc → γ.nu j = 0 → γ.sn j = 0 ∧ γ.nm j = 1 ∧ γ.su j = 0 := h_.2.2.2.2.2.2.2.2.2.2.2.2.2.2.2.2.2.2.2.2.2.2.2.2.2.2.2.2.2.2.2.2.2.2.2.2.2.2.1
theorem CX.dt {now ln p : Nat} {γ : PG} {F : FN} {R : RN} {g : FN} (h_ : CX now ln p γ F R g) : ∀ j, j < γ.sc → 0 < γ.nu j → γ.sn j = γ.nm j ∧ γ.su j + γ.nm j ≤ ln ∧ ∀ i, i < γ.nm j → γ.pl (γ.su j + i) = γ.nu j + i := h_.2.2.2.2.2.2.2.2.2.2.2.2.2.2.2.2.2.2.2.2.2.2.2.2.2.2.2.2.2.2.2.2.2.2.2.2.2.2.2.1
theorem CX.d2 {now ln p : Nat} {γ : PG} {F : FN} {R : RN} {g : FN} (h_ : CX now ln p γ F R g) : ∀ j, j < γ.sc → 0 < γ.nu j → ∀ i, i < γ.nm j → g 118 (402 * p + (γ.nu j + i)) = nI (γ.su j + i) := h_.2.2.2.2.2.2.2.2.2.2.2.2.2.2.2.2.2.2.2.2.2.2.2.2.2.2.2.2.2.2.2.2.2.2.2.2.2.2.2.2.1
theorem CX.pg {now ln p : Nat} {γ : PG} {F : FN} {R : RN} {g : FN} (h_ : CX now ln p γ F R g) : ∀ u, u < 401 → g 122 (402 * p + u) = nI (γ.pl u) := h_.2.2.2.2.2.2.2.2.2.2.2.2.2.2.2.2.2.2.2.2.2.2.2.2.2.2.2.2.2.2.2.2.2.2.2.2.2.2.2.2.2.1
theorem CX.pu {now ln p : Nat} {γ : PG} {F : FN} {R : RN} {g : FN} (h_ : CX now ln p γ F R g) : ∀ u, u < 401 → 0 < γ.pl u → γ.pl u < γ.hi ∧ g 118 (402 * p + γ.pl u) = nI u := h_.2.2.2.2.2.2.2.2.2.2.2.2.2.2.2.2.2.2.2.2.2.2.2.2.2.2.2.2.2.2.2.2.2.2.2.2.2.2.2.2.2.2.1
theorem CX.pc {now ln p : Nat} {γ : PG} {F : FN} {R : RN} {g : FN} (h_ : CX now ln p γ F R g) : cnz γ.pl 401 + (if γ.hi = 0 then 0 else 1) = γ.hi := h_.2.2.2.2.2.2.2.2.2.2.2.2.2.2.2.2.2.2.2.2.2.2.2.2.2.2.2.2.2.2.2.2.2.2.2.2.2.2.2.2.2.2.2
/-- the pipes of path p -/
def CY (ln p : Nat) (γ : PG) (F : FN) (R : RN) (g : FN) : Prop := (PQ F R (5 + 21 * p + 1) g (2 * p) γ.fl) ∧ (PQ F R (5 + 21 * p + 9) g (2 * p + 1) γ.bl) ∧ (∀ k, k < γ.fl → cpF γ.hi ln (g 125 (6 * (2 * p) + k)) (g 126 (6 * (2 * p) + k)) (g 127 (6 * (2 * p) + k)) (g 129 (6 * (2 * p) + k))) ∧ (∀ k, k < γ.bl → cpB ln (g 125 (6 * (2 * p + 1) + k)) (g 126 (6 * (2 * p + 1) + k)) (g 127 (6 * (2 * p + 1) + k)) (g 128 (6 * (2 * p + 1) + k)) (g 129 (6 * (2 * p + 1) + k))) ∧ (γ.st = 4 ∨ γ.st = 0 → γ.fl = 0 ∧ γ.bl = 0)
theorem CY.mk {ln p : Nat} {γ : PG} {F : FN} {R : RN} {g : FN} (qf : PQ F R (5 + 21 * p + 1) g (2 * p) γ.fl) (qb : PQ F R (5 + 21 * p + 9) g (2 * p + 1) γ.bl) (cf : ∀ k, k < γ.fl → cpF γ.hi ln (g 125 (6 * (2 * p) + k)) (g 126 (6 * (2 * p) + k)) (g 127 (6 * (2 * p) + k)) (g 129 (6 * (2 * p) + k))) (cb : ∀ k, k < γ.bl → cpB ln (g 125 (6 * (2 * p + 1) + k)) (g 126 (6 * (2 * p + 1) + k)) (g 127 (6 * (2 * p + 1) + k)) (g 128 (6 * (2 * p + 1) + k)) (g 129 (6 * (2 * p + 1) + k))) (s4 : γ.st = 4 ∨ γ.st = 0 → γ.fl = 0 ∧ γ.bl = 0) : CY ln p γ F R g := ⟨qf, qb, cf, cb, s4⟩
theorem CY.qf {ln p : Nat} {γ : PG} {F : FN} {R : RN} {g : FN} (h_ : CY ln p γ F R g) : PQ F R (5 + 21 * p + 1) g (2 * p) γ.fl := h_.1
theorem CY.qb {ln p : Nat} {γ : PG} {F : FN} {R : RN} {g : FN} (h_ : CY ln p γ F R g) : PQ F R (5 + 21 * p + 9) g (2 * p + 1) γ.bl := h_.2.1
theorem CY.cf {ln p : Nat} {γ : PG} {F : FN} {R : RN} {g : FN} (h_ : CY ln p γ F R g) : ∀ k, k < γ.fl → cpF γ.hi ln (g 125 (6 * (2 * p) + k)) (g 126 (6 * (2 * p) + k)) (g 127 (6 * (2 * p) + k)) (g 129 (6 * (2 * p) + k)) := h_.2.2.1
theorem CY.cb {ln p : Nat} {γ : PG} {F : FN} {R : RN} {g : FN} (h_ : CY ln p γ F R g) : ∀ k, k < γ.bl → cpB ln (g 125 (6 * (2 * p + 1) + k)) (g 126 (6 * (2 * p + 1) + k)) (g 127 (6 * (2 * p + 1) + k)) (g 128 (6 * (2 * p + 1) + k)) (g 129 (6 * (2 * p + 1) + k)) := h_.2.2.2.1
theorem CY.s4 {ln p : Nat} {γ : PG} {F : FN} {R : RN} {g : FN} (h_ : CY ln p γ F R g) : γ.st = 4 ∨ γ.st = 0 → γ.fl = 0 ∧ γ.bl = 0 := h_.2.2.2.2
/-- the numbers of the whole -/
abbrev TG : Type := (Nat) × (Nat) × (Nat) × (Nat) × (Nat) × (Nat) × (Nat) × (Nat) × (Nat) × (Nat) × (Nat → Nat) × (Nat → Nat)
abbrev TG.mk (now : Nat) (ct : Nat) (ln : Nat) (en : Nat) (kn : Nat) (ed : Nat) (ms : Nat) (bu : Nat) (nx : Nat) (rc : Nat) (tx : Nat → Nat) (ex : Nat → Nat) : TG := (now, ct, ln, en, kn, ed, ms, bu, nx, rc, tx, ex)
abbrev TG.now (x_ : TG) : Nat := x_.1
abbrev TG.ct (x_ : TG) : Nat := x_.2.1
abbrev TG.ln (x_ : TG) : Nat := x_.2.2.1
abbrev TG.en (x_ : TG) : Nat := x_.2.2.2.1
abbrev TG.kn (x_ : TG) : Nat := x_.2.2.2.2.1
abbrev TG.ed (x_ : TG) : Nat := x_.2.2.2.2.2.1
abbrev TG.ms (x_ : TG) : Nat := x_.2.2.2.2.2.2.1
abbrev TG.bu (x_ : TG) : Nat := x_.2.2.2.2.2.2.2.1
abbrev TG.nx (x_ : TG) : Nat := x_.2.2.2.2.2.2.2.2.1
abbrev TG.rc (x_ : TG) : Nat := x_.2.2.2.2.2.2.2.2.2.1
abbrev TG.tx (x_ : TG) : Nat → Nat := x_.2.2.2.2.2.2.2.2.2.2.1
abbrev TG.ex (x_ : TG) : Nat → Nat := x_.2.2.2.2.2.2.2.2.2.2.2
/-- what is not of a path -/
def CT (θ : TG) (F G f g : FN) : Prop := (F 1 5 = nI θ.now) ∧ (f 103 3 = nI θ.now) ∧ (F 2 1 = nI θ.ln) ∧ (F 2 2 = nI θ.en) ∧ (f 103 6 = nI θ.en) ∧ (f 103 5 = nI θ.ct) ∧ (θ.en ≤ 1) ∧ (θ.ln = θ.ct + θ.en) ∧ (θ.ct ≤ 400) ∧ (∀ u, u < 400 → g 104 u = nI (θ.tx u)) ∧ (∀ u, u < 400 → θ.tx u ≤ 255) ∧ (∀ u, u < θ.ln → G 3 u = nI (if u = θ.ct then 256 else θ.tx u)) ∧ (F 89 5 = nI θ.kn) ∧ (f 103 22 = nI θ.kn) ∧ (θ.kn ≤ θ.ln) ∧ (F 89 6 = nI θ.ed) ∧ (f 103 23 = nI θ.ed) ∧ (θ.ed ≤ 457) ∧ (F 89 2 = nI θ.ms) ∧ (f 103 0 = nI θ.ms) ∧ (1 ≤ θ.ms) ∧ (θ.ms ≤ 7) ∧ (F 89 7 = f 103 24) ∧ (F 89 8 = f 103 25) ∧ (∀ u, u < 401 → G 91 u = g 123 u) ∧ (F 92 1 = nI θ.bu) ∧ (f 103 1 = nI θ.bu) ∧ (θ.bu ≤ 56) ∧ (F 92 2 = f 103 2) ∧ (F 1 0 = f 103 2) ∧ (F 92 5 = nI θ.rc) ∧ (θ.rc = lead (g 106) 401 0) ∧ (∀ u, u < 401 → θ.ln ≤ u → g 106 u = 0) ∧ (F 92 6 = nI θ.nx) ∧ (f 103 10 = nI θ.nx) ∧ (θ.nx ≤ θ.rc) ∧ (F 92 7 = f 103 9) ∧ (∀ u, u < 401 → G 94 u = g 106 u) ∧ (∀ p, p < 4 → F (95 + 2 * p) 1 = nI (θ.ex p)) ∧ (∀ p, p < 4 → θ.ex p = lead (fun k => g 105 (402 * p + k)) 402 0) ∧ (∀ p, p < 4 → ∀ k, k < 402 → G (95 + 2 * p + 1) k = g 105 (402 * p + k))
theorem CT.mk {θ : TG} {F G f g : FN} (n1 : F 1 5 = nI θ.now) (n2 : f 103 3 = nI θ.now) (l1 : F 2 1 = nI θ.ln) (l2 : F 2 2 = nI θ.en) (l3 : f 103 6 = nI θ.en) (l4 : f 103 5 = nI θ.ct) (en1 : θ.en ≤ 1) (lc : θ.ln = θ.ct + θ.en) (ct4 : θ.ct ≤ 400) (tx1 : ∀ u, u < 400 → g 104 u = nI (θ.tx u)) (tx2 : ∀ u, u < 400 → θ.tx u ≤ 255) (vl : ∀ u, u < θ.ln → G 3 u = nI (if u = θ.ct then 256 else θ.tx u)) (a5 : F 89 5 = nI θ.kn) (fa5 : f 103 22 = nI θ.kn) (kl : θ.kn ≤ θ.ln) (a6 : F 89 6 = nI θ.ed) (fa6 : f 103 23 = nI θ.ed) (ed4 : θ.ed ≤ 457) (a2 : F 89 2 = nI θ.ms) (fa2 : f 103 0 = nI θ.ms) (ms1 : 1 ≤ θ.ms) (ms7 : θ.ms ≤ 7) (a7 : F 89 7 = f 103 24) (a8 : F 89 8 = f 103 25) (a9 : ∀ u, u < 401 → G 91 u = g 123 u) (b1 : F 92 1 = nI θ.bu) (fb1 : f 103 1 = nI θ.bu) (bu5 : θ.bu ≤ 56) (b2 : F 92 2 = f 103 2) (b0 : F 1 0 = f 103 2) (b5 : F 92 5 = nI θ.rc) (rcl : θ.rc = lead (g 106) 401 0) (hu : ∀ u, u < 401 → θ.ln ≤ u → g 106 u = 0) (b6 : F 92 6 = nI θ.nx) (fb6 : f 103 10 = nI θ.nx) (nxr : θ.nx ≤ θ.rc) (b7 : F 92 7 = f 103 9) (b4 : ∀ u, u < 401 → G 94 u = g 106 u) (e1 : ∀ p, p < 4 → F (95 + 2 * p) 1 = nI (θ.ex p)) (e2 : ∀ p, p < 4 → θ.ex p = lead (fun k => g 105 (402 * p + k)) 402 0) (e3 : ∀ p, p < 4 → ∀ k, k < 402 → G (95 + 2 * p + 1) k = g 105 (402 * p + k)) : CT θ F G f g := ⟨n1, n2, l1, l2, l3, l4, en1, lc, ct4, tx1, tx2, vl, a5, fa5, kl, a6, fa6, ed4, a2, fa2, ms1, ms7, a7, a8, a9, b1, fb1, bu5, b2, b0, b5, rcl, hu, b6, fb6, nxr, b7, b4, e1, e2, e3⟩
theorem CT.n1 {θ : TG} {F G f g : FN} (h_ : CT θ F G f g) : F 1 5 = nI θ.now := h_.1
theorem CT.n2 {θ : TG} {F G f g : FN} (h_ : CT θ F G f g) : f 103 3 = nI θ.now := h_.2.1
theorem CT.l1 {θ : TG} {F G f g : FN} (h_ : CT θ F G f g) : F 2 1 = nI θ.ln := h_.2.2.1
theorem CT.l2 {θ : TG} {F G f g : FN} (h_ : CT θ F G f g) : F 2 2 = nI θ.en := h_.2.2.2.1
theorem CT.l3 {θ : TG} {F G f g : FN} (h_ : CT θ F G f g) : f 103 6 = nI θ.en := h_.2.2.2.2.1
theorem CT.l4 {θ : TG} {F G f g : FN} (h_ : CT θ F G f g) : f 103 5 = nI θ.ct := h_.2.2.2.2.2.1
theorem CT.en1 {θ : TG} {F G f g : FN} (h_ : CT θ F G f g) : θ.en ≤ 1 := h_.2.2.2.2.2.2.1
theorem CT.lc {θ : TG} {F G f g : FN} (h_ : CT θ F G f g) : θ.ln = θ.ct + θ.en := h_.2.2.2.2.2.2.2.1
theorem CT.ct4 {θ : TG} {F G f g : FN} (h_ : CT θ F G f g) : θ.ct ≤ 400 := h_.2.2.2.2.2.2.2.2.1
theorem CT.tx1 {θ : TG} {F G f g : FN} (h_ : CT θ F G f g) : ∀ u, u < 400 → g 104 u = nI (θ.tx u) := h_.2.2.2.2.2.2.2.2.2.1
theorem CT.tx2 {θ : TG} {F G f g : FN} (h_ : CT θ F G f g) : ∀ u, u < 400 → θ.tx u ≤ 255 := h_.2.2.2.2.2.2.2.2.2.2.1
theorem CT.vl {θ : TG} {F G f g : FN} (h_ : CT θ F G f g) : ∀ u, u < θ.ln → G 3 u = nI (if u = θ.ct then 256 else θ.tx u) := h_.2.2.2.2.2.2.2.2.2.2.2.1
theorem CT.a5 {θ : TG} {F G f g : FN} (h_ : CT θ F G f g) : F 89 5 = nI θ.kn := h_.2.2.2.2.2.2.2.2.2.2.2.2.1
theorem CT.fa5 {θ : TG} {F G f g : FN} (h_ : CT θ F G f g) : f 103 22 = nI θ.kn := h_.2.2.2.2.2.2.2.2.2.2.2.2.2.1
theorem CT.kl {θ : TG} {F G f g : FN} (h_ : CT θ F G f g) : θ.kn ≤ θ.ln := h_.2.2.2.2.2.2.2.2.2.2.2.2.2.2.1
theorem CT.a6 {θ : TG} {F G f g : FN} (h_ : CT θ F G f g) : F 89 6 = nI θ.ed := h_.2.2.2.2.2.2.2.2.2.2.2.2.2.2.2.1
theorem CT.fa6 {θ : TG} {F G f g : FN} (h_ : CT θ F G f g) : f 103 23 = nI θ.ed := h_.2.2.2.2.2.2.2.2.2.2.2.2.2.2.2.2.1
theorem CT.ed4 {θ : TG} {F G f g : FN} (h_ : CT θ F G f g) : θ.ed ≤ 457 := h_.2.2.2.2.2.2.2.2.2.2.2.2.2.2.2.2.2.1
theorem CT.a2 {θ : TG} {F G f g : FN} (h_ : CT θ F G f g) : F 89 2 = nI θ.ms := h_.2.2.2.2.2.2.2.2.2.2.2.2.2.2.2.2.2.2.1
theorem CT.fa2 {θ : TG} {F G f g : FN} (h_ : CT θ F G f g) : f 103 0 = nI θ.ms := h_.2.2.2.2.2.2.2.2.2.2.2.2.2.2.2.2.2.2.2.1
theorem CT.ms1 {θ : TG} {F G f g : FN} (h_ : CT θ F G f g) : 1 ≤ θ.ms := h_.2.2.2.2.2.2.2.2.2.2.2.2.2.2.2.2.2.2.2.2.1
theorem CT.ms7 {θ : TG} {F G f g : FN} (h_ : CT θ F G f g) : θ.ms ≤ 7 := h_.2.2.2.2.2.2.2.2.2.2.2.2.2.2.2.2.2.2.2.2.2.1
theorem CT.a7 {θ : TG} {F G f g : FN} (h_ : CT θ F G f g) : F 89 7 = f 103 24 := h_.2.2.2.2.2.2.2.2.2.2.2.2.2.2.2.2.2.2.2.2.2.2.1
theorem CT.a8 {θ : TG} {F G f g : FN} (h_ : CT θ F G f g) : F 89 8 = f 103 25 := h_.2.2.2.2.2.2.2.2.2.2.2.2.2.2.2.2.2.2.2.2.2.2.2.1
theorem CT.a9 {θ : TG} {F G f g : FN} (h_ : CT θ F G f g) : ∀ u, u < 401 → G 91 u = g 123 u := h_.2.2.2.2.2.2.2.2.2.2.2.2.2.2.2.2.2.2.2.2.2.2.2.2.1
theorem CT.b1 {θ : TG} {F G f g : FN} (h_ : CT θ F G f g) : F 92 1 = nI θ.bu := h_.2.2.2.2.2.2.2.2.2.2.2.2.2.2.2.2.2.2.2.2.2.2.2.2.2.1
theorem CT.fb1 {θ : TG} {F G f g : FN} (h_ : CT θ F G f g) : f 103 1 = nI θ.bu := h_.2.2.2.2.2.2.2.2.2.2.2.2.2.2.2.2.2.2.2.2.2.2.2.2.2.2.1
theorem CT.bu5 {θ : TG} {F G f g : FN} (h_ : CT θ F G f g) : θ.bu ≤ 56 := h_.2.2.2.2.2.2.2.2.2.2.2.2.2.2.2.2.2.2.2.2.2.2.2.2.2.2.2.1
theorem CT.b2 {θ : TG} {F G f g : FN} (h_ : CT θ F G f g) : F 92 2 = f 103 2 := h_.2.2.2.2.2.2.2.2.2.2.2.2.2.2.2.2.2.2.2.2.2.2.2.2.2.2.2.2.1
theorem CT.b0 {θ : TG} {F G f g : FN} (h_ : CT θ F G f g) : F 1 0 = f 103 2 := h_.2.2.2.2.2.2.2.2.2.2.2.2.2.2.2.2.2.2.2.2.2.2.2.2.2.2.2.2.2.1
theorem CT.b5 {θ : TG} {F G f g : FN} (h_ : CT θ F G f g) : F 92 5 = nI θ.rc := h_.2.2.2.2.2.2.2.2.2.2.2.2.2.2.2.2.2.2.2.2.2.2.2.2.2.2.2.2.2.2.1
theorem CT.rcl {θ : TG} {F G f g : FN} (h_ : CT θ F G f g) : θ.rc = lead (g 106) 401 0 := h_.2.2.2.2.2.2.2.2.2.2.2.2.2.2.2.2.2.2.2.2.2.2.2.2.2.2.2.2.2.2.2.1
theorem CT.hu {θ : TG} {F G f g : FN} (h_ : CT θ F G f g) : ∀ u, u < 401 → θ.ln ≤ u → g 106 u = 0 := h_.2.2.2.2.2.2.2.2.2.2.2.2.2.2.2.2.2.2.2.2.2.2.2.2.2.2.2.2.2.2.2.2.1
theorem CT.b6 {θ : TG} {F G f g : FN} (h_ : CT θ F G f g) : F 92 6 = nI θ.nx := h_.2.2.2.2.2.2.2.2.2.2.2.2.2.2.2.2.2.2.2.2.2.2.2.2.2.2.2.2.2.2.2.2.2.1
theorem CT.fb6 {θ : TG} {F G f g : FN} (h_ : CT θ F G f g) : f 103 10 = nI θ.nx := h_.2.2.2.2.2.2.2.2.2.2.2.2.2.2.2.2.2.2.2.2.2.2.2.2.2.2.2.2.2.2.2.2.2.2.1
theorem CT.nxr {θ : TG} {F G f g : FN} (h_ : CT θ F G f g) : θ.nx ≤ θ.rc := h_.2.2.2.2.2.2.2.2.2.2.2.2.2.2.2.2.2.2.2.2.2.2.2.2.2.2.2.2.2.2.2.2.2.2.2.1
theorem CT.b7 {θ : TG} {F G f g : FN} (h_ : CT θ F G f g) : F 92 7 = f 103 9 := h_.2.2.2.2.2.2.2.2.2.2.2.2.2.2.2.2.2.2.2.2.2.2.2.2.2.2.2.2.2.2.2.2.2.2.2.2.1
theorem CT.b4 {θ : TG} {F G f g : FN} (h_ : CT θ F G f g) : ∀ u, u < 401 → G 94 u = g 106 u := h_.2.2.2.2.2.2.2.2.2.2.2.2.2.2.2.2.2.2.2.2.2.2.2.2.2.2.2.2.2.2.2.2.2.2.2.2.2.1
theorem CT.e1 {θ : TG} {F G f g : FN} (h_ : CT θ F G f g) : ∀ p, p < 4 → F (95 + 2 * p) 1 = nI (θ.ex p) := h_.2.2.2.2.2.2.2.2.2.2.2.2.2.2.2.2.2.2.2.2.2.2.2.2.2.2.2.2.2.2.2.2.2.2.2.2.2.2.1
theorem CT.e2 {θ : TG} {F G f g : FN} (h_ : CT θ F G f g) : ∀ p, p < 4 → θ.ex p = lead (fun k => g 105 (402 * p + k)) 402 0 := h_.2.2.2.2.2.2.2.2.2.2.2.2.2.2.2.2.2.2.2.2.2.2.2.2.2.2.2.2.2.2.2.2.2.2.2.2.2.2.2.1
theorem CT.e3 {θ : TG} {F G f g : FN} (h_ : CT θ F G f g) : ∀ p, p < 4 → ∀ k, k < 402 → G (95 + 2 * p + 1) k = g 105 (402 * p + k) := h_.2.2.2.2.2.2.2.2.2.2.2.2.2.2.2.2.2.2.2.2.2.2.2.2.2.2.2.2.2.2.2.2.2.2.2.2.2.2.2.2
def CI (θ : TG) (Γ : Nat → PG) (F G : FN) (R : RN) (f g : FN) : Prop := (RW R) ∧ (CT θ F G f g) ∧ (∀ u, u < 401 → (G 90 u = 0 ↔ ∀ p, p < 4 → ¬ (0 < (Γ p).pl u ∧ (Γ p).pl u < (Γ p).lw))) ∧ (∀ p, p < 4 → CX θ.now θ.ln p (Γ p) F R g) ∧ (∀ p, p < 4 → CY θ.ln p (Γ p) F R g)
theorem CI.mk {θ : TG} {Γ : Nat → PG} {F G : FN} {R : RN} {f g : FN} (rw : RW R) (ct : CT θ F G f g) (st : ∀ u, u < 401 → (G 90 u = 0 ↔ ∀ p, p < 4 → ¬ (0 < (Γ p).pl u ∧ (Γ p).pl u < (Γ p).lw))) (px : ∀ p, p < 4 → CX θ.now θ.ln p (Γ p) F R g) (py : ∀ p, p < 4 → CY θ.ln p (Γ p) F R g) : CI θ Γ F G R f g := ⟨rw, ct, st, px, py⟩
theorem CI.rw {θ : TG} {Γ : Nat → PG} {F G : FN} {R : RN} {f g : FN} (h_ : CI θ Γ F G R f g) : RW R := h_.1
theorem CI.ct {θ : TG} {Γ : Nat → PG} {F G : FN} {R : RN} {f g : FN} (h_ : CI θ Γ F G R f g) : CT θ F G f g := h_.2.1
theorem CI.st {θ : TG} {Γ : Nat → PG} {F G : FN} {R : RN} {f g : FN} (h_ : CI θ Γ F G R f g) : ∀ u, u < 401 → (G 90 u = 0 ↔ ∀ p, p < 4 → ¬ (0 < (Γ p).pl u ∧ (Γ p).pl u < (Γ p).lw)) := h_.2.2.1
theorem CI.px {θ : TG} {Γ : Nat → PG} {F G : FN} {R : RN} {f g : FN} (h_ : CI θ Γ F G R f g) : ∀ p, p < 4 → CX θ.now θ.ln p (Γ p) F R g := h_.2.2.2.1
theorem CI.py {θ : TG} {Γ : Nat → PG} {F G : FN} {R : RN} {f g : FN} (h_ : CI θ Γ F G R f g) : ∀ p, p < 4 → CY θ.ln p (Γ p) F R g := h_.2.2.2.2
/-! What a memory may change without touching a part. -/
theorem rx_row {R R2 : RN} {i k : Nat} (h : R2 i = R i) : rx R2 i k = rx R i k := by
  unfold rx
  rw [h]
theorem CX_hn {now ln p : Nat} {γ : PG} {F : FN} {R : RN} {g : FN} (h : CX now ln p γ F R g) {j : Nat} (hj : j < γ.sc) : γ.nu j + γ.nm j ≤ γ.hi := by
  have c1 := h.ch2
  have c2 := h.ch3
  have c3 := h.sc3
  have d0 : 1 < γ.sc → γ.nu 1 = γ.nu 0 + γ.nm 0 := fun q => c1 0 q
  have d1 : 2 < γ.sc → γ.nu 2 = γ.nu 1 + γ.nm 1 := fun q => c1 1 q
  have e1 : 1 = γ.sc → γ.nu 0 + γ.nm 0 = γ.hi := fun q => c2 0 q
  have e2 : 2 = γ.sc → γ.nu 1 + γ.nm 1 = γ.hi := fun q => c2 1 q
  have e3 : 3 = γ.sc → γ.nu 2 + γ.nm 2 = γ.hi := fun q => c2 2 q
  have : j = 0 ∨ j = 1 ∨ j = 2 := by omega
  rcases this with t | t | t <;> subst t <;> omega
theorem CX_congr {now ln ln2 p : Nat} {γ : PG} {F F2 : FN} {R R2 : RN} {g g2 : FN} (hS : segR (5 + 21 * p) R) (h : CX now ln p γ F R g) (hl : ln ≤ ln2)
    (hR : R2 (5 + 21 * p + 17) = R (5 + 21 * p + 17)) (h0 : ∀ k, 3 ≤ k → F2 (5 + 21 * p) k = F (5 + 21 * p) k) (h1 : ∀ i k, 5 + 21 * p + 18 ≤ i → i ≤ 5 + 21 * p + 20 → F2 i k = F i k)
    (h2 : ∀ r, 107 ≤ r → r ≤ 117 → g2 r p = g r p) (h3 : ∀ r m, 118 ≤ r → r ≤ 122 → m < 402 → g2 r (402 * p + m) = g r (402 * p + m)) : CX now ln2 p γ F2 R2 g2 := by
  have hr : ∀ j, rx R2 (5 + 21 * p + 17) j = rx R (5 + 21 * p + 17) j := fun j => rx_row hR
  have hs3 := h.sc3
  have hh := h.h402
  have hb : ∀ j, j < γ.sc → ∀ k, F2 (rx R (5 + 21 * p + 17) j) k = F (rx R (5 + 21 * p + 17) j) k := fun j hj k => h1 _ _ (hS.1 j (by omega)).2.1 (hS.1 j (by omega)).2.2
  have hn : ∀ j, j < γ.sc → γ.nu j + γ.nm j ≤ γ.hi := fun j hj => CX_hn h hj
  have hpos := fun j hj => (h.sb j hj).1
  refine CX.mk (f3 := ?_) (f4 := ?_) (g116 := ?_) (g115 := ?_) (f5 := ?_) (g107 := ?_) (f6 := ?_) (f7 := ?_) (f8 := ?_) (g110 := ?_) (f9 := ?_) (g111 := ?_) (f10 := ?_) (f11 := ?_) (f12 := ?_) (f13 := ?_) (sc3 := h.sc3) (lh := h.lh) (h402 := h.h402) (st4 := h.st4) (to6 := h.to6) (to120 := h.to120) (tmb := h.tmb) (t0 := h.t0) (s0 := h.s0) (s1 := h.s1) (s4 := h.s4) (sg := ?_) (sh := ?_) (sb := h.sb) (s8 := ?_) (z1 := ?_) (z2 := ?_) (z3 := ?_) (ch0 := h.ch0) (ch1 := h.ch1) (ch2 := h.ch2) (ch3 := h.ch3) (sy := h.sy) (dt := ?_) (d2 := ?_) (pg := ?_) (pu := ?_) (pc := h.pc)
  · rw [h0 3 (by omega)]; exact h.f3
  · rw [h0 4 (by omega)]; exact h.f4
  · rw [h2 116 (by omega) (by omega)]; exact h.g116
  · rw [h2 115 (by omega) (by omega)]; exact h.g115
  · rw [h0 5 (by omega)]; exact h.f5
  · rw [h2 107 (by omega) (by omega)]; exact h.g107
  · rw [h0 6 (by omega), h2 108 (by omega) (by omega)]; exact h.f6
  · rw [h0 7 (by omega), h2 109 (by omega) (by omega)]; exact h.f7
  · rw [h0 8 (by omega)]; exact h.f8
  · rw [h2 110 (by omega) (by omega)]; exact h.g110
  · rw [h0 9 (by omega)]; exact h.f9
  · rw [h2 111 (by omega) (by omega)]; exact h.g111
  · rw [h0 10 (by omega), h2 112 (by omega) (by omega)]; exact h.f10
  · rw [h0 11 (by omega), h2 113 (by omega) (by omega)]; exact h.f11
  · rw [h0 12 (by omega), h2 114 (by omega) (by omega)]; exact h.f12
  · rw [h0 13 (by omega), h2 117 (by omega) (by omega)]; exact h.f13
  · intro j hj
    rw [hr, hb j hj, hb j hj, hb j hj, hb j hj, hb j hj]
    exact h.sg j hj
  · intro j hj
    have := hn j hj
    have := hpos j hj
    rw [h3 121 _ (by omega) (by omega) (by omega), h3 119 _ (by omega) (by omega) (by omega)]
    exact h.sh j hj
  · intro j hj ht
    have := hn j hj
    have := hpos j hj
    rw [hr, hb j hj, h3 120 _ (by omega) (by omega) (by omega)]
    exact h.s8 j hj ht
  · intro j hj i hi0 hi1
    have := hn j hj
    rw [Nat.add_assoc, h3 119 _ (by omega) (by omega) (by omega), ← Nat.add_assoc]
    exact h.z1 j hj i hi0 hi1
  · intro m hm hm4
    rw [h3 119 _ (by omega) (by omega) hm4]
    exact h.z2 m hm hm4
  · intro m hm hm4
    rw [h3 121 _ (by omega) (by omega) hm4]
    exact h.z3 m hm hm4
  · intro j hj hn0
    obtain ⟨d1, d2, d3⟩ := h.dt j hj hn0
    exact ⟨d1, by omega, d3⟩
  · intro j hj hn0 i hi1
    have := hn j hj
    rw [h3 118 _ (by omega) (by omega) (by omega)]
    exact h.d2 j hj hn0 i hi1
  · intro u hu
    rw [h3 122 _ (by omega) (by omega) (by omega)]
    exact h.pg u hu
  · intro u hu h0
    obtain ⟨d1, d2⟩ := h.pu u hu h0
    refine ⟨d1, ?_⟩
    rw [h3 118 _ (by omega) (by omega) (by omega)]
    exact d2
theorem PQ_congr {F F2 : FN} {R R2 : RN} {e q n : Nat} {g g2 : FN} (hP : pipR e R) (h : PQ F R e g q n) (hR : R2 (e + 1) = R (e + 1)) (h0 : F2 e 1 = F e 1) (h1 : ∀ i k, e + 2 ≤ i → i ≤ e + 7 → F2 i k = F i k) (h2 : g2 124 q = g 124 q) (h3 : ∀ r k, 125 ≤ r → r ≤ 130 → k < 6 → g2 r (6 * q + k) = g r (6 * q + k)) : PQ F2 R2 e g2 q n := by
  obtain ⟨d1, d2, d3, d4⟩ := h
  refine ⟨d1, h0.trans d2, h2.trans d3, fun k hk => ?_⟩
  have hr : rx R2 (e + 1) k = rx R (e + 1) k := rx_row hR
  have hb : ∀ j, F2 (rx R (e + 1) k) j = F (rx R (e + 1) k) j := fun j => h1 _ _ (hP.1 k (by omega)).2.1 (hP.1 k (by omega)).2.2
  rw [hr, hb, hb, hb, hb, hb, hb, h3 125 k (by omega) (by omega) (by omega), h3 126 k (by omega) (by omega) (by omega), h3 127 k (by omega) (by omega) (by omega), h3 128 k (by omega) (by omega) (by omega), h3 129 k (by omega) (by omega) (by omega), h3 130 k (by omega) (by omega) (by omega)]
  exact d4 k hk
theorem CY_congr {ln ln2 p : Nat} {γ γ2 : PG} {F F2 : FN} {R R2 : RN} {g g2 : FN} (hf : pipR (5 + 21 * p + 1) R) (hb : pipR (5 + 21 * p + 9) R) (h : CY ln p γ F R g) (hl : ln ≤ ln2) (hh : γ.hi ≤ γ2.hi) (e1 : γ2.fl = γ.fl) (e2 : γ2.bl = γ.bl) (e3 : γ2.st = 4 ∨ γ2.st = 0 → γ.st = 4 ∨ γ.st = 0)
    (hR1 : R2 (5 + 21 * p + 1 + 1) = R (5 + 21 * p + 1 + 1)) (hR2 : R2 (5 + 21 * p + 9 + 1) = R (5 + 21 * p + 9 + 1)) (h1 : ∀ i k, 5 + 21 * p + 1 ≤ i → i ≤ 5 + 21 * p + 16 → F2 i k = F i k)
    (h2 : ∀ q, q = 2 * p ∨ q = 2 * p + 1 → g2 124 q = g 124 q) (h3 : ∀ q r k, q = 2 * p ∨ q = 2 * p + 1 → 125 ≤ r → r ≤ 130 → k < 6 → g2 r (6 * q + k) = g r (6 * q + k)) : CY ln2 p γ2 F2 R2 g2 := by
  have f6 := h.qf.1
  have b6 := h.qb.1
  refine CY.mk (qf := ?_) (qb := ?_) (cf := ?_) (cb := ?_) (s4 := ?_)
  · rw [e1]
    exact PQ_congr hf h.qf hR1 (h1 _ _ (by omega) (by omega)) (fun i k a b => h1 i k (by omega) (by omega)) (h2 _ (.inl rfl)) (fun r k a b c => h3 _ r k (.inl rfl) a b c)
  · rw [e2]
    exact PQ_congr hb h.qb hR2 (h1 _ _ (by omega) (by omega)) (fun i k a b => h1 i k (by omega) (by omega)) (h2 _ (.inr rfl)) (fun r k a b c => h3 _ r k (.inr rfl) a b c)
  · intro k hk
    rw [e1] at hk
    rw [h3 _ 125 k (.inl rfl) (by omega) (by omega) (by omega), h3 _ 126 k (.inl rfl) (by omega) (by omega) (by omega), h3 _ 127 k (.inl rfl) (by omega) (by omega) (by omega), h3 _ 129 k (.inl rfl) (by omega) (by omega) (by omega)]
    exact cpF_mono hh hl (h.cf k hk)
  · intro k hk
    rw [e2] at hk
    rw [h3 _ 125 k (.inr rfl) (by omega) (by omega) (by omega), h3 _ 126 k (.inr rfl) (by omega) (by omega) (by omega), h3 _ 127 k (.inr rfl) (by omega) (by omega) (by omega), h3 _ 128 k (.inr rfl) (by omega) (by omega) (by omega), h3 _ 129 k (.inr rfl) (by omega) (by omega) (by omega)]
    exact cpB_mono hl (h.cb k hk)
  · intro h4
    rw [e1, e2]
    exact h.s4 (e3 h4)
