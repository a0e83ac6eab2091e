/-! THE COUPLING, twelfth part: which units are loose, which path is taken. -/
theorem lo_iff {g : FN} {p u : Nat} : ∀ n q, ¬ lo g p u n q = 0 ↔ ∀ i, q ≤ i → i < q + n → okq g p u i
  | 0, q => ⟨fun _ i a b => by omega, fun _ => (show ¬ nI 1 = 0 by decide)⟩
  | n + 1, q => by
    by_cases e : okq g p u q
    · rw [lo_t e, lo_iff n (q + 1)]
      constructor
      · intro a i b c
        by_cases d : i = q
        · subst d; exact e
        · exact a i (by omega) (by omega)
      · intro a i b c
        exact a i (by omega) (by omega)
    · rw [lo_f e]
      constructor
      · intro a
        exact absurd nI_0 a
      · intro a
        exact absurd (a q (by omega) (by omega)) e
theorem clq_iff {F : FN} {sc : Nat → Nat} {su sn : Nat → Nat → Nat} {p u : Nat} : ∀ n q, clq F sc su sn p u n q = true ↔ ∀ i, q ≤ i → i < q + n → (i = p ∨ F (5 + 21 * i) 5 = nI 2) → ¬ cov (su i) (sn i) u (sc i) 0 = true
  | 0, q => ⟨fun _ i a b => by omega, fun _ => rfl⟩
  | n + 1, q => by
    rw [clq]
    by_cases e : q = p ∨ F (5 + 21 * q) 5 = nI 2
    · rw [if_pos e]
      by_cases e2 : cov (su q) (sn q) u (sc q) 0 = true
      · rw [if_pos e2]
        constructor
        · intro a
          exact absurd a (by decide)
        · intro a
          exact absurd e2 (a q (by omega) (by omega) e)
      · rw [if_neg e2, clq_iff n (q + 1)]
        constructor
        · intro a i b c d
          by_cases d2 : i = q
          · subst d2; exact e2
          · exact a i (by omega) (by omega) d
        · intro a i b c
          exact a i (by omega) (by omega)
    · rw [if_neg e, clq_iff n (q + 1)]
      constructor
      · intro a i b c d
        by_cases d2 : i = q
        · subst d2; exact absurd d e
        · exact a i (by omega) (by omega) d
      · intro a i b c
        exact a i (by omega) (by omega)
theorem cov_iff {su sn : Nat → Nat} {u : Nat} : ∀ n j, cov su sn u n j = true ↔ ∃ i, j ≤ i ∧ i < j + n ∧ su i ≤ u ∧ u < su i + sn i
  | 0, j => ⟨fun a => absurd (show false = true from a) (by decide), fun ⟨i, a, b, _⟩ => by omega⟩
  | n + 1, j => by
    have key : cov su sn u (n + 1) j = true ↔ (su j ≤ u ∧ u < su j + sn j) ∨ cov su sn u n (j + 1) = true := by
      rw [cov]
      by_cases a : su j ≤ u
      · rw [if_pos a]
        by_cases b : u < su j + sn j
        · rw [if_pos b]
          exact ⟨fun _ => .inl ⟨a, b⟩, fun _ => rfl⟩
        · rw [if_neg b]
          exact ⟨fun q => .inr q, fun q => by rcases q with q | q; exact absurd q.2 b; exact q⟩
      · rw [if_neg a]
        exact ⟨fun q => .inr q, fun q => by rcases q with q | q; exact absurd q.1 a; exact q⟩
    rw [key, cov_iff n (j + 1)]
    constructor
    · intro a
      rcases a with a | ⟨i, a, b, c⟩
      · exact ⟨j, by omega, by omega, a⟩
      · exact ⟨i, by omega, by omega, c⟩
    · intro ⟨i, a, b, c⟩
      by_cases d : i = j
      · subst d; exact .inl c
      · exact .inr ⟨i, by omega, by omega, c⟩
theorem cov_pl {now ln p : Nat} {γ : PG} {F : FN} {R : RN} {g : FN} (hx : CX now ln p γ F R g) (hln : ln ≤ 401) {v : Nat} (hv : v < 401) : cov γ.su γ.sn v γ.sc 0 = true ↔ (0 < γ.pl v ∧ γ.lw ≤ γ.pl v ∧ ¬ γ.st = 4) := by
  have h3 := hx.sc3
  rw [cov_iff]
  have sp := fun j hj => seg_pl hx hln (j := j) (v := v) hj hv
  by_cases e4 : γ.st = 4
  · have := hx.s4 e4
    constructor
    · intro ⟨i, a, b, c⟩
      omega
    · intro a
      exact absurd e4 a.2.2
  · constructor
    · intro ⟨i, a, b, c⟩
      have c := (sp i (by omega)).mp c
      have c0 := hx.ch0 e4 (by omega)
      have c1 : 1 < γ.sc → γ.nu 1 = γ.nu 0 + γ.nm 0 := fun q => hx.ch2 0 q
      have c2 : 2 < γ.sc → γ.nu 2 = γ.nu 1 + γ.nm 1 := fun q => hx.ch2 1 q
      have : i = 0 ∨ i = 1 ∨ i = 2 := by omega
      rcases this with t | t | t <;> subst t <;> refine ⟨c.1, ?_, e4⟩ <;> omega
    · intro ⟨a, b, _⟩
      have hu := (hx.pu v hv a).1
      have hsc : 0 < γ.sc := by
        by_cases e : γ.sc = 0
        · have := hx.ch1 e4 e
          omega
        · omega
      have c0 := hx.ch0 e4 hsc
      have c1 : 1 < γ.sc → γ.nu 1 = γ.nu 0 + γ.nm 0 := fun q => hx.ch2 0 q
      have c2 : 2 < γ.sc → γ.nu 2 = γ.nu 1 + γ.nm 1 := fun q => hx.ch2 1 q
      have e1 : 1 = γ.sc → γ.nu 0 + γ.nm 0 = γ.hi := fun q => hx.ch3 0 q
      have e2 : 2 = γ.sc → γ.nu 1 + γ.nm 1 = γ.hi := fun q => hx.ch3 1 q
      have e3 : 3 = γ.sc → γ.nu 2 + γ.nm 2 = γ.hi := fun q => hx.ch3 2 q
      by_cases f0 : γ.pl v < γ.nu 0 + γ.nm 0
      · exact ⟨0, by omega, by omega, (sp 0 (by omega)).mpr (by omega)⟩
      · by_cases f1 : γ.pl v < γ.nu 1 + γ.nm 1 ∧ 1 < γ.sc
        · exact ⟨1, by omega, by omega, (sp 1 (by omega)).mpr (by omega)⟩
        · exact ⟨2, by omega, by omega, (sp 2 (by omega)).mpr (by omega)⟩
def scG (Γ : Nat → PG) : Nat → Nat := fun q => (Γ q).sc
def suG (Γ : Nat → PG) : Nat → Nat → Nat := fun q => (Γ q).su
def snG (Γ : Nat → PG) : Nat → Nat → Nat := fun q => (Γ q).sn
theorem CI_segv {θ : TG} {Γ : Nat → PG} {F G f g : FN} {R : RN} (h : CI θ Γ F G R f g) : segv F R (scG Γ) (suG Γ) (snG Γ) := by
  intro q hq
  have hx := h.px q hq
  have hl := CT_ln h.ct
  refine ⟨hx.f3, hx.sc3, fun j hj => ?_⟩
  obtain ⟨d1, d2, d3, d4, d5⟩ := hx.sg j hj
  refine ⟨d3, d4, ?_⟩
  show (Γ q).su j + (Γ q).sn j < 2 ^ 30
  by_cases e : (Γ q).nu j = 0
  · obtain ⟨s1, s2, s3⟩ := hx.sy j hj e
    omega
  · obtain ⟨s1, s2, s3⟩ := hx.dt j hj (by omega)
    omega
theorem loose_same {θ : TG} {Γ : Nat → PG} {F G f g : FN} {R : RN} {p u : Nat} (h : CI θ Γ F G R f g) (hp : p < 4) : clo F G (scG Γ) (suG Γ) (snG Γ) p u θ.kn θ.ln = true ↔ ¬ tloose f g p u θ.kn θ.ln = 0 := by
  have hl := CT_ln h.ct
  unfold clo tloose
  have n0 : ¬ ¬ nI 0 = 0 := fun q => q nI_0
  by_cases e1 : u < θ.kn
  · rw [if_pos e1, if_pos e1]
    exact ⟨fun a => absurd a (by decide), fun a => absurd a n0⟩
  · rw [if_neg e1, if_neg e1]
    by_cases e2 : θ.ln ≤ u
    · rw [if_pos e2, if_pos e2]
      exact ⟨fun a => absurd a (by decide), fun a => absurd a n0⟩
    · rw [if_neg e2, if_neg e2, lo_iff]
      have hu : u < 401 := by omega
      have ok : ∀ q, q < 4 → (okq g p u q ↔ ¬ (0 < (Γ q).pl u ∧ (Γ q).pl u < (Γ q).lw) ∧ ¬ ((0 < (Γ q).pl u ∧ (Γ q).lw ≤ (Γ q).pl u ∧ ¬ (Γ q).st = 4) ∧ (q = p ∨ (Γ q).st = 2))) := by
        intro q hq
        have hx := h.px q hq
        have b1 := hx.h402
        have b2 := hx.lh
        have b3 := hx.st4
        have b4 : (Γ q).pl u < 402 := by
          by_cases e : 0 < (Γ q).pl u
          · have := (hx.pu u hu e).1
            omega
          · omega
        unfold okq
        rw [hx.pg u hu, hx.g115, hx.g107, ← nI_0, nI_leI (by omega) (by omega), nI_leI (by omega) (by omega), nI_ltI (by omega) (by omega), nI_eq (by omega) (by omega), nI_eq (by omega) (by omega)]
        omega
      have st := h.st u hu
      by_cases e3 : G 90 u = 0
      · rw [if_pos e3, clq_iff]
        have s := st.mp e3
        constructor
        · intro a i b c
          have hx := h.px i (by omega)
          have b3 := hx.st4
          rw [ok i (by omega)]
          refine ⟨s i (by omega), fun w => ?_⟩
          refine a i b c ?_ ((cov_pl hx hl hu).mpr w.1)
          rcases w.2 with w | w
          · exact .inl w
          · rw [hx.f5]
            exact .inr (by rw [w])
        · intro a i b c d w
          have hx := h.px i (by omega)
          have b3 := hx.st4
          have := (ok i (by omega)).mp (a i b c)
          refine this.2 ⟨(cov_pl hx hl hu).mp w, ?_⟩
          rcases d with d | d
          · exact .inl d
          · rw [hx.f5, nI_eq (by omega) (by omega)] at d
            exact .inr d
      · rw [if_neg e3]
        constructor
        · intro a
          exact absurd a (by decide)
        · intro a
          exact absurd (st.mpr (fun q hq => ((ok q hq).mp (a q (by omega) (by omega))).1)) e3
theorem loose_pl {θ : TG} {Γ : Nat → PG} {F G f g : FN} {R : RN} {p u : Nat} (h : CI θ Γ F G R f g) (hp : p < 4) (hst : ¬ (Γ p).st = 4) (hz : ¬ tloose f g p u θ.kn θ.ln = 0) : θ.kn ≤ u ∧ u < θ.ln ∧ (Γ p).pl u = 0 := by
  have hl := CT_ln h.ct
  have hc := (loose_same h hp).mpr hz
  unfold tloose at hz
  have n0 : ¬ ¬ nI 0 = 0 := fun q => q nI_0
  by_cases e1 : u < θ.kn
  · rw [if_pos e1] at hz
    exact absurd hz n0
  · rw [if_neg e1] at hz
    by_cases e2 : θ.ln ≤ u
    · rw [if_pos e2] at hz
      exact absurd hz n0
    · refine ⟨by omega, by omega, ?_⟩
      unfold clo at hc
      rw [if_neg e1, if_neg e2] at hc
      have hu : u < 401 := by omega
      by_cases e3 : G 90 u = 0
      · rw [if_pos e3, clq_iff] at hc
        have s := (h.st u hu).mp e3 p hp
        have hx := h.px p hp
        have c := hc p (by omega) (by omega) (.inl rfl)
        have c : ¬ (0 < (Γ p).pl u ∧ (Γ p).lw ≤ (Γ p).pl u ∧ ¬ (Γ p).st = 4) := fun w => c ((cov_pl hx hl hu).mpr w)
        omega
      · rw [if_neg e3] at hc
        exact absurd hc (by decide)
/-! the first unit, and how many -/
theorem tl1_ge {F G : FN} {p kn ln : Nat} : ∀ n u, u ≤ tl1 F G p kn ln n u
  | 0, _ => Nat.le_refl _
  | n + 1, u => by
    rw [tl1]
    split
    · have := tl1_ge (F := F) (G := G) (p := p) (kn := kn) (ln := ln) n (u + 1)
      omega
    · omega
theorem cfu_same {f g : FN} {lz : Nat → Bool} {p kn ln ed sc lw hi : Nat} (hz : ∀ u, lz u = true ↔ ¬ tloose f g p u kn ln = 0) (hs : sc = 0 ↔ hi ≤ lw) : ∀ n u, u + n = ln → cfu lz kn ln ed sc n u = if tcan kn ln ed lw hi (tl1 f g p kn ln n u) then some (tl1 f g p kn ln n u) else none
  | 0, u, e => by
    rw [cfu, tl1, if_neg (fun q => q.1 (by omega))]
  | n + 1, u, e => by
    rw [cfu, tl1]
    by_cases c1 : tloose f g p u kn ln = 0
    · have c2 : ¬ lz u = true := fun q => (hz u).mp q c1
      rw [if_pos c1, if_neg c2, cfu_same hz hs n (u + 1) (by omega)]
      by_cases c3 : ed < u
      · have := tl1_ge (F := f) (G := g) (p := p) (kn := kn) (ln := ln) n (u + 1)
        rw [if_pos c3, if_neg (fun q => q.2.1 (by omega))]
      · rw [if_neg c3]
    · rw [if_neg c1, if_pos ((hz u).mpr c1)]
      by_cases c3 : ed < u
      · rw [if_pos c3, if_neg (fun q => q.2.1 c3)]
      · rw [if_neg c3]
        by_cases c4 : u < ed
        · rw [if_pos c4, if_pos ⟨by omega, by omega, .inl (by omega)⟩]
        · rw [if_neg c4]
          by_cases c5 : u = kn
          · rw [if_pos c5]
            by_cases c6 : sc = 0
            · rw [if_pos c6, if_pos ⟨by omega, by omega, .inr ⟨c5, hs.mp c6⟩⟩]
            · rw [if_neg c6, if_neg (fun q => by rcases q.2.2 with w | w; omega; exact c6 (hs.mpr w.2))]
          · rw [if_neg c5, if_neg (fun q => by rcases q.2.2 with w | w; omega; exact c5 w.1)]
theorem cnu_same {f g : FN} {lz : Nat → Bool} {p kn ln ed u : Nat} (hz : ∀ u, lz u = true ↔ ¬ tloose f g p u kn ln = 0) : ∀ n m, cnu lz u ed n m = tl2 f g p u kn ln ed n m
  | 0, m => rfl
  | n + 1, m => by
    rw [cnu, tl2]
    by_cases c1 : ed ≤ u + m
    · rw [if_pos c1, if_pos c1]
    · rw [if_neg c1, if_neg c1]
      by_cases c2 : tloose f g p (u + m) kn ln = 0
      · rw [if_pos c2, if_neg (fun q => (hz _).mp q c2)]
      · rw [if_neg c2, if_pos ((hz _).mpr c2)]
        exact cnu_same hz n (m + 1)
theorem tl2_spec {f g : FN} {p kn ln ed u : Nat} : ∀ n m, m ≤ tl2 f g p u kn ln ed n m ∧ tl2 f g p u kn ln ed n m ≤ m + n ∧ ∀ i, m ≤ i → i < tl2 f g p u kn ln ed n m → ¬ tloose f g p (u + i) kn ln = 0
  | 0, m => ⟨Nat.le_refl _, Nat.le_refl _, fun i a b => by rw [tl2] at b; omega⟩
  | n + 1, m => by
    rw [tl2]
    by_cases c1 : ed ≤ u + m
    · rw [if_pos c1]
      exact ⟨by omega, by omega, fun i a b => by omega⟩
    · rw [if_neg c1]
      by_cases c2 : tloose f g p (u + m) kn ln = 0
      · rw [if_pos c2]
        exact ⟨by omega, by omega, fun i a b => by omega⟩
      · rw [if_neg c2]
        obtain ⟨d1, d2, d3⟩ := tl2_spec (f := f) (g := g) (p := p) (kn := kn) (ln := ln) (ed := ed) (u := u) n (m + 1)
        refine ⟨by omega, by omega, fun i a b => ?_⟩
        by_cases e : i = m
        · subst e; exact c2
        · exact d3 i (by omega) b
theorem tl1_loose {f g : FN} {p kn ln : Nat} : ∀ n u, u + n = ln → tl1 f g p kn ln n u < ln → ¬ tloose f g p (tl1 f g p kn ln n u) kn ln = 0
  | 0, u, e, a => by rw [tl1] at a; omega
  | n + 1, u, e, a => by
    rw [tl1] at a ⊢
    by_cases c : tloose f g p u kn ln = 0
    · rw [if_pos c] at a ⊢
      exact tl1_loose n (u + 1) (by omega) a
    · rw [if_neg c] at a ⊢
      exact c
/-! the count of the unacknowledged -/
theorem to3_zero {g : FN} {p : Nat} : ∀ (n j c : Nat), (∀ i, i < n → g 119 (402 * p + (j + i)) = nI 0) → to3 g p n j c = c
  | 0, _, _, _ => rfl
  | n + 1, j, c, h => by
    have h0 := h 0 (by omega)
    rw [Nat.add_zero] at h0
    rw [to3, h0, if_pos (by decide), to3_zero n (j + 1) c (fun i hi => by have := h (i + 1) (by omega); rwa [show j + (i + 1) = j + 1 + i from by omega] at this)]
theorem to3_split {g : FN} {p n2 : Nat} : ∀ (n1 j c : Nat), to3 g p (n1 + n2) j c = to3 g p n2 (j + n1) (to3 g p n1 j c)
  | 0, j, c => by rw [Nat.zero_add]; rfl
  | n1 + 1, j, c => by
    rw [show n1 + 1 + n2 = (n1 + n2) + 1 from by omega, to3, to3]
    split
    · rw [to3_split n1 (j + 1), show j + 1 + n1 = j + (n1 + 1) from by omega]
    · rw [to3_split n1 (j + 1), show j + 1 + n1 = j + (n1 + 1) from by omega]
theorem to3_seg {g : FN} {p j m c : Nat} (hm : 1 ≤ m) (hb : m < 2 ^ 31) (h0 : g 119 (402 * p + j) = nI m) (h1 : ∀ i, 0 < i → i < m → g 119 (402 * p + j + i) = nI 0) : to3 g p m j c = c + 1 := by
  obtain ⟨n, rfl⟩ : ∃ n, m = n + 1 := ⟨m - 1, by omega⟩
  rw [to3, h0, if_neg (by rw [← nI_0, nI_leI (by omega) (by omega)]; omega)]
  exact to3_zero n (j + 1) _ (fun i hi => by have := h1 (i + 1) (by omega) (by omega); rwa [show 402 * p + j + (i + 1) = 402 * p + (j + 1 + i) from by omega] at this)
theorem to3_sc {now ln p : Nat} {γ : PG} {F : FN} {R : RN} {g : FN} (hx : CX now ln p γ F R g) (hst : ¬ γ.st = 4) : to3 g p (γ.hi - γ.lw) γ.lw 0 = γ.sc := by
  have h3 := hx.sc3
  have seg : ∀ j c, j < γ.sc → to3 g p (γ.nm j) (γ.nu j) c = c + 1 := by
    intro j c hj
    have := (hx.sb j hj).2.1
    exact to3_seg (hx.sb j hj).1 (by omega) (hx.sh j hj).2 (hx.z1 j hj)
  have hsc : γ.sc = 0 ∨ γ.sc = 1 ∨ γ.sc = 2 ∨ γ.sc = 3 := by omega
  rcases hsc with e | e | e | e
  · have := hx.ch1 hst e
    rw [this, Nat.sub_self, e]
    rfl
  · have c0 := hx.ch0 hst (by omega)
    have c3 := hx.ch3 0 (by omega)
    rw [show γ.hi - γ.lw = γ.nm 0 from by omega, ← c0, seg 0 _ (by omega), e]
  · have c0 := hx.ch0 hst (by omega)
    have c2 : γ.nu 1 = γ.nu 0 + γ.nm 0 := hx.ch2 0 (by omega)
    have c3 := hx.ch3 1 (by omega)
    rw [show γ.hi - γ.lw = γ.nm 0 + γ.nm 1 from by omega, ← c0, to3_split, seg 0 _ (by omega), ← c2, seg 1 _ (by omega), e]
  · have c0 := hx.ch0 hst (by omega)
    have c2 : γ.nu 1 = γ.nu 0 + γ.nm 0 := hx.ch2 0 (by omega)
    have c21 : γ.nu 2 = γ.nu 1 + γ.nm 1 := hx.ch2 1 (by omega)
    have c3 := hx.ch3 2 (by omega)
    rw [show γ.hi - γ.lw = γ.nm 0 + (γ.nm 1 + γ.nm 2) from by omega, ← c0, to3_split, seg 0 _ (by omega), ← c2, to3_split, seg 1 _ (by omega), ← c21, seg 2 _ (by omega), e]
theorem csm_sc {now ln p : Nat} {γ : PG} {F : FN} {R : RN} {g : FN} (hx : CX now ln p γ F R g) : csm γ.nm γ.sc 0 0 = if ¬ γ.st = 4 then γ.hi - γ.lw else 0 := by
  have h3 := hx.sc3
  by_cases hst : γ.st = 4
  · rw [if_neg (fun q => q hst), hx.s4 hst]
    rfl
  · rw [if_pos hst]
    have hsc : γ.sc = 0 ∨ γ.sc = 1 ∨ γ.sc = 2 ∨ γ.sc = 3 := by omega
    rcases hsc with e | e | e | e
    · have := hx.ch1 hst e
      rw [this, Nat.sub_self, e]
      rfl
    · have c0 := hx.ch0 hst (by omega)
      have c3 := hx.ch3 0 (by omega)
      rw [e]
      simp only [csm, Nat.reduceAdd, Nat.zero_add]
      omega
    · have c0 := hx.ch0 hst (by omega)
      have c2 : γ.nu 1 = γ.nu 0 + γ.nm 0 := hx.ch2 0 (by omega)
      have c3 := hx.ch3 1 (by omega)
      rw [e]
      simp only [csm, Nat.reduceAdd, Nat.zero_add]
      omega
    · have c0 := hx.ch0 hst (by omega)
      have c2 : γ.nu 1 = γ.nu 0 + γ.nm 0 := hx.ch2 0 (by omega)
      have c21 : γ.nu 2 = γ.nu 1 + γ.nm 1 := hx.ch2 1 (by omega)
      have c3 := hx.ch3 2 (by omega)
      rw [e]
      simp only [csm, Nat.reduceAdd, Nat.zero_add]
      omega
