/-! THE TIE: which of the model's heaps a pure heap is a picture of. Place 0 is the script's cell b; place i + 1 is the cell B + i, B the heap's size at the law's start. -/
def pr_ad (b B : Nat) (i : Nat) : Nat := match i with
  | 0 => b
  | j + 1 => B + j
def pr_v (b B : Nat) (v : PV) : Value := match v with
  | .inl x => .int x
  | .inr r => va_rf (r.map (pr_ad b B))
theorem pr_ad_inj {b B i j : Nat} (hb : b < B) (h : pr_ad b B i = pr_ad b B j) : i = j := by
  cases i with
  | zero => cases j with
    | zero => rfl
    | succ j => simp only [pr_ad] at h; omega
  | succ i => cases j with
    | zero => simp only [pr_ad] at h; omega
    | succ j => simp only [pr_ad] at h; omega
theorem pr_cat (b B : Nat) (v : PV) : (pr_v b B v).category = 1 := by
  cases v with
  | inl x => rfl
  | inr r => cases r <;> rfl
theorem pr_sum (b B : Nat) (l : List PV) : ((l.map (pr_v b B)).map fun v => v.category).sum = l.length := by
  induction l with
  | nil => rfl
  | cons a t ih => simp only [List.map_cons, List.sum_cons, ih, pr_cat, List.length_cons]; omega
theorem pr_fit {ty : FieldType} {v : PV} (b B : Nat) (h : pm_fit ty v = true) : narrow ty (pr_v b B v) = pr_v b B v ∧ fits ty (pr_v b B v) = true := by
  cases v with
  | inl x =>
    cases ty with
    | int => exact ⟨rfl, rfl⟩
    | boolean =>
      have h1 : x = 0 ∨ x = 1 := by simpa [pm_fit] using h
      rcases h1 with rfl | rfl <;> exact ⟨rfl, rfl⟩
    | _ => simp [pm_fit] at h
  | inr r =>
    cases ty with
    | object C => cases r <;> exact ⟨rfl, rfl⟩
    | array t => cases r <;> exact ⟨rfl, rfl⟩
    | _ => simp [pm_fit] at h
theorem pr_dfl {ty : FieldType} (b B : Nat) (h : pm_plain ty = true) : defaultValue ty = pr_v b B (pm_dfl ty) := by
  cases ty <;> first | rfl | simp [pm_plain] at h
/-- the kinds as the kit's worlds have them -/
abbrev pr_cl (P : PP) : List vw_C := (pp_cl P).map (fun r => r.1)
theorem pr_clG {P : PP} {ci : Nat} {r : vw_C × List FieldType × Bool} (h : (pp_cl P)[ci]? = some r) : (pr_cl P)[ci]? = some r.1 := by
  rw [List.getElem?_map, h]; rfl
/-- what a cell of the pure heap says of the model's heap -/
def pr_at (P : PP) (s : State) (D : va_G) (dA : Nat → ClassId) (b B i : Nat) (c : PC) (H : Heap) : Prop := match c with
  | .inl (k, n, f) => (k = 2 ∧ va_X (pr_ad b B i) n f s H) ∨ (¬ k = 2 ∧ H[pr_ad b B i]? = some (vp_cell (dA k) (n, .inl f)))
  | .inr (.inl (ci, n, f)) => H[pr_ad b B i]? = some (vp_cell (dA (ci + 3)) (n, .inr (.inr (.inr (.inr (fun j => (f j).map (pr_ad b B)))))))
  | .inr (.inr (ci, fs)) => ∃ r : vw_C × List FieldType × Bool, (pp_cl P)[ci]? = some r ∧ fs.length = r.1.2.2 ∧ t_OB (pr_ad b B i) (D.1 ci) r.1.2.2 (D.2 ci) H (vp_V (fs.map (pr_v b B)))
def pr_R (P : PP) (s : State) (D : va_G) (dA : Nat → ClassId) (b B : Nat) (h : PH) (H : Heap) : Prop :=
  (∃ (n : Nat) (f : Nat → Int32), h[0]? = some (.inl (2, n, f))) ∧ H.size + 1 = B + h.length ∧ ∀ (i : Nat) (c : PC), h[i]? = some c → pr_at P s D dA b B i c H
theorem pr_R.len {P : PP} {s : State} {D : va_G} {dA : Nat → ClassId} {b B : Nat} {h : PH} {H : Heap} (hR : pr_R P s D dA b B h H) : 0 < h.length := by
  obtain ⟨⟨n, f, h1⟩, -⟩ := hR
  exact (List.getElem?_eq_some_iff.mp h1).1
theorem pr_ge {b B i : Nat} (hi : ¬ i = 0) : B ≤ pr_ad b B i := by
  cases i with
  | zero => exact absurd rfl hi
  | succ j => simp only [pr_ad]; omega
theorem pr_at.kept {P : PP} {s : State} {D : va_G} {dA : Nat → ClassId} {b B i : Nat} {c : PC} {H H1 : Heap} (h : pr_at P s D dA b B i c H) (hq : H1[pr_ad b B i]? = H[pr_ad b B i]?) : pr_at P s D dA b B i c H1 := by
  rcases c with ⟨k, n, f⟩ | ⟨ci, n, f⟩ | ⟨ci, fs⟩
  · rcases h with ⟨h1, h2⟩ | ⟨h1, h2⟩
    · exact Or.inl ⟨h1, h2.kept hq⟩
    · exact Or.inr ⟨h1, hq.trans h2⟩
  · exact hq.trans h
  · obtain ⟨r, h1, h2, h3⟩ := h
    exact ⟨r, h1, h2, h3.kept hq⟩
theorem pr_at.lt {P : PP} {s : State} {D : va_G} {dA : Nat → ClassId} {b B i : Nat} {c : PC} {H : Heap} (h : pr_at P s D dA b B i c H) : pr_ad b B i < H.size := by
  rcases c with ⟨k, n, f⟩ | ⟨ci, n, f⟩ | ⟨ci, fs⟩
  · rcases h with ⟨h1, scr, h2, -⟩ | ⟨h1, h2⟩
    · exact (Array.getElem?_eq_some_iff.mp h2).1
    · exact (Array.getElem?_eq_some_iff.mp h2).1
  · exact (Array.getElem?_eq_some_iff.mp h).1
  · obtain ⟨r, h1, h2, cell, h3, -⟩ := h
    exact (Array.getElem?_eq_some_iff.mp h3).1
theorem pr_at.moved {P : PP} {s U : State} {D : va_G} {dA : Nat → ClassId} {b B i : Nat} {c : PC} {H : Heap} (hvm : s.vm.Alike U.vm) (h : pr_at P s D dA b B i c H) : pr_at P U D dA b B i c H := by
  rcases c with ⟨k, n, f⟩ | ⟨ci, n, f⟩ | ⟨ci, fs⟩
  · rcases h with ⟨h1, h2⟩ | ⟨h1, h2⟩
    · exact Or.inl ⟨h1, h2.moved hvm⟩
    · exact Or.inr ⟨h1, h2⟩
  · exact h
  · exact h
theorem pr_R.moved {P : PP} {s U : State} {D : va_G} {dA : Nat → ClassId} {b B : Nat} {h : PH} {H : Heap} (hvm : s.vm.Alike U.vm) (hR : pr_R P s D dA b B h H) : pr_R P U D dA b B h H :=
  ⟨hR.1, hR.2.1, fun i c hi => (hR.2.2 i c hi).moved hvm⟩
/-- one cell is written -/
theorem pr_R.set {P : PP} {s : State} {D : va_G} {dA : Nat → ClassId} {b B : Nat} {h : PH} {H H1 : Heap} (hb : b < B) (hR : pr_R P s D dA b B h H) {i : Nat} {c0 c1 : PC} (hi : h[i]? = some c0) (hi0 : ¬ i = 0) (he : pr_at P s D dA b B i c1 H1) (hz : H1.size = H.size) (oq : ∀ q : Nat, q ≠ pr_ad b B i → H1[q]? = H[q]?) : pr_R P s D dA b B (h.set i c1) H1 := by
  have hl := (List.getElem?_eq_some_iff.mp hi).1
  refine ⟨by rw [List.getElem?_set_ne hi0]; exact hR.1, by rw [List.length_set, hz]; exact hR.2.1, fun j c hj => ?_⟩
  by_cases hji : j = i
  · subst hji
    rw [List.getElem?_set_self hl] at hj
    cases hj
    exact he
  · rw [List.getElem?_set_ne (Ne.symm hji)] at hj
    exact (hR.2.2 j c hj).kept (oq _ (fun z => hji (pr_ad_inj hb z)))
theorem pr_last {P : PP} {s : State} {D : va_G} {dA : Nat → ClassId} {b B : Nat} {h : PH} {H : Heap} (hR : pr_R P s D dA b B h H) : pr_ad b B h.length = H.size := by
  have h1 := hR.len
  have h2 := hR.2.1
  cases hl : h.length with
  | zero => omega
  | succ k => simp only [pr_ad]; omega
/-- one cell is made -/
theorem pr_R.push {P : PP} {s : State} {D : va_G} {dA : Nat → ClassId} {b B : Nat} {h : PH} {H H1 : Heap} (hR : pr_R P s D dA b B h H) {c1 : PC} (he : pr_at P s D dA b B h.length c1 H1) (hz : H1.size = H.size + 1) (oq : ∀ q : Nat, q < H.size → H1[q]? = H[q]?) : pr_R P s D dA b B (h ++ [c1]) H1 := by
  refine ⟨by rw [List.getElem?_append_left hR.len]; exact hR.1, by rw [List.length_append, hz]; have := hR.2.1; simp; omega, fun j c hj => ?_⟩
  by_cases hl : j < h.length
  · rw [List.getElem?_append_left hl] at hj
    exact (hR.2.2 j c hj).kept (oq _ (hR.2.2 j c hj).lt)
  · rw [List.getElem?_append_right (by omega)] at hj
    have hz : j - h.length < 1 := (List.getElem?_eq_some_iff.mp hj).1
    have hj0 : j = h.length := by omega
    subst hj0
    rw [Nat.sub_self] at hj
    cases hj
    exact he
/-- what the tables say: kinds, their arrays -/
def pr_K (P : PP) (D : va_G) (dA : Nat → ClassId) (s : State) : Prop := va_K D (pr_cl P) [] s ∧ (ArrOfT s (dA 0) .int ∧ va_RA s (dA 0) .int) ∧ (ArrOfT s (dA 1) .boolean ∧ va_RA s (dA 1) .boolean) ∧
  ∀ (ci : Nat) (r : vw_C × List FieldType × Bool), (pp_cl P)[ci]? = some r → r.2.2 = true → va_AO r.1.1 s ∧ ArrOfT s (dA (ci + 3)) (.object r.1.1) ∧ va_RA s (dA (ci + 3)) (.object r.1.1)
theorem pr_K.moved {P : PP} {D : va_G} {dA : Nat → ClassId} {s U : State} (hvm : s.vm.Alike U.vm) (h : pr_K P D dA s) : pr_K P D dA U :=
  ⟨va_K.moved hvm h.1, ⟨arrOfT_moved hvm h.2.1.1, va_RA.moved hvm h.2.1.2⟩, ⟨arrOfT_moved hvm h.2.2.1.1, va_RA.moved hvm h.2.2.1.2⟩, fun ci r hc hr => ⟨(h.2.2.2 ci r hc hr).1.moved hvm, arrOfT_moved hvm (h.2.2.2 ci r hc hr).2.1, va_RA.moved hvm (h.2.2.2 ci r hc hr).2.2⟩⟩
theorem pr_K1 {D : va_G} {cl : List vw_C} {s : State} {cA : ClassId} {ty : FieldType} (h : va_K D cl [] s) (ha : ArrOfT s cA ty ∧ va_RA s cA ty) : va_K D cl [(cA, ty)] s := by
  refine ⟨h.1, fun k q hk => ?_⟩
  cases k with
  | zero => cases hk; exact ha
  | succ k => cases hk
theorem pr_P1 {D : va_G} {cl : List vw_C} {q : Nat × va_E} {H : Heap} (h : va_at D cl q H) : va_P D cl [q] H := by
  intro k x hk
  cases k with
  | zero => cases hk; exact h
  | succ k => cases hk
/-- the locals -/
def pr_L (b B : Nat) (ls : List (Option PV)) (a : Array Slot) (n : Nat) : Prop := ls.length = n ∧ a.size = n ∧ lv_wf a ∧ ∀ (i : Nat) (v : PV), ls[i]? = some (some v) → a[i]? = some (.val (pr_v b B v))
def pr_ll (b B : Nat) (ls : List (Option PV)) : List (Nat × Value) := (List.range ls.length).filterMap (fun i => match ls[i]? with
  | some (some v) => some (i, pr_v b B v)
  | _ => none)
theorem pr_ll_in {b B : Nat} {ls : List (Option PV)} {i : Nat} {v : PV} (h : ls[i]? = some (some v)) : (i, pr_v b B v) ∈ pr_ll b B ls := by
  refine List.mem_filterMap.mpr ⟨i, List.mem_range.mpr (List.getElem?_eq_some_iff.mp h).1, ?_⟩
  rw [h]
theorem pr_L.has {b B : Nat} {ls : List (Option PV)} {a : Array Slot} {n : Nat} (h : pr_L b B ls a n) : lv_has a n (pr_ll b B ls) := by
  refine ⟨h.2.1, h.2.2.1, fun q hq => ?_⟩
  obtain ⟨i, -, hi⟩ := List.mem_filterMap.mp hq
  split at hi
  · cases hi
    exact h.2.2.2 _ _ (by assumption)
  · cases hi
/-- a local is written -/
theorem pr_L.set {b B : Nat} {ls : List (Option PV)} {a a1 : Array Slot} {n i : Nat} {v : PV} (h : pr_L b B ls a n) (hi : i < ls.length) (h1 : lv_has a1 n ((i, pr_v b B v) :: (pr_ll b B ls).filter (fun q => !(q.1 == i) && !(q.1 + 1 == i && q.2.category == 2)))) : pr_L b B (ls.set i (some v)) a1 n := by
  refine ⟨by rw [List.length_set]; exact h.1, h1.1, h1.2.1, fun j w hj => ?_⟩
  by_cases hji : j = i
  · subst hji
    rw [List.getElem?_set_self hi] at hj
    cases hj
    exact h1.2.2 _ List.mem_cons_self
  · rw [List.getElem?_set_ne (Ne.symm hji)] at hj
    refine h1.2.2 (j, pr_v b B w) (List.mem_cons_of_mem _ (List.mem_filter.mpr ⟨pr_ll_in hj, ?_⟩))
    simp [hji, pr_cat]
theorem pr_args {b B : Nat} : ∀ (as : List PV) (k i : Nat) (v : PV), as[i]? = some v → (k + i, pr_v b B v) ∈ lv_args k (as.map (pr_v b B))
  | [], _, i, v, h => by simp at h
  | a :: t, k, i, v, h => by
    have hc : ¬ (pr_v b B a).category = 2 := by rw [pr_cat]; omega
    simp only [List.map_cons, lv_args, if_neg hc]
    cases i with
    | zero =>
      rw [List.getElem?_cons_zero] at h
      cases h
      exact List.mem_cons_self
    | succ i =>
      rw [List.getElem?_cons_succ] at h
      have := pr_args (b := b) (B := B) t (k + 1) i v h
      rw [show k + (i + 1) = k + 1 + i by omega]
      exact List.mem_cons_of_mem _ this
theorem pr_sl (b B : Nat) (as : List PV) : (lg_sl (as.map (pr_v b B))).length = as.length := by
  induction as with
  | nil => rfl
  | cons a t ih =>
    have hc : ¬ (pr_v b B a).category = 2 := by rw [pr_cat]; omega
    have e : lg_sl ((a :: t).map (pr_v b B)) = [Slot.val (pr_v b B a)] ++ lg_sl (t.map (pr_v b B)) := by
      simp only [lg_sl, List.map_cons, List.flatMap_cons, if_neg hc]
    rw [e, List.length_append, ih, List.length_cons]
    simp
    omega
/-- a method's locals at its start -/
theorem pr_L.entry (b B : Nat) (as : List PV) (n : Nat) (h : as.length ≤ n) : pr_L b B (as.map some ++ List.replicate (n - as.length) none) ((lg_sl (as.map (pr_v b B)) ++ List.replicate (n - (lg_sl (as.map (pr_v b B))).length) Slot.unset).toArray) n := by
  have hl := lv_entry (as.map (pr_v b B)) (n := n) (by rw [pr_sl]; exact h)
  refine ⟨by simp; omega, hl.1, hl.2.1, fun i v hi => ?_⟩
  by_cases hlt : i < as.length
  · rw [List.getElem?_append_left (by simpa using hlt), List.getElem?_map] at hi
    cases ha : as[i]? with
    | none => rw [ha] at hi; cases hi
    | some w =>
      rw [ha] at hi
      cases hi
      have := pr_args (b := b) (B := B) as 0 i v ha
      rw [Nat.zero_add] at this
      exact hl.2.2 _ this
  · rw [List.getElem?_append_right (by simpa using hlt)] at hi
    have := List.mem_of_getElem? hi
    rw [List.mem_replicate] at this
    cases this.2
