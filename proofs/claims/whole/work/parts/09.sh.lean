/-! SHAPED HEAPS: a heap is built out of its shape (a list: which cell is what) and four functions: F int fields, G numbers in arrays, R references in arrays, O reference fields. Reading and writing are reading and writing of these functions. -/
/-- (0, kind, [], length): numbers; (1, kind, [], length): references; (2, kind, fields: 0 int, 1 reference, 0): an object -/
abbrev SK : Type := Nat × Nat × List Nat × Nat
abbrev FN : Type := Nat → Nat → Int32
abbrev RN : Type := Nat → Nat → Option Nat
def bf (t : Nat) (x : Int32) (r : Option Nat) : PV := match t with
  | 0 => .inl x
  | _ => .inr r
def bcell (i : Nat) (s : SK) (F G : FN) (R O : RN) : PC := match s.1 with
  | 0 => .inl (s.2.1, s.2.2.2, G i)
  | 1 => .inr (.inl (s.2.1, s.2.2.2, R i))
  | _ => .inr (.inr (s.2.1, s.2.2.1.mapIdx (fun k t => bf t (F i k) (O i k))))
def hb (L : List SK) (F G : FN) (R O : RN) : PH := L.mapIdx (fun i s => bcell i s F G R O)
def up2 {α : Type} (F : Nat → Nat → α) (i k : Nat) (x : α) : Nat → Nat → α := fun i1 k1 => if i1 = i ∧ k1 = k then x else F i1 k1
theorem up2_eq {α : Type} {F : Nat → Nat → α} {i k : Nat} {x : α} : up2 F i k x i k = x := by simp [up2]
theorem up2_ne {α : Type} {F : Nat → Nat → α} {i k i1 k1 : Nat} {x : α} (h : ¬ (i1 = i ∧ k1 = k)) : up2 F i k x i1 k1 = F i1 k1 := by simp only [up2, if_neg h]
theorem up2_ne1 {α : Type} {F : Nat → Nat → α} {i k i1 k1 : Nat} {x : α} (h : i1 ≠ i) : up2 F i k x i1 k1 = F i1 k1 := up2_ne (fun q => h q.1)
theorem up2_ne2 {α : Type} {F : Nat → Nat → α} {i k k1 : Nat} {x : α} (h : k1 ≠ k) : up2 F i k x i k1 = F i k1 := up2_ne (fun q => h q.2)
theorem up2_row {α : Type} {F : Nat → Nat → α} {i k i1 : Nat} {x : α} (h : i1 ≠ i) : up2 F i k x i1 = F i1 := by
  funext k1
  exact up2_ne1 h
theorem hb_at {L : List SK} {F G : FN} {R O : RN} {i : Nat} {s : SK} (hs : L[i]? = some s) : (hb L F G R O)[i]? = some (bcell i s F G R O) := by
  unfold hb
  rw [List.getElem?_mapIdx, hs]
  rfl
theorem hb_len {L : List SK} {F G : FN} {R O : RN} : (hb L F G R O).length = L.length := by
  unfold hb
  exact List.length_mapIdx
theorem hb_set {L : List SK} {F G F1 G1 : FN} {R O R1 O1 : RN} {i : Nat} {s : SK} {c : PC} (hs : L[i]? = some s) (hc : c = bcell i s F1 G1 R1 O1) (ho : ∀ i1, i1 ≠ i → F1 i1 = F i1 ∧ G1 i1 = G i1 ∧ R1 i1 = R i1 ∧ O1 i1 = O i1) : (hb L F G R O).set i c = hb L F1 G1 R1 O1 := by
  have hl : i < (hb L F G R O).length := by rw [hb_len]; exact (List.getElem?_eq_some_iff.mp hs).1
  apply List.ext_getElem?
  intro j
  by_cases hj : j = i
  · subst hj
    rw [List.getElem?_set_self hl, hb_at hs, hc]
  · rw [List.getElem?_set_ne (Ne.symm hj)]
    unfold hb
    rw [List.getElem?_mapIdx, List.getElem?_mapIdx]
    obtain ⟨e1, e2, e3, e4⟩ := ho j hj
    cases L[j]? with
    | none => rfl
    | some t =>
      show some _ = some _
      unfold bcell
      rw [e1, e2, e3, e4]
section PXS
variable {P : PP} {y pc kc ks : Nat} {ls : List (Option PV)} {st : List PV} {Q : Option PV → PH → Prop} {L : List SK} {F G : FN} {R O : RN}
theorem bcell_fs {i ci n fk t : Nat} {tg : List Nat} (ht : tg[fk]? = some t) : (tg.mapIdx (fun k t => bf t (F i k) (O i k)))[fk]? = some (bf t (F i fk) (O i fk)) := by
  rw [List.getElem?_mapIdx, ht]
  rfl
theorem px_get {idx ci fk i : Nat} {tg : List Nat} (hc : pp_code P y pc = some (.getfield idx)) (hf : pp_fld P (pp_own P y) idx = some (ci, fk)) (hs : L[i]? = some (2, ci, tg, 0)) (ht : tg[fk]? = some 0) (k : pw P y (pc + 3, ls, .inl (F i fk) :: st, kc, ks, hb L F G R O) Q) : pw P y (pc, ls, .inr (some i) :: st, kc, ks, hb L F G R O) Q :=
  pw_get hc hf (hb_at hs) (bcell_fs (ci := ci) (n := 0) ht) k
theorem px_getr {idx ci fk i : Nat} {tg : List Nat} {r : Option Nat} (hc : pp_code P y pc = some (.getfield idx)) (hf : pp_fld P (pp_own P y) idx = some (ci, fk)) (hs : L[i]? = some (2, ci, tg, 0)) (ht : tg[fk]? = some 1) (hr : O i fk = r) (k : pw P y (pc + 3, ls, .inr r :: st, kc, ks, hb L F G R O) Q) : pw P y (pc, ls, .inr (some i) :: st, kc, ks, hb L F G R O) Q := by
  subst hr
  exact pw_get hc hf (hb_at hs) (bcell_fs (ci := ci) (n := 0) ht) k
theorem bcell_put {i fk : Nat} {tg : List Nat} {x : Int32} (ht : tg[fk]? = some 0) : (tg.mapIdx (fun k t => bf t (F i k) (O i k))).set fk (.inl x) = tg.mapIdx (fun k t => bf t (up2 F i fk x i k) (O i k)) := by
  have hl : fk < (tg.mapIdx (fun k t => bf t (F i k) (O i k))).length := by rw [List.length_mapIdx]; exact (List.getElem?_eq_some_iff.mp ht).1
  apply List.ext_getElem?
  intro j
  by_cases hj : j = fk
  · subst hj
    rw [List.getElem?_set_self hl, List.getElem?_mapIdx, ht]
    show some _ = some (bf 0 _ _)
    rw [up2_eq]
    rfl
  · rw [List.getElem?_set_ne (Ne.symm hj), List.getElem?_mapIdx, List.getElem?_mapIdx]
    cases tg[j]? with
    | none => rfl
    | some t =>
      show some (bf t (F i j) (O i j)) = some (bf t (up2 F i fk x i j) (O i j))
      rw [up2_ne2 hj]
theorem bcell_putr {i fk : Nat} {tg : List Nat} {x : Option Nat} (ht : tg[fk]? = some 1) : (tg.mapIdx (fun k t => bf t (F i k) (O i k))).set fk (.inr x) = tg.mapIdx (fun k t => bf t (F i k) (up2 O i fk x i k)) := by
  have hl : fk < (tg.mapIdx (fun k t => bf t (F i k) (O i k))).length := by rw [List.length_mapIdx]; exact (List.getElem?_eq_some_iff.mp ht).1
  apply List.ext_getElem?
  intro j
  by_cases hj : j = fk
  · subst hj
    rw [List.getElem?_set_self hl, List.getElem?_mapIdx, ht]
    show some _ = some (bf 1 _ _)
    rw [up2_eq]
    rfl
  · rw [List.getElem?_set_ne (Ne.symm hj), List.getElem?_mapIdx, List.getElem?_mapIdx]
    cases tg[j]? with
    | none => rfl
    | some t =>
      show some (bf t (F i j) (O i j)) = some (bf t (F i j) (up2 O i fk x i j))
      rw [up2_ne2 hj]
theorem px_put {idx ci fk i : Nat} {tg : List Nat} {x : Int32} (hc : pp_code P y pc = some (.putfield idx)) (hf : pp_fld P (pp_own P y) idx = some (ci, fk)) (hs : L[i]? = some (2, ci, tg, 0)) (ht : tg[fk]? = some 0) (hv : pm_fit (pm_fty P ci fk) (.inl x) = true) (k : pw P y (pc + 3, ls, st, kc, ks, hb L (up2 F i fk x) G R O) Q) : pw P y (pc, ls, .inl x :: .inr (some i) :: st, kc, ks, hb L F G R O) Q := by
  refine pw_put hc hf (hb_at hs) (by rw [List.length_mapIdx]; exact (List.getElem?_eq_some_iff.mp ht).1) hv (bcell_put ht) (fun h1 e => ?_)
  have e2 := e.trans (hb_set (F1 := up2 F i fk x) (G1 := G) (R1 := R) (O1 := O) hs rfl (fun i1 h1 => ⟨up2_row h1, rfl, rfl, rfl⟩))
  rw [e2]
  exact k
theorem px_putr {idx ci fk i : Nat} {tg : List Nat} {x : Option Nat} (hc : pp_code P y pc = some (.putfield idx)) (hf : pp_fld P (pp_own P y) idx = some (ci, fk)) (hs : L[i]? = some (2, ci, tg, 0)) (ht : tg[fk]? = some 1) (hv : pm_fit (pm_fty P ci fk) (.inr x) = true) (k : pw P y (pc + 3, ls, st, kc, ks, hb L F G R (up2 O i fk x)) Q) : pw P y (pc, ls, .inr x :: .inr (some i) :: st, kc, ks, hb L F G R O) Q := by
  refine pw_put hc hf (hb_at hs) (by rw [List.length_mapIdx]; exact (List.getElem?_eq_some_iff.mp ht).1) hv (bcell_putr ht) (fun h1 e => ?_)
  have e2 := e.trans (hb_set (F1 := F) (G1 := G) (R1 := R) (O1 := up2 O i fk x) hs rfl (fun i1 h1 => ⟨rfl, rfl, rfl, up2_row h1⟩))
  rw [e2]
  exact k
theorem px_iald {i n j1 : Nat} {j : Int32} (hc : pp_code P y pc = some .iaload) (hs : L[i]? = some (0, 0, [], n)) (hj : pm_in j n = true) (hj1 : j.toNatClampNeg = j1) (k : pw P y (pc + 1, ls, .inl (G i j1) :: st, kc, ks, hb L F G R O) Q) : pw P y (pc, ls, .inl j :: .inr (some i) :: st, kc, ks, hb L F G R O) Q := by
  subst hj1
  exact pw_iald hc (hb_at hs) hj rfl k
theorem px_sald {i n j1 : Nat} {j : Int32} (hc : pp_code P y pc = some .iaload) (hs : L[i]? = some (0, 2, [], n)) (hj : pm_in j n = true) (hj1 : j.toNatClampNeg = j1) (k : pw P y (pc + 1, ls, .inl (G i j1) :: st, kc, ks, hb L F G R O) Q) : pw P y (pc, ls, .inl j :: .inr (some i) :: st, kc, ks, hb L F G R O) Q := by
  subst hj1
  exact pw_sald hc (hb_at hs) hj rfl k
theorem px_zald {i n j1 : Nat} {j : Int32} (hc : pp_code P y pc = some .baload) (hs : L[i]? = some (0, 1, [], n)) (hj : pm_in j n = true) (hj1 : j.toNatClampNeg = j1) (k : pw P y (pc + 1, ls, .inl (G i j1) :: st, kc, ks, hb L F G R O) Q) : pw P y (pc, ls, .inl j :: .inr (some i) :: st, kc, ks, hb L F G R O) Q := by
  subst hj1
  exact pw_zald hc (hb_at hs) hj rfl k
theorem px_aald {i ci n j1 : Nat} {j : Int32} {r : Option Nat} (hc : pp_code P y pc = some .aaload) (hs : L[i]? = some (1, ci, [], n)) (ha : ((pp_cl P)[ci]?.map (fun q => q.2.2)) = some true) (hj : pm_in j n = true) (hj1 : j.toNatClampNeg = j1) (hr : R i j1 = r) (k : pw P y (pc + 1, ls, .inr r :: st, kc, ks, hb L F G R O) Q) : pw P y (pc, ls, .inl j :: .inr (some i) :: st, kc, ks, hb L F G R O) Q := by
  subst hj1
  exact pw_aald hc (hb_at hs) ha hj hr k
theorem up2_upd {F : FN} {i k : Nat} {x : Int32} : upd (F i) k x = up2 F i k x i := by
  funext j
  simp [upd, up2]
theorem up2_vaup {F : RN} {i k : Nat} {x : Option Nat} : va_up (F i) k x = up2 F i k x i := by
  funext j
  simp [va_up, up2]
theorem px_iast {i n j1 : Nat} {j x : Int32} (hc : pp_code P y pc = some .iastore) (hs : L[i]? = some (0, 0, [], n)) (hj : pm_in j n = true) (hj1 : j.toNatClampNeg = j1) (k : pw P y (pc + 1, ls, st, kc, ks, hb L F (up2 G i j1 x) R O) Q) : pw P y (pc, ls, .inl x :: .inl j :: .inr (some i) :: st, kc, ks, hb L F G R O) Q := by
  subst hj1
  refine pw_iast hc (hb_at hs) hj (fun h1 e => ?_)
  rw [up2_upd] at e
  have e2 := e.trans (hb_set (F1 := F) (G1 := up2 G i j.toNatClampNeg x) (R1 := R) (O1 := O) hs rfl (fun i1 h1 => ⟨rfl, up2_row h1, rfl, rfl⟩))
  rw [e2]
  exact k
theorem px_zast {i n j1 : Nat} {j x x1 : Int32} (hc : pp_code P y pc = some .bastore) (hs : L[i]? = some (0, 1, [], n)) (hj : pm_in j n = true) (hj1 : j.toNatClampNeg = j1) (hx : x &&& 1 = x1) (k : pw P y (pc + 1, ls, st, kc, ks, hb L F (up2 G i j1 x1) R O) Q) : pw P y (pc, ls, .inl x :: .inl j :: .inr (some i) :: st, kc, ks, hb L F G R O) Q := by
  subst hj1
  subst hx
  refine pw_zast hc (hb_at hs) hj (fun h1 e => ?_)
  rw [up2_upd] at e
  have e2 := e.trans (hb_set (F1 := F) (G1 := up2 G i j.toNatClampNeg (x &&& 1)) (R1 := R) (O1 := O) hs rfl (fun i1 h1 => ⟨rfl, up2_row h1, rfl, rfl⟩))
  rw [e2]
  exact k
theorem px_aast {i ci n v j1 : Nat} {tg : List Nat} {j : Int32} (hc : pp_code P y pc = some .aastore) (hs : L[i]? = some (1, ci, [], n)) (hv : L[v]? = some (2, ci, tg, 0)) (ha : ((pp_cl P)[ci]?.map (fun q => q.2.2)) = some true) (hj : pm_in j n = true) (hj1 : j.toNatClampNeg = j1) (k : pw P y (pc + 1, ls, st, kc, ks, hb L F G (up2 R i j1 (some v)) O) Q) : pw P y (pc, ls, .inr (some v) :: .inl j :: .inr (some i) :: st, kc, ks, hb L F G R O) Q := by
  subst hj1
  refine pw_aast hc (hb_at hs) (hb_at hv) ha hj (fun h1 e => ?_)
  rw [up2_vaup] at e
  have e2 := e.trans (hb_set (F1 := F) (G1 := G) (R1 := up2 R i j.toNatClampNeg (some v)) (O1 := O) hs rfl (fun i1 h1 => ⟨rfl, rfl, up2_row h1, rfl⟩))
  rw [e2]
  exact k
theorem px_alen {i kd n : Nat} {v : Int32} (hc : pp_code P y pc = some .arraylength) (hs : L[i]? = some (0, kd, [], n)) (hk : kd < 3) (hv : Int32.ofNat n = v) (k : pw P y (pc + 1, ls, .inl v :: st, kc, ks, hb L F G R O) Q) : pw P y (pc, ls, .inr (some i) :: st, kc, ks, hb L F G R O) Q :=
  pw_alen hc (hb_at hs) hk hv k
/-- a virtual call on a cell of the shape -/
theorem px_callv {idx z n kd ci i : Nat} {as rest : List PV} {tg : List Nat} (hc : pp_code P y pc = some (.invokevirtual idx)) (hm : pp_mth P (pp_own P y) idx = some (z, n, kd, ci)) (h6 : kd < 6) (hw : kd / 2 = 1) (hn : n ≤ st.length) (h8 : (st.drop n).length ≤ 8) (h1 : kc + (pp_rm P z).cells ≤ (pp_rm P y).cells) (h2 : ks + (pp_rm P z).slots ≤ (pp_rm P y).slots) (hv : st[n - 1]? = some (.inr (some i))) (hs : L[i]? = some (2, ci, tg, 0)) (has : (st.take n).reverse = as) (hrest : st.drop n = rest)
    (k : pz P z as (hb L F G R O) (fun r h1 => pw P y (pc + 3, ls, r.toList ++ rest, kc + (pp_rm P z).cells, ks + (pp_rm P z).slots, h1) Q)) : pw P y (pc, ls, st, kc, ks, hb L F G R O) Q :=
  pw_callv hc hm h6 hw hn h8 h1 h2 hv (hb_at hs) has hrest k
end PXS
