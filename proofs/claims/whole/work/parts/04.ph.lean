/-! ONE STEP, the instructions that read, write and make cells. -/
section PHS
variable {M : MC} {P : PP} {D : va_G} {dA : Nat → ClassId} {b B y : Nat} {ws ns : List Cond} {pc kc ks : Nat} {ls : List (Option PV)} {st : List PV} {h : PH}
theorem ps_get (C : ps_C M P D dA b B y ws ns) (oK : pk_K P ws) (oF : pk_F P ws ns) {idx ci k i : Nat} {fs : List PV} {v : PV} (hf : pp_fld P (pp_own P y) idx = some (ci, k)) (hi : h[i]? = some (.inr (.inr (ci, fs)))) (hv : fs[k]? = some v) (hd : decode (pp_by P y) pc = .ok (.getfield idx, 3))
    (kk : ps_T M P D dA b B y (pc + 3) ls (v :: st) kc ks h) : ps_T M P D dA b B y pc ls (.inr (some i) :: st) kc ks h := by
  intro H locs a J
  have kk := kk H locs a J
  obtain ⟨hx, hb, hml, hown, hts, hns, hK, hRm, hnm, hbB⟩ := C
  obtain ⟨r, hr, hkN, hlink⟩ := oF y idx ci k hf
  obtain ⟨r2, hr2, hlen, hO⟩ := J.1.2.2 i _ hi
  cases hr.symm.trans hr2
  have hP : va_P D (pr_cl P) [(pr_ad b B i, .inr (ci, fs.map (pr_v b B)))] H := pr_P1 ⟨r.1, pr_clG hr, hO⟩
  have hv2 : (fs.map (pr_v b B))[k]? = some (pr_v b B v) := by rw [List.getElem?_map, hv]; rfl
  rcases hlink with hl | ⟨host, hl⟩
  · exact va_get (C := r.1.1) (T := r.1.2.1) (N := r.1.2.2) hx hb hts (oK ci r hr).1 hown hK.1 hP 0 rfl (pr_clG hr) k hkN (hts _ hl) (fun _ q => q) hv2 hd kk
  · exact va_getN (C := r.1.1) (T := r.1.2.1) (N := r.1.2.2) hx hb hts (oK ci r hr).1 hown hK.1 hP 0 rfl (pr_clG hr) k hkN (va_Nw.use rfl (hns _ hl)) (fun _ q => q) hv2 hd kk
/-- the picture behind a write to the cell i -/
theorem ps_Jput {s : State} {H H1 : Heap} {locs : List Loc} {a : Array Slot} {i j : Nat} {c0 c1 : PC} (hbB : b < B) (J : ps_J P D dA b B y s ls h H locs a) (hi : h[i]? = some c0) (hi0 : ¬ i = 0) (he : pr_at P s D dA b B i c1 H1) (hz : H1.size = H.size) (oq : ∀ q : Nat, q ≠ pr_ad b B i → H1[q]? = H[q]?) :
    ps_J P D dA b B y s ls (h.set i c1) H1 (locs ++ [⟨pr_ad b B i, j⟩]) a := by
  refine ⟨J.1.set hbB hi hi0 he hz oq, J.2.1, fun q hq => ?_, fun q hq => ?_⟩
  · rcases List.mem_append.mp hq with h1 | h1
    · exact J.2.2.1 q h1
    · rw [List.mem_singleton] at h1
      subst h1
      exact pr_ge hi0
  · have := pr_ge (b := b) (B := B) hi0
    rw [oq q (by omega)]
    exact J.2.2.2 q hq
theorem pr_obj0 {s : State} {H : Heap} (hR : pr_R P s D dA b B h H) {i : Nat} {x : (Nat × Nat × (Nat → Option Nat)) ⊕ (Nat × List PV)} (hi : h[i]? = some (.inr x)) : ¬ i = 0 := by
  intro q
  subst q
  obtain ⟨⟨n, f, h1⟩, -⟩ := hR
  cases h1.symm.trans hi
theorem pr_arr0 {s : State} {H : Heap} (hR : pr_R P s D dA b B h H) {i k n : Nat} {f : Nat → Int32} (hi : h[i]? = some (.inl (k, n, f))) (hk : ¬ k = 2) : ¬ i = 0 := by
  intro q
  subst q
  obtain ⟨⟨n, f, h1⟩, -⟩ := hR
  have h2 := Option.some.inj (h1.symm.trans hi)
  injection h2 with h3
  exact hk (Prod.mk.inj h3).1.symm
theorem pr_fty {ci k : Nat} {r : vw_C × List FieldType × Bool} (hr : (pp_cl P)[ci]? = some r) : pm_fty P ci k = r.2.1.getD k .long := by
  unfold pm_fty
  rw [hr]
/-- an object behind a write to its field k -/
theorem pr_objset {H1 : Heap} {a cC N k : Nat} {iS : Nat → Nat} {fs : List PV} {w : PV} {cell : Cell} (q2 : cell.cls = cC) (q3 : cell.vm = .none) (q4 : ∀ k, k < N → cell.slots[iS k]? = some (vp_V (fs.map (pr_v b B)) k)) (hap : ∀ x y, x < N → y < N → x ≠ y → iS x ≠ iS y) (hk : k < N) (hl : k < fs.length)
    (e1 : H1[a]? = some (cell.setSlot (iS k) (pr_v b B w))) : t_OB a cC N iS H1 (vp_V ((fs.set k w).map (pr_v b B))) := by
  rw [List.map_set]
  exact t_OB.to (V := updV (vp_V (fs.map (pr_v b B))) k (pr_v b B w)) ⟨_, e1, q2, q3, t_set q4 hap hk _⟩ (fun j _ => vp_updV_set (by rw [List.length_map]; exact hl) _ j)
theorem ps_put (C : ps_C M P D dA b B y ws ns) (oK : pk_K P ws) (oF : pk_F P ws ns) (oP : pk_P P ws) {idx ci k i : Nat} {fs : List PV} {v : PV} (hc : pp_code P y pc = some (.putfield idx)) (hf : pp_fld P (pp_own P y) idx = some (ci, k)) (hi : h[i]? = some (.inr (.inr (ci, fs)))) (hl : k < fs.length) (hv : pm_fit (pm_fty P ci k) v = true) (hd : decode (pp_by P y) pc = .ok (.putfield idx, 3))
    (kk : ps_T M P D dA b B y (pc + 3) ls st kc ks (h.set i (.inr (.inr (ci, fs.set k v))))) : ps_T M P D dA b B y pc ls (v :: .inr (some i) :: st) kc ks h := by
  intro H locs a J
  obtain ⟨hx, hb, hml, hown, hts, hns, hK, hRm, hnm, hbB⟩ := C
  obtain ⟨r, hr, hkN, hlink⟩ := oF y idx ci k hf
  obtain ⟨r2, hr2, hlen, hO⟩ := J.1.2.2 i _ hi
  cases hr.symm.trans hr2
  have hi0 := pr_obj0 J.1 hi
  obtain ⟨hin, -, hty, hnames, -⟩ := oK ci r hr
  have hcl := pr_clG hr
  have hap := va_apart (own := "") hts hin (fun k => r.2.1.getD k .long) hty hnames hK.1 hcl
  obtain ⟨cell, q1, q2, q3, q4⟩ := hO
  obtain ⟨hS, hfc, kC, hkC, hkind⟩ := hK.1.1 ci _ hcl
  obtain ⟨cf, kf, fi, f, hfi, hsl⟩ := hS k hkN
  have hfit := pr_fit b B (by rw [pr_fty hr] at hv; exact hv)
  have hst := (u_facts hfc hkC (u_lays hts hin hkN) hfi).1
  have fin : ∀ H1 : Heap, H1[pr_ad b B i]? = some (cell.setSlot f.slot (pr_v b B v)) → H1.size = H.size → (∀ q, q ≠ pr_ad b B i → H1[q]? = H[q]?) → ps_J P D dA b B y (mc_s M) ls (h.set i (.inr (.inr (ci, fs.set k v)))) H1 (locs ++ [⟨pr_ad b B i, f.slot⟩]) a := by
    intro H1 e1 e2 e3
    rw [hsl] at e1
    exact ps_Jput hbB J hi hi0 ⟨r, hr, by rw [List.length_set]; exact hlen, pr_objset q2 q3 q4 hap hkN hl e1⟩ e2 e3
  rcases oP y pc idx ci k r hc hf hr with hfin | ⟨hfin, hin2, hdecl, hl2⟩
  · have hlay := hts _ (hin _ (u_in_lay hkN))
    unfold u_lay at hlay
    rw [if_neg (by rw [hfin]; decide)] at hlay
    have h6 := u_store hfc hkC hkind hlay hfi (hty k hkN) hfit.1 hfit.2
    rcases hlink with hl | ⟨host, hl⟩
    · exact W.putK hx hb (f := f) ⟨hown, hts _ hl, ⟨_, _, _, hfi⟩, hst⟩ (by rw [q2]; exact h6) q1 q3 (by rw [hsl]; exact k2_hasslot (q4 k hkN)) rfl rfl hd (fun H1 e1 e2 e3 => kk H1 _ a (fin H1 e1 e2 e3))
    · exact va_WputK hx hb (f := f) hown (va_Nw.use rfl (hns _ hl)) hfi hst (by rw [q2]; exact h6) q1 q3 (by rw [hsl]; exact k2_hasslot (q4 k hkN)) rfl rfl hd (fun H1 e1 e2 e3 => kk H1 _ a (fin H1 e1 e2 e3))
  · have hlay := hts _ (hin _ (u_in_lay hkN))
    unfold u_lay at hlay
    rw [if_pos hfin] at hlay
    have hcf : (mc_m M).cls = cf := by
      obtain ⟨_, _, c1, _, _, _, -, -, hf1, -, -, -, hown2, -⟩ := Cond.laysFinal_spec hlay
      have e1 : c1 = cf := by have := hfi.symm.trans hf1; simp at this; exact this.1.symm
      rw [hdecl] at hown2
      rw [← e1]; exact Option.some.inj (hown.symm.trans hown2)
    have h6 := u_fits hfc hkC hkind (Or.inr hlay) hfi (hty k hkN) hfit.1 hfit.2
    exact W.putFinK hx hb hown (hts _ hl2) hfi hst hcf (hnm hin2) (by rw [q2]; exact h6) q1 q3 (by rw [hsl]; exact k2_hasslot (q4 k hkN)) rfl rfl hd (fun H1 e1 e2 e3 => kk H1 _ a (fin H1 e1 e2 e3))
theorem ps_iald (C : ps_C M P D dA b B y ws ns) {i k n : Nat} {f : Nat → Int32} {j : Int32} (hi : h[i]? = some (.inl (k, n, f))) (hk : k = 0 ∨ k = 2) (hj : pm_in j n = true) (hd : decode (pp_by P y) pc = .ok (.iaload, 1))
    (kk : ps_T M P D dA b B y (pc + 1) ls (.inl (f j.toNatClampNeg) :: st) kc ks h) : ps_T M P D dA b B y pc ls (.inl j :: .inr (some i) :: st) kc ks h := by
  intro H locs a J
  have kk := kk H locs a J
  obtain ⟨hx, hb, hml, hown, hts, hns, hK, hRm, hnm, hbB⟩ := C
  have hin := pm_in_vp hj
  rcases J.1.2.2 i _ hi with ⟨h1, h2⟩ | ⟨h1, h2⟩
  · obtain ⟨scr, g1, g2, g3, g4, g5⟩ := h2
    have hlt : j.toNatClampNeg < n := Nat.not_le.mp fun q => hin (Or.inr q)
    exact W.iald (v := .int (f j.toNatClampNeg)) hx hb g1 g2 g3 (by rw [g4]; exact hin) (g5 _ hlt) rfl rfl hd kk
  · rcases hk with rfl | rfl
    · exact va_iald (D := D) (cl := pr_cl P) (ws := [(pr_ad b B i, .inl (dA 0, n, .inl f))]) (tys := [(dA 0, .int)]) hx hb (pr_K1 hK.1 hK.2.1) (pr_P1 h2) 0 0 rfl rfl hin hd kk
    · exact absurd rfl h1
theorem ps_zald (C : ps_C M P D dA b B y ws ns) {i n : Nat} {f : Nat → Int32} {j : Int32} (hi : h[i]? = some (.inl (1, n, f))) (hj : pm_in j n = true) (hd : decode (pp_by P y) pc = .ok (.baload, 1))
    (kk : ps_T M P D dA b B y (pc + 1) ls (.inl (f j.toNatClampNeg) :: st) kc ks h) : ps_T M P D dA b B y pc ls (.inl j :: .inr (some i) :: st) kc ks h := by
  intro H locs a J
  have kk := kk H locs a J
  obtain ⟨hx, hb, hml, hown, hts, hns, hK, hRm, hnm, hbB⟩ := C
  rcases J.1.2.2 i _ hi with ⟨h1, h2⟩ | ⟨h1, h2⟩
  · exact absurd h1 (by decide)
  · exact va_zald (D := D) (cl := pr_cl P) (ws := [(pr_ad b B i, .inl (dA 1, n, .inl f))]) (tys := [(dA 1, .boolean)]) hx hb (pr_K1 hK.1 hK.2.2.1) (pr_P1 h2) 0 0 rfl rfl (pm_in_vp hj) hd kk
theorem pr_arrC {ci : Nat} (h : ((pp_cl P)[ci]?.map (fun q => q.2.2)) = some true) : ∃ r : vw_C × List FieldType × Bool, (pp_cl P)[ci]? = some r ∧ r.2.2 = true := by
  cases hr : (pp_cl P)[ci]? with
  | none => rw [hr] at h; cases h
  | some r => rw [hr] at h; exact ⟨r, rfl, Option.some.inj h⟩
theorem ps_aald (C : ps_C M P D dA b B y ws ns) {i ci n : Nat} {f : Nat → Option Nat} {j : Int32} (hi : h[i]? = some (.inr (.inl (ci, n, f)))) (hc : ((pp_cl P)[ci]?.map (fun q => q.2.2)) = some true) (hj : pm_in j n = true) (hd : decode (pp_by P y) pc = .ok (.aaload, 1))
    (kk : ps_T M P D dA b B y (pc + 1) ls (.inr (f j.toNatClampNeg) :: st) kc ks h) : ps_T M P D dA b B y pc ls (.inl j :: .inr (some i) :: st) kc ks h := by
  intro H locs a J
  have kk := kk H locs a J
  obtain ⟨hx, hb, hml, hown, hts, hns, hK, hRm, hnm, hbB⟩ := C
  obtain ⟨r, hr, hr2⟩ := pr_arrC hc
  exact va_aldq (D := D) (cl := pr_cl P) (C := r.1.1) (f := fun j => (f j).map (pr_ad b B)) (ws := [(pr_ad b B i, .inl (dA (ci + 3), n, .inr (.inr (.inr (.inr (fun j => (f j).map (pr_ad b B)))))))]) (tys := [(dA (ci + 3), .object r.1.1)]) hx hb (pr_K1 hK.1 (hK.2.2.2 ci r hr hr2).2) (pr_P1 (J.1.2.2 i _ hi)) 0 0 rfl rfl (pm_in_vp hj) hd kk
theorem ps_alen (C : ps_C M P D dA b B y ws ns) {i k n : Nat} {f : Nat → Int32} (hi : h[i]? = some (.inl (k, n, f))) (hk : k < 3) (hd : decode (pp_by P y) pc = .ok (.arraylength, 1))
    (kk : ps_T M P D dA b B y (pc + 1) ls (.inl (Int32.ofNat n) :: st) kc ks h) : ps_T M P D dA b B y pc ls (.inr (some i) :: st) kc ks h := by
  intro H locs a J
  have kk := kk H locs a J
  obtain ⟨hx, hb, hml, hown, hts, hns, hK, hRm, hnm, hbB⟩ := C
  rcases J.1.2.2 i _ hi with ⟨h1, h2⟩ | ⟨h1, h2⟩
  · obtain ⟨scr, g1, g2, g3, g4, g5⟩ := h2
    exact W.alen (n := Int32.ofNat n) hx hb g1 g2 (by rw [g4] <;> rfl) rfl rfl hd kk
  · have h3 : k = 0 ∨ k = 1 := by omega
    rcases h3 with rfl | rfl
    · exact va_alen (D := D) (cl := pr_cl P) (ws := [(pr_ad b B i, .inl (dA 0, n, .inl f))]) (tys := [(dA 0, .int)]) hx hb (pr_K1 hK.1 hK.2.1) (pr_P1 h2) 0 0 rfl rfl rfl hd kk
    · exact va_alen (D := D) (cl := pr_cl P) (ws := [(pr_ad b B i, .inl (dA 1, n, .inl f))]) (tys := [(dA 1, .boolean)]) hx hb (pr_K1 hK.1 hK.2.2.1) (pr_P1 h2) 0 0 rfl rfl rfl hd kk
theorem ps_iast (C : ps_C M P D dA b B y ws ns) {i n : Nat} {f : Nat → Int32} {j x : Int32} (hi : h[i]? = some (.inl (0, n, f))) (hj : pm_in j n = true) (hd : decode (pp_by P y) pc = .ok (.iastore, 1))
    (kk : ps_T M P D dA b B y (pc + 1) ls st kc ks (h.set i (.inl (0, n, upd f j.toNatClampNeg x)))) : ps_T M P D dA b B y pc ls (.inl x :: .inl j :: .inr (some i) :: st) kc ks h := by
  intro H locs a J
  obtain ⟨hx, hb, hml, hown, hts, hns, hK, hRm, hnm, hbB⟩ := C
  have hi0 := pr_arr0 J.1 hi (by decide)
  have hin := pm_in_vp hj
  rcases J.1.2.2 i _ hi with ⟨h1, h2⟩ | ⟨h1, h2⟩
  · exact absurd h1 (by decide)
  · refine W.iast hx hb h2 (hK.2.1.1 n (fun j => .int (f j))) (fun q => by cases q) (by show ¬ (j < 0 ∨ (arrV _ _ _).slots.size ≤ _); rw [arrV_size]; exact hin) rfl rfl hd fun H1 e z oq => ?_
    refine kk H1 _ a (ps_Jput hbB J hi hi0 (Or.inr ⟨by decide, ?_⟩) z oq)
    rw [e, vp_cell_i, vp_cell_i, arrV_store]
    congr 2
    funext q
    by_cases hq : q = j.toNatClampNeg
    · subst hq
      simp [updV, upd]
    · simp [updV, upd, hq]
theorem ps_zast (C : ps_C M P D dA b B y ws ns) {i n : Nat} {f : Nat → Int32} {j x : Int32} (hi : h[i]? = some (.inl (1, n, f))) (hj : pm_in j n = true) (hd : decode (pp_by P y) pc = .ok (.bastore, 1))
    (kk : ps_T M P D dA b B y (pc + 1) ls st kc ks (h.set i (.inl (1, n, upd f j.toNatClampNeg (x &&& 1))))) : ps_T M P D dA b B y pc ls (.inl x :: .inl j :: .inr (some i) :: st) kc ks h := by
  intro H locs a J
  obtain ⟨hx, hb, hml, hown, hts, hns, hK, hRm, hnm, hbB⟩ := C
  have hi0 := pr_arr0 J.1 hi (by decide)
  have hin := pm_in_vp hj
  rcases J.1.2.2 i _ hi with ⟨h1, h2⟩ | ⟨h1, h2⟩
  · exact absurd h1 (by decide)
  · refine W.zast hx hb h2 (hK.2.2.1.1 n (fun j => .int (f j))) (fun q => by cases q) (by show ¬ (j < 0 ∨ (arrV _ _ _).slots.size ≤ _); rw [arrV_size]; exact hin) rfl rfl hd fun H1 e z oq => ?_
    refine kk H1 _ a (ps_Jput hbB J hi hi0 (Or.inr ⟨by decide, ?_⟩) z oq)
    rw [e, vp_cell_i, vp_cell_i, arrV_store]
    congr 2
    funext q
    by_cases hq : q = j.toNatClampNeg
    · subst hq
      simp [updV, upd, narrow]
    · simp [updV, upd, hq]
theorem ps_aast (C : ps_C M P D dA b B y ws ns) {i ci n v : Nat} {f : Nat → Option Nat} {fs : List PV} {j : Int32} (hi : h[i]? = some (.inr (.inl (ci, n, f)))) (hv : h[v]? = some (.inr (.inr (ci, fs)))) (hc : ((pp_cl P)[ci]?.map (fun q => q.2.2)) = some true) (hj : pm_in j n = true) (hd : decode (pp_by P y) pc = .ok (.aastore, 1))
    (kk : ps_T M P D dA b B y (pc + 1) ls st kc ks (h.set i (.inr (.inl (ci, n, va_up f j.toNatClampNeg (some v)))))) : ps_T M P D dA b B y pc ls (.inr (some v) :: .inl j :: .inr (some i) :: st) kc ks h := by
  intro H locs a J
  obtain ⟨hx, hb, hml, hown, hts, hns, hK, hRm, hnm, hbB⟩ := C
  have hi0 := pr_obj0 J.1 hi
  have hin := pm_in_vp hj
  obtain ⟨r, hr, hr2⟩ := pr_arrC hc
  obtain ⟨-, hAr, kA, comp, k1, k2, k3, -⟩ := hK.2.2.2 ci r hr hr2
  obtain ⟨r3, hr3, -, cellV, g1, g2, g3, -⟩ := J.1.2.2 v _ hv
  have hcls := (hK.1.1 ci r.1 (pr_clG hr)).2
  have hcomp : comp = D.1 ci := Option.some.inj (k3.symm.trans hcls.1)
  subst hcomp
  obtain ⟨kC, hkC, -⟩ := hcls.2
  have hlt : j.toNatClampNeg < n := Nat.not_le.mp fun q => hin (Or.inr q)
  refine W.aast hx hb (J.1.2.2 i _ hi) (fun q h => by cases h) (fun h => by cases h) k1 k2 rfl hkC ⟨fun q => hin (Or.inl q), by show _ < (arrV _ _ _).slots.size; rw [arrV_size]; exact hlt⟩ g1 (fun q h => by rw [g3] at h; cases h) (by rw [g2]; exact hkC) (by rw [g2]; exact va_assign hcls) rfl rfl hd fun H1 e z oq => ?_
  refine kk H1 _ a (ps_Jput hbB J hi hi0 ?_ z oq)
  show H1[_]? = some (vp_cell _ _)
  rw [e, vp_cell_q, vp_cell_q, arrV_store]
  congr 2
  funext q
  by_cases hq : q = j.toNatClampNeg
  · subst hq
    simp [updV, va_up, va_rf]
  · simp [updV, va_up, hq]
/-- the picture behind a new cell -/
theorem ps_Jnew {s : State} {H H1 : Heap} {locs : List Loc} {a : Array Slot} {c1 : PC} (J : ps_J P D dA b B y s ls h H locs a) (he : pr_at P s D dA b B h.length c1 H1) (hz : H1.size = H.size + 1) (oq : ∀ q : Nat, q < H.size → H1[q]? = H[q]?) :
    ps_J P D dA b B y s ls (h ++ [c1]) H1 locs a := by
  refine ⟨J.1.push he hz oq, J.2.1, J.2.2.1, fun q hq => ?_⟩
  have h1 := J.1.2.1
  have h2 := J.1.len
  rw [oq q (by omega)]
  exact J.2.2.2 q hq
theorem pr_newref {s : State} {H : Heap} (hR : pr_R P s D dA b B h H) : pr_v b B (.inr (some h.length)) = .ref H.size := by
  show va_rf (some (pr_ad b B h.length)) = _
  rw [pr_last hR]
  rfl
theorem ps_new (C : ps_C M P D dA b B y ws ns) (oK : pk_K P ws) (oN : pk_N P ws) {idx ci : Nat} {r : vw_C × List FieldType × Bool} (hc : pp_cls P (pp_own P y) idx = some ci) (hr : (pp_cl P)[ci]? = some r) (h1 : kc + 1 ≤ (pp_rm P y).cells) (h2 : ks + r.1.2.2 ≤ (pp_rm P y).slots) (hd : decode (pp_by P y) pc = .ok (.new idx, 3))
    (kk : ps_T M P D dA b B y (pc + 3) ls (.inr (some h.length) :: st) (kc + 1) (ks + r.1.2.2) (h ++ [.inr (.inr (ci, r.2.1.map pm_dfl))])) : ps_T M P D dA b B y pc ls st kc ks h := by
  intro H locs a J
  obtain ⟨hx, hb, hml, hown, hts, hns, hK, hRm, hnm, hbB⟩ := C
  obtain ⟨r2, hr2, hlink⟩ := oN y idx ci hc
  cases hr.symm.trans hr2
  obtain ⟨hin, htl, hty, hnames, hpl, hinst, hini⟩ := oK ci r hr
  have hKn := hK.1.1 ci _ (pr_clG hr)
  refine W.newcK hx hb hown (hts _ hlink) (hts _ hinst) (hts _ hini) rfl hd (by rw [show M.2.2.2.1 = pp_rm P y from hRm]; exact h1) (by rw [show M.2.2.2.1 = pp_rm P y from hRm]; exact h2) hKn.2.1 rfl fun H1 kC hkC e1 z1 o1 => ?_
  have hl := pr_last J.1
  have he : pr_at P (mc_s M) D dA b B h.length (.inr (.inr (ci, r.2.1.map pm_dfl))) H1 := by
    refine ⟨r, hr, by rw [List.length_map]; exact htl, ?_⟩
    rw [hl]
    refine (u_born (fun k => r.2.1.getD k .long) hts hin hKn hkC e1 hty).to (fun k hk => ?_)
    have hk2 : k < r.2.1.length := by rw [htl]; exact hk
    have e2 : r.2.1[k]? = some (r.2.1.getD k .long) := by
      rw [List.getD_eq_getElem?_getD, List.getElem?_eq_getElem hk2]; rfl
    have e4 : ((r.2.1.map pm_dfl).map (pr_v b B)).getD k .null = pr_v b B (pm_dfl (r.2.1.getD k .long)) := by
      rw [List.getD_eq_getElem?_getD, List.getElem?_map, List.getElem?_map, e2]
      rfl
    show defaultValue (r.2.1.getD k .long) = ((r.2.1.map pm_dfl).map (pr_v b B)).getD k .null
    rw [e4]
    exact pr_dfl b B (hpl _ (List.mem_of_getElem? e2))
  have k9 := kk H1 locs a (ps_Jnew J he z1 o1)
  rw [List.map_cons, pr_newref J.1] at k9
  exact k9
theorem ps_newa (C : ps_C M P D dA b B y ws ns) (oA : pk_A ws) {t : ArrayType} {k : Nat} {n : Int32} (hk : pm_ak t = some k) (hn : ¬ n < 0) (hz : n.toNatClampNeg ≤ 100000) (h1 : kc + 1 ≤ (pp_rm P y).cells) (h2 : ks + n.toNatClampNeg ≤ (pp_rm P y).slots) (hd : decode (pp_by P y) pc = .ok (.newarray t, 2))
    (kk : ps_T M P D dA b B y (pc + 2) ls (.inr (some h.length) :: st) (kc + 1) (ks + n.toNatClampNeg) (h ++ [.inl (k, n.toNatClampNeg, fun _ => 0)])) : ps_T M P D dA b B y pc ls (.inl n :: st) kc ks h := by
  intro H locs a J
  obtain ⟨hx, hb, hml, hown, hts, hns, hK, hRm, hnm, hbB⟩ := C
  have hl := pr_last J.1
  cases t with
  | int =>
    cases hk
    refine va_newaK (atype := .int) hx hb (hts _ oA.1) rfl hd rfl hn rfl (by show _ * 4 ≤ _; omega) (by rw [show M.2.2.2.1 = pp_rm P y from hRm]; exact h1) (by rw [show M.2.2.2.1 = pp_rm P y from hRm]; exact h2) rfl fun H1 cA e1 z1 o1 hAr hNm => ?_
    have e3 : cA = dA 0 := Option.some.inj (hNm.symm.trans hK.2.1.2)
    subst e3
    have k9 := kk H1 locs a (ps_Jnew J (Or.inr ⟨by decide, by rw [hl]; exact e1⟩) z1 o1)
    rw [List.map_cons, pr_newref J.1] at k9
    exact k9
  | boolean =>
    cases hk
    refine va_newaK (atype := .boolean) hx hb (hts _ oA.2) rfl hd rfl hn rfl (by show _ * 1 ≤ _; omega) (by rw [show M.2.2.2.1 = pp_rm P y from hRm]; exact h1) (by rw [show M.2.2.2.1 = pp_rm P y from hRm]; exact h2) rfl fun H1 cA e1 z1 o1 hAr hNm => ?_
    have e3 : cA = dA 1 := Option.some.inj (hNm.symm.trans hK.2.2.1.2)
    subst e3
    have k9 := kk H1 locs a (ps_Jnew J (Or.inr ⟨by decide, by rw [hl]; exact e1⟩) z1 o1)
    rw [List.map_cons, pr_newref J.1] at k9
    exact k9
  | _ => cases hk
theorem ps_newq (C : ps_C M P D dA b B y ws ns) (oN : pk_N P ws) {idx ci : Nat} {n : Int32} (hc : pp_cls P (pp_own P y) idx = some ci) (ha : ((pp_cl P)[ci]?.map (fun q => q.2.2)) = some true) (hn : ¬ n < 0) (hz : n.toNatClampNeg ≤ 100000) (h1 : kc + 1 ≤ (pp_rm P y).cells) (h2 : ks + n.toNatClampNeg ≤ (pp_rm P y).slots) (hd : decode (pp_by P y) pc = .ok (.anewarray idx, 3))
    (kk : ps_T M P D dA b B y (pc + 3) ls (.inr (some h.length) :: st) (kc + 1) (ks + n.toNatClampNeg) (h ++ [.inr (.inl (ci, n.toNatClampNeg, fun _ => none))])) : ps_T M P D dA b B y pc ls (.inl n :: st) kc ks h := by
  intro H locs a J
  obtain ⟨hx, hb, hml, hown, hts, hns, hK, hRm, hnm, hbB⟩ := C
  obtain ⟨r, hr, hlink⟩ := oN y idx ci hc
  obtain ⟨r2, hr2, hr3⟩ := pr_arrC ha
  cases hr.symm.trans hr2
  obtain ⟨hAO, hAr, kA, comp, k1, k2, k3, k4⟩ := hK.2.2.2 ci r hr hr3
  have hl := pr_last J.1
  refine W.anew hx hb hown (hts _ hlink) (va_AO.use hAO) rfl hd rfl hn (by omega) (by rw [show M.2.2.2.1 = pp_rm P y from hRm]; exact h1) (by rw [show M.2.2.2.1 = pp_rm P y from hRm]; exact h2) fun cA kA2 comp2 f1 f2 f3 f4 => ?_
  have e3 : cA = dA (ci + 3) := Option.some.inj (f1.symm.trans k4)
  subst e3
  generalize hH1 : H.push ({ cls := dA (ci + 3), slots := Array.replicate n.toNatClampNeg .null, vm := .none } : Cell) = H1
  have z1 : H1.size = H.size + 1 := by rw [← hH1, Array.size_push]
  have e1 : H1[H.size]? = some (arrV (dA (ci + 3)) n.toNatClampNeg (fun _ => .null)) := by rw [← hH1, Array.getElem?_push_size, ← arrV_new]
  have o1 : ∀ q : Nat, q < H.size → H1[q]? = H[q]? := fun q hq => by rw [← hH1, Array.getElem?_push, if_neg (Nat.ne_of_lt hq)]
  have k9 := kk H1 locs a (ps_Jnew J (by show H1[_]? = _; rw [hl]; exact e1) z1 o1)
  rw [List.map_cons, pr_newref J.1] at k9
  exact k9
end PHS
