/-! the whole step, and the run -/
section PES
variable {M : MC} {P : PP} {D : va_G} {dA : Nat → ClassId} {b B y : Nat} {ws ns : List Cond} {pc kc ks : Nat} {ls : List (Option PV)} {st : List PV} {h : PH}
theorem pm_map_inl {o : Option PX} {X : PX} (e : (o.map Sum.inl : Option PO) = some (.inl X)) : o = some X := by
  cases o with
  | none => cases e
  | some Y => cases e; rfl
theorem pm_map_inr {o : Option PX} {x : (Nat × List PV × List PV) ⊕ Option PV} (e : (o.map Sum.inl : Option PO) = some (.inr x)) : False := by
  cases o with
  | none => cases e
  | some Y => cases e
/-- the six instructions that call or return -/
def pm_sp (ins : Instr) : Bool := match ins with
  | .invokestatic _ => true
  | .invokevirtual _ => true
  | .invokespecial _ => true
  | .ireturn => true
  | .areturn => true
  | .return_ => true
  | _ => false
theorem pm_i_j {ins : Instr} (hs : pm_sp ins = false) : pm_i P y ins pc ls st kc ks h = (pm_j P y ins pc ls st kc ks h).map Sum.inl := by
  cases ins with
  | invokestatic => cases hs
  | invokevirtual => cases hs
  | invokespecial => cases hs
  | ireturn => cases hs
  | areturn => cases hs
  | return_ => cases hs
  | _ => rfl
/-- a call's three parts -/
theorem pm_call_next {w idx : Nat} {X : PX} (hi : pm_call P y w idx pc ls st kc ks h = some (.inl X)) : (∃ (z n ci i : Nat) (r : List PV), pp_mth P (pp_own P y) idx = some (z, n, 6, ci) ∧ w = 2 ∧ st = .inr (some i) :: r ∧ r.length ≤ 8 ∧ X = (pc + 3, ls, r, kc, ks, h)) ∨
    ∃ (z n kd ci : Nat) (st1 : List PV), pp_mth P (pp_own P y) idx = some (z, n, kd, ci) ∧ 6 < kd ∧ w = 0 ∧ kc ≤ (pp_rm P y).cells ∧ ks ≤ (pp_rm P y).slots ∧ pm_math kd st = some st1 ∧ st1.length ≤ 9 ∧ X = (pc + 3, ls, st1, kc, ks, h) := by
  unfold pm_call at hi
  split at hi
  · rename_i z n kd ci hm
    split at hi
    · rename_i hkd
      subst hkd
      left
      split at hi
      · rename_i e
        split at hi
        · rename_i i r
          cases hi
          exact ⟨z, n, ci, i, r, hm, e.1, rfl, e.2, rfl⟩
        · cases hi
      · cases hi
    · split at hi
      · rename_i hkd
        right
        split at hi
        · rename_i e
          split at hi
          · rename_i st1 hst
            split at hi
            · rename_i h9
              cases hi
              exact ⟨z, n, kd, ci, st1, hm, hkd, e.1, e.2.1, e.2.2, hst, h9, rfl⟩
            · cases hi
          · cases hi
        · cases hi
      · split at hi
        · cases hi
        · cases hi
  · cases hi
theorem pm_call_call {w idx z : Nat} {as rest : List PV} (hi : pm_call P y w idx pc ls st kc ks h = some (.inr (.inl (z, as, rest)))) : ∃ n kd ci : Nat, pp_mth P (pp_own P y) idx = some (z, n, kd, ci) ∧ kd < 6 ∧ kd / 2 = w ∧ n ≤ st.length ∧ (st.drop n).length ≤ 8 ∧ kc + (pp_rm P z).cells ≤ (pp_rm P y).cells ∧ ks + (pp_rm P z).slots ≤ (pp_rm P y).slots ∧ pm_rcv kd ci st n h = true ∧ as = (st.take n).reverse ∧ rest = st.drop n := by
  unfold pm_call at hi
  split at hi
  · rename_i z1 n kd ci hm
    split at hi
    · split at hi
      · split at hi
        · cases hi
        · cases hi
      · cases hi
    · rename_i hkd
      split at hi
      · split at hi
        · split at hi
          · split at hi
            · cases hi
            · cases hi
          · cases hi
        · cases hi
      · rename_i hkd2
        split at hi
        · rename_i e
          cases hi
          exact ⟨n, kd, ci, hm, by omega, e.1, e.2.1, e.2.2.1, e.2.2.2.1, e.2.2.2.2.1, e.2.2.2.2.2, rfl, rfl⟩
        · cases hi
  · cases hi
theorem pm_call_ret {w idx : Nat} {r : Option PV} (hi : pm_call P y w idx pc ls st kc ks h = some (.inr (.inr r))) : False := by
  unfold pm_call at hi
  split at hi
  · split at hi
    · split at hi
      · split at hi
        · cases hi
        · cases hi
      · cases hi
    · split at hi
      · split at hi
        · split at hi
          · split at hi
            · cases hi
            · cases hi
          · cases hi
        · cases hi
      · split at hi
        · cases hi
        · cases hi
  · cases hi
theorem pm_rcv_obj {kd ci n : Nat} (hk : kd = 2 ∨ kd = 3) (e : pm_rcv kd ci st n h = true) : ∃ (i : Nat) (fs : List PV), st[n - 1]? = some (.inr (some i)) ∧ h[i]? = some (.inr (.inr (ci, fs))) := by
  rcases hk with rfl | rfl
  · simp only [pm_rcv] at e
    split at e
    · rename_i i hi
      split at e
      · rename_i cj fs hj
        have e1 : cj = ci := by simpa using e
        subst e1
        exact ⟨i, fs, hi, hj⟩
      · cases e
    · cases e
  · simp only [pm_rcv] at e
    split at e
    · rename_i i hi
      split at e
      · rename_i cj fs hj
        have e1 : cj = ci := by simpa using e
        subst e1
        exact ⟨i, fs, hi, hj⟩
      · cases e
    · cases e
theorem pm_rcv_ref {kd ci n : Nat} (hk : kd = 4 ∨ kd = 5) (e : pm_rcv kd ci st n h = true) : ∃ i : Nat, st[n - 1]? = some (.inr (some i)) := by
  rcases hk with rfl | rfl
  · simp only [pm_rcv] at e
    split at e
    · rename_i i hi
      exact ⟨i, hi⟩
    · cases e
  · simp only [pm_rcv] at e
    split at e
    · rename_i i hi
      exact ⟨i, hi⟩
    · cases e
theorem pm_ret_next {ins : Instr} {x : PX} (hi : pm_ret P y ins st kc ks = some (.inl x)) : False := by
  unfold pm_ret at hi
  split at hi
  · split at hi
    · split at hi
      · cases hi
      · cases hi
    · split at hi
      · cases hi
      · cases hi
    · cases hi
    · cases hi
  · cases hi
theorem pm_ret_call {ins : Instr} {x : Nat × List PV × List PV} (hi : pm_ret P y ins st kc ks = some (.inr (.inl x))) : False := by
  unfold pm_ret at hi
  split at hi
  · split at hi
    · split at hi
      · cases hi
      · cases hi
    · split at hi
      · cases hi
      · cases hi
    · cases hi
    · cases hi
  · cases hi
theorem ps_obj2 (C : ps_C M P D dA b B y ws ns) (ok : pk_all P ws ns) {idx w : Nat} (hw : ¬ w = 0) (hc : pp_code P y pc = some (.invokespecial idx)) {X : PX} (hi : pm_call P y w idx pc ls st kc ks h = some (.inl X)) (k : ps_X M P D dA b B y X) : ps_T M P D dA b B y pc ls st kc ks h := by
  obtain ⟨len, hd, hlen⟩ := ok.1 y pc _ hc
  cases hlen 3 rfl
  rcases pm_call_next hi with ⟨z, n, ci, i, r, hm, -, rfl, h8, rfl⟩ | ⟨z, n, kd, ci, st1, hm, -, q, -⟩
  · exact ps_obj C ok.2.2.2.2.1 ok.2.2.2.2.2.2.1 hc hm rfl h8 hd k
  · exact absurd q hw
set_option maxHeartbeats 1000000 in
theorem ps_next (C : ps_C M P D dA b B y ws ns) (ok : pk_all P ws ns) {ins : Instr} (hc : pp_code P y pc = some ins) {X : PX} (hi : pm_i P y ins pc ls st kc ks h = some (.inl X)) (k : ps_X M P D dA b B y X) : ps_T M P D dA b B y pc ls st kc ks h := by
  cases ins with
  | invokestatic idx =>
    obtain ⟨len, hd, hlen⟩ := ok.1 y pc _ hc
    cases hlen 3 rfl
    rcases pm_call_next (show pm_call P y 0 idx pc ls st kc ks h = _ from hi) with ⟨z, n, ci, i, r, hm, e, -⟩ | ⟨z, n, kd, ci, st1, hm, hkd, -, h1, h2, hst, h9, rfl⟩
    · exact absurd e (by decide)
    · exact ps_math C ok.2.2.2.2.1 ok.2.2.2.2.2.2.1 hc hm hkd h1 h2 hst h9 hd k
  | invokevirtual idx =>
    rcases pm_call_next (show pm_call P y 1 idx pc ls st kc ks h = _ from hi) with ⟨z, n, ci, i, r, hm, e, -⟩ | ⟨z, n, kd, ci, st1, hm, hkd, e, -⟩
    · exact absurd e (by decide)
    · exact absurd e (by decide)
  | invokespecial idx => exact ps_obj2 C ok (by decide) hc (show pm_call P y 2 idx pc ls st kc ks h = _ from hi) k
  | ireturn => exact absurd (show pm_ret P y .ireturn st kc ks = _ from hi) (fun q => pm_ret_next q)
  | areturn => exact absurd (show pm_ret P y .areturn st kc ks = _ from hi) (fun q => pm_ret_next q)
  | return_ => exact absurd (show pm_ret P y .return_ st kc ks = _ from hi) (fun q => pm_ret_next q)
  | _ => exact ps_j C ok hc (pm_map_inl ((pm_i_j (by rfl)).symm.trans hi)) k
set_option maxHeartbeats 1000000 in
theorem ps_icall (C : ps_C M P D dA b B y ws ns) (ok : pk_all P ws ns) {ins : Instr} (hc : pp_code P y pc = some ins) {z : Nat} {as rest : List PV} (hi : pm_i P y ins pc ls st kc ks h = some (.inr (.inl (z, as, rest)))) {r : Option PV} {h1 : PH} (hM : as.length ≤ pp_ml P z → plainName (pp_nm P z).cls = true → ps_Met M.2.1 P D dA b B ws ns z as h r h1)
    (kk : ps_T M P D dA b B y (pc + 3) ls (r.toList ++ rest) (kc + (pp_rm P z).cells) (ks + (pp_rm P z).slots) h1) : ps_T M P D dA b B y pc ls st kc ks h := by
  obtain ⟨oC, oK, oF, oP, oM, oZ, oR, oV, oN, oA, oG, oS⟩ := ok
  obtain ⟨len, hd, hlen⟩ := oC y pc ins hc
  cases ins with
  | invokestatic idx =>
    cases hlen 3 rfl
    obtain ⟨n, kd, ci, hm, hk6, hw, hn, h8, hcc, hcs, hrc, rfl, rfl⟩ := pm_call_call (show pm_call P y 0 idx pc ls st kc ks h = _ from hi)
    have hz := oZ y idx z n kd ci hm hk6
    exact ps_callS C oM oZ oR oG oS hc hm (by omega) hn h8 hcc hcs (hM (by rw [List.length_reverse, List.length_take]; omega) hz.2.2.2.2.2) hd kk
  | invokevirtual idx =>
    cases hlen 3 rfl
    obtain ⟨n, kd, ci, hm, hk6, hw, hn, h8, hcc, hcs, hrc, rfl, rfl⟩ := pm_call_call (show pm_call P y 1 idx pc ls st kc ks h = _ from hi)
    have hz := oZ y idx z n kd ci hm hk6
    obtain ⟨i, fs, hv, hj⟩ := pm_rcv_obj (by omega) hrc
    exact ps_callV C oM oZ oR oG oS hc hm (by omega) hn h8 hv hj hcc hcs (hM (by rw [List.length_reverse, List.length_take]; omega) hz.2.2.2.2.2) hd kk
  | invokespecial idx =>
    cases hlen 3 rfl
    obtain ⟨n, kd, ci, hm, hk6, hw, hn, h8, hcc, hcs, hrc, rfl, rfl⟩ := pm_call_call (show pm_call P y 2 idx pc ls st kc ks h = _ from hi)
    have hz := oZ y idx z n kd ci hm hk6
    obtain ⟨i, hv⟩ := pm_rcv_ref (by omega) hrc
    exact ps_callI C oM oZ oR oG oS hc hm (by omega) hn h8 hv hcc hcs (hM (by rw [List.length_reverse, List.length_take]; omega) hz.2.2.2.2.2) hd kk
  | ireturn => exact absurd (show pm_ret P y .ireturn st kc ks = _ from hi) (fun q => pm_ret_call q)
  | areturn => exact absurd (show pm_ret P y .areturn st kc ks = _ from hi) (fun q => pm_ret_call q)
  | return_ => exact absurd (show pm_ret P y .return_ st kc ks = _ from hi) (fun q => pm_ret_call q)
  | _ => exact (pm_map_inr ((pm_i_j (by rfl)).symm.trans hi)).elim
/-- an end: what stands on the stack, what is returned -/
theorem pm_ret_ret {ins : Instr} {r : Option PV} (hi : pm_ret P y ins st kc ks = some (.inr (.inr r))) : kc ≤ (pp_rm P y).cells ∧ ks ≤ (pp_rm P y).slots ∧
    ((∃ (x : Int32) (ty : FieldType), ins = .ireturn ∧ st = [.inl x] ∧ pp_ret P y = some ty ∧ pm_fit ty (.inl x) = true ∧ r = some (.inl x)) ∨ (∃ (x : Option Nat) (ty : FieldType), ins = .areturn ∧ st = [.inr x] ∧ pp_ret P y = some ty ∧ pm_fit ty (.inr x) = true ∧ r = some (.inr x)) ∨ (ins = .return_ ∧ st = [] ∧ pp_ret P y = none ∧ r = none)) := by
  unfold pm_ret at hi
  split at hi
  · rename_i e
    refine ⟨e.1, e.2, ?_⟩
    split at hi
    · rename_i x ty hty
      split at hi
      · rename_i hf
        cases hi
        exact Or.inl ⟨x, ty, rfl, rfl, hty, hf, rfl⟩
      · cases hi
    · rename_i x ty hty
      split at hi
      · rename_i hf
        cases hi
        exact Or.inr (Or.inl ⟨x, ty, rfl, rfl, hty, hf, rfl⟩)
      · cases hi
    · rename_i hty
      cases hi
      exact Or.inr (Or.inr ⟨rfl, rfl, hty, rfl⟩)
    · cases hi
  · cases hi
theorem pm_i_ret {ins : Instr} {r : Option PV} (hi : pm_i P y ins pc ls st kc ks h = some (.inr (.inr r))) : pm_ret P y ins st kc ks = some (.inr (.inr r)) := by
  cases ins with
  | ireturn => exact hi
  | areturn => exact hi
  | return_ => exact hi
  | invokestatic idx => exact (pm_call_ret (show pm_call P y 0 idx pc ls st kc ks h = _ from hi)).elim
  | invokevirtual idx => exact (pm_call_ret (show pm_call P y 1 idx pc ls st kc ks h = _ from hi)).elim
  | invokespecial idx => exact (pm_call_ret (show pm_call P y 2 idx pc ls st kc ks h = _ from hi)).elim
  | _ => exact (pm_map_inr ((pm_i_j (by rfl)).symm.trans hi)).elim
end PES
section PER
variable {p : Program} {l : Launch} {e : Env} {R : Room} {s : State} {m : MethodId} {args : Array Value} {below : List Frame} {meth : Method} {c : Code}
variable {P : PP} {D : va_G} {dA : Nat → ClassId} {b B y : Nat} {ws ns : List Cond} {pc kc ks : Nat} {ls : List (Option PV)} {st : List PV} {h : PH}
/-- the end of a method that was called -/
theorem ps_end (ok : pk_all P ws ns) (hr : meth.sig.returnType = pp_ret P y) (hlocks : meth.locks = false) {r : Option PV} (C : ps_C (p, l, e, R, s, m, args, below, meth, c, MQ below (ps_Qc P D dA b B r h) args s (pp_rm P y).cells (pp_rm P y).slots (fun q => B ≤ q)) P D dA b B y ws ns) {ins : Instr} (hc : pp_code P y pc = some ins) (hi : pm_i P y ins pc ls st kc ks h = some (.inr (.inr r))) :
    ps_T (p, l, e, R, s, m, args, below, meth, c, MQ below (ps_Qc P D dA b B r h) args s (pp_rm P y).cells (pp_rm P y).slots (fun q => B ≤ q)) P D dA b B y pc ls st kc ks h := by
  intro H locs a J
  obtain ⟨len, hd, hlen⟩ := ok.1 y pc _ hc
  obtain ⟨h1, h2, h3⟩ := pm_ret_ret (pm_i_ret hi)
  have hx : p.tables.exec = Jvm.exec := C.1
  have hb : c.code = pp_by P y := C.2.1
  have fin : ∀ t : State, t.heap = H → s.WarmedH t.vm → ∀ v, v = r.map (pr_v b B) → ps_Qc P D dA b B r h args s (.returned v) t := by
    intro t ht hW v hv
    subst hv
    exact ⟨rfl, by rw [ht]; exact J.1.moved hW.alike, fun q hq => by rw [ht]; exact J.2.2.2 q hq⟩
  rcases h3 with ⟨x, ty, rfl, rfl, hty, hf, rfl⟩ | ⟨x, ty, rfl, rfl, hty, hf, rfl⟩ | ⟨rfl, rfl, hty, rfl⟩
  · cases hlen 1 rfl
    exact W.widen h1 h2 (W.zret (v := x) hx hb (hr.trans hty) (pr_fit b B hf).1 (fun t ht hW => fin t ht hW _ rfl) J.2.2.1 hd hlocks)
  · cases hlen 1 rfl
    refine W.widen h1 h2 (W.aret (v := pr_v b B (.inr x)) hx hb (hr.trans hty) ?_ ?_ (fun t ht hW => fin t ht hW _ rfl) J.2.2.1 hd hlocks)
    · cases ty with
      | object n => exact Or.inl ⟨n, rfl⟩
      | array t => exact Or.inr ⟨t, rfl⟩
      | _ => cases hf
    · cases x with
      | none => exact Or.inl rfl
      | some x => exact Or.inr ⟨_, rfl⟩
  · cases hlen 1 rfl
    exact W.widen h1 h2 (W.vret hx hb (hr.trans hty) (fun t ht hW => fin t ht hW _ rfl) J.2.2.1 hd hlocks)
end PER
/-- a run from X: for every frame whose ends are good -/
def ps_S (P : PP) (ws ns : List Cond) (n : Nat) : Prop := ∀ (y : Nat) (X : PX) (r : Option PV) (h1 : PH), pm_run P n y X = some (r, h1) → ∀ (M : MC) (D : va_G) (dA : Nat → ClassId) (b B : Nat), ps_C M P D dA b B y ws ns →
  (∀ (pc : Nat) (ins : Instr) (ls : List (Option PV)) (st : List PV) (kc ks : Nat), pp_code P y pc = some ins → pm_i P y ins pc ls st kc ks h1 = some (.inr (.inr r)) → ps_T M P D dA b B y pc ls st kc ks h1) → ps_X M P D dA b B y X
theorem ps_met (P : PP) (ws ns : List Cond) (ok : pk_all P ws ns) {n : Nat} (S : ps_S P ws ns n) (l : Launch) (D : va_G) (dA : Nat → ClassId) (b B : Nat) (hbB : b < B) {z : Nat} {as : List PV} {h : PH} {r : Option PV} {h1 : PH} (hrun : pm_run P n z (pm_en P z as h) = some (r, h1)) (hlen : as.length ≤ pp_ml P z) (hpl : plainName (pp_nm P z).cls = true) :
    ps_Met l P D dA b B ws ns z as h r h1 := by
  refine Met.ofW (cc := pp_by P z) (maxL := pp_ml P z) (ret := pp_ret P z) hpl rfl ?_
  intro p e s m args below meth c s1 Bd hml hv
  obtain ⟨rfl, hR, hK, hns⟩ := hv
  have hts := atoms_spec (ws := ps_ws P ws z) Bd.pre
  have hown : s.vm.findClass (pp_nm P z).cls = some m.cls := findClass_of_methodNamed Bd.named
  have hnm : (pp_nm P z).name = "<init>" → meth.name = "<init>" := fun q => (name_of_methodNamed Bd.named Bd.method).1.trans q
  have C : ps_C (p, l, e, pp_rm P z, s, m, (as.map (pr_v b B)).toArray, below, meth, c, MQ below (ps_Qc P D dA b B r h1) (as.map (pr_v b B)).toArray s (pp_rm P z).cells (pp_rm P z).slots (fun q => B ≤ q)) P D dA b B z ws ns :=
    ⟨Bd.exec, Bd.bytes, hml, hown, fun w hw => hts w (List.mem_cons_of_mem _ hw), hns, hK, rfl, hnm, hbB⟩
  have T := S z _ r h1 hrun _ D dA b B C (fun pc ins ls st kc ks hc hi => ps_end ok Bd.returns Bd.notSynchronized C hc hi)
  rw [lg_entry_eq]
  exact T s.heap [] _ ⟨hR, pr_L.entry b B as (pp_ml P z) hlen, fun q hq => (by cases hq), fun _ _ => rfl⟩
theorem ps_run (P : PP) (ws ns : List Cond) (ok : pk_all P ws ns) : ∀ n, ps_S P ws ns n := by
  intro n
  induction n with
  | zero =>
    intro y X r h1 hrun
    cases hrun
  | succ n ih =>
    intro y X r h1 hrun M D dA b B C hQ
    have hs : ∀ o, pm_s P y X = some o → ∃ ins, pp_code P y X.1 = some ins ∧ pm_i P y ins X.1 X.2.1 X.2.2.1 X.2.2.2.1 X.2.2.2.2.1 X.2.2.2.2.2 = some o := by
      intro o ho
      unfold pm_s at ho
      split at ho
      · rename_i ins hins
        exact ⟨ins, hins, ho⟩
      · cases ho
    rw [pm_run] at hrun
    split at hrun
    · cases hrun
    · rename_i X1 hX
      obtain ⟨ins, hc, hi⟩ := hs _ hX
      exact ps_next C ok hc hi (ih y X1 r h1 hrun M D dA b B C hQ)
    · rename_i z as rest hX
      obtain ⟨ins, hc, hi⟩ := hs _ hX
      split at hrun
      · cases hrun
      · rename_i r1 h2 hrun1
        exact ps_icall C ok hc hi (fun hlen hpl => ps_met P ws ns ok ih M.2.1 D dA b B C.2.2.2.2.2.2.2.2.2 hrun1 hlen hpl) (ih y _ r h1 hrun M D dA b B C hQ)
    · rename_i r1 hX
      obtain ⟨ins, hc, hi⟩ := hs _ hX
      cases hrun
      exact hQ _ ins _ _ _ _ hc hi
