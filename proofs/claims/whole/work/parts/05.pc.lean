/-! CALLS, RETURNS, RUNS: a run of the pure machine gives the method's contract. -/
def ps_Pc (P : PP) (D : va_G) (dA : Nat → ClassId) (b B : Nat) (ns : List Cond) (as : List PV) (h : PH) : Array Value → State → Prop := fun v U =>
  v = (as.map (pr_v b B)).toArray ∧ pr_R P U D dA b B h U.heap ∧ pr_K P D dA U ∧ ∀ w ∈ ns, va_Nw w U
def ps_Qc (P : PP) (D : va_G) (dA : Nat → ClassId) (b B : Nat) (r : Option PV) (h1 : PH) : Array Value → State → Outcome → State → Prop := fun _ st oc t =>
  oc = .returned (r.map (pr_v b B)) ∧ pr_R P t D dA b B h1 t.heap ∧ ∀ q : Nat, q < B → t.heap[q]? = st.heap[q]?
abbrev ps_ws (P : PP) (ws : List Cond) (z : Nat) : List Cond := Cond.code (pp_nm P z) (pp_by P z) (pp_ml P z) (pp_ret P z) :: ws
abbrev ps_Met (l : Launch) (P : PP) (D : va_G) (dA : Nat → ClassId) (b B : Nat) (ws ns : List Cond) (z : Nat) (as : List PV) (h : PH) (r : Option PV) (h1 : PH) : Prop :=
  Met l (pp_nm P z) (ps_ws P ws z) (pp_rm P z) (ps_Pc P D dA b B ns as h) (ps_Qc P D dA b B r h1) (pp_rm P z).cells (pp_rm P z).slots (fun q => B ≤ q)
section PCS
variable {M : MC} {P : PP} {D : va_G} {dA : Nat → ClassId} {b B y : Nat} {ws ns : List Cond} {pc kc ks : Nat} {ls : List (Option PV)} {st : List PV} {h : PH}
theorem ps_nsame (oS : pk_S ns) {u U : State} (e : u.vm = U.vm) (hns : ∀ w ∈ ns, va_Nw w u) : ∀ w ∈ ns, va_Nw w U := by
  intro w hw
  have h1 := hns w hw
  rcases oS w hw with ⟨a, i, c, n, d, x, rfl⟩ | ⟨a, i, c, x, rfl⟩
  · exact va_Nw.same rfl e h1
  · exact va_Nw.same rfl e h1
theorem ps_nwarm (oS : pk_S ns) {s U : State} (hW : s.WarmedH U.vm) (hns : ∀ w ∈ ns, va_Nw w s) : ∀ w ∈ ns, va_Nw w U := by
  intro w hw
  have h1 := hns w hw
  rcases oS w hw with ⟨a, i, c, n, d, x, rfl⟩ | ⟨a, i, c, x, rfl⟩
  · exact va_Nw.warmF hW h1
  · exact va_Nw.warmM hW h1
theorem ps_blind (oS : pk_S ns) (as : List PV) : FrameBlind (ps_Pc P D dA b B ns as h) := fun a U g mk q =>
  ⟨q.1, q.2.1.moved (U := U.calling g mk a) (Vm.Alike.refl U.vm), q.2.2.1.moved (U := U.calling g mk a) (Vm.Alike.refl U.vm), ps_nsame oS (u := U) (U := U.calling g mk a) rfl q.2.2.2⟩
theorem ps_pre (oS : pk_S ns) {s U : State} {H : Heap} {locs : List Loc} {a : Array Slot} (hK : pr_K P D dA s) (hns : ∀ w ∈ ns, va_Nw w s) (J : ps_J P D dA b B y s ls h H locs a) (hU : U.heap = H) (hW : s.WarmedH U.vm) {as : List PV} {av : Array Value} (ha : av = (as.map (pr_v b B)).toArray) : ps_Pc P D dA b B ns as h av U :=
  ⟨ha, by rw [hU]; exact J.1.moved hW.alike, hK.moved hW.alike, ps_nwarm oS hW hns⟩
theorem ps_good (oG : pk_G ws) {z : Nat} (hz : Cond.code (pp_nm P z) (pp_by P z) (pp_ml P z) (pp_ret P z) ∈ ws) : GoodIn ws (ps_ws P ws z) := by
  intro w hw
  rcases List.mem_cons.mp hw with rfl | hw
  · exact ⟨hz, oG _ hz⟩
  · exact ⟨hw, oG w hw⟩
/-- behind a call -/
theorem ps_after {mc ms : Nat} {st0 : List Value} {av : Array Value} {rest : List PV} {r : Option PV} {h1 : PH} {H : Heap} {locs : List Loc} {a : Array Slot} (J : ps_J P D dA b B y (mc_s M) ls h H locs a)
    (hr : va_Run M.1 M.2.1 M.2.2.1 M.2.2.2.1 M.2.2.2.2.1 M.2.2.2.2.2.1 M.2.2.2.2.2.2.1 M.2.2.2.2.2.2.2.1 M.2.2.2.2.2.2.2.2.1 M.2.2.2.2.2.2.2.2.2.1 H locs kc ks mc ms (F0 (mc_m M) pc a st0) (rest.map (pr_v b B)) (ps_Qc P D dA b B r h1 av) (fun q => B ≤ q))
    (kk : ps_T M P D dA b B y (pc + 3) ls (r.toList ++ rest) (kc + mc) (ks + ms) h1) : pm_W M H locs kc ks (F0 (mc_m M) pc a st0) := by
  intro T hT X
  obtain ⟨v, s0, t, T1, L, h0, X1, hL, e1, e2, ⟨hv, hR, hF⟩, st⟩ := hr T hT X
  have hv1 : v = r.map (pr_v b B) := Outcome.returned.inj hv
  subst hv1
  have hvm : (mc_s M).vm.Alike t.vm := by rw [← e2]; exact X1.warmed.alike
  obtain ⟨t2, a1, b1⟩ := kk T1.heap (locs ++ L) a ⟨by rw [e1]; exact hR.moved hvm.symm, J.2.1, fun q hq => by
      rcases List.mem_append.mp hq with h | h
      · exact J.2.2.1 q h
      · exact hL q h, fun q hq => by rw [e1, hF q hq, h0]; exact J.2.2.2 q hq⟩ T1 rfl X1
  refine ⟨t2, st t2 ?_, b1⟩
  have e : (r.toList ++ rest).map (pr_v b B) = (r.map (pr_v b B)).toList ++ rest.map (pr_v b B) := by cases r <;> simp
  rw [e] at a1
  exact a1
theorem ps_callS (C : ps_C M P D dA b B y ws ns) (oM : pk_M P ws ns) (oZ : pk_Z P ws) (oR : pk_R P) (oG : pk_G ws) (oS : pk_S ns) {idx z n kd ci : Nat} {r : Option PV} {h1 : PH} (hc : pp_code P y pc = some (.invokestatic idx)) (hm : pp_mth P (pp_own P y) idx = some (z, n, kd, ci)) (hkd : kd = 0 ∨ kd = 1) (hn : n ≤ st.length) (h8 : (st.drop n).length ≤ 8)
    (hcc : kc + (pp_rm P z).cells ≤ (pp_rm P y).cells) (hcs : ks + (pp_rm P z).slots ≤ (pp_rm P y).slots) (hM : ps_Met M.2.1 P D dA b B ws ns z (st.take n).reverse h r h1) (hd : decode (pp_by P y) pc = .ok (.invokestatic idx, 3))
    (kk : ps_T M P D dA b B y (pc + 3) ls (r.toList ++ st.drop n) (kc + (pp_rm P z).cells) (ks + (pp_rm P z).slots) h1) : ps_T M P D dA b B y pc ls st kc ks h := by
  intro H locs a J
  obtain ⟨hx, hb, hml, hown, hts, hns, hK, hRm, hnm, hbB⟩ := C
  have hRm : M.2.2.2.1 = pp_rm P y := hRm
  have hk6 : kd < 6 := by omega
  obtain ⟨hz1, hz2, hz3, hz4, hz5, hz6⟩ := oZ y idx z n kd ci hm hk6
  have hroom := (oR y pc idx z n kd ci (Or.inl hc) hm).2 hk6
  have hG := ps_good (P := P) oG hz2
  have hst : st.map (pr_v b B) = ((st.take n).reverse.map (pr_v b B)).reverse ++ (st.drop n).map (pr_v b B) := by
    rw [List.map_reverse, List.reverse_reverse, ← List.map_append, List.take_append_drop]
  have hlen : ((st.take n).reverse.map (pr_v b B)).length = n := by
    rw [List.length_map, List.length_reverse, List.length_take]; omega
  have hlk := oM y idx z n kd ci hm
  rcases hkd with rfl | rfl
  · rcases hlk with ⟨q, -⟩ | ⟨q, -⟩ | ⟨hp, hl, hs⟩
    · exact absurd q (by decide)
    · exact absurd q (by decide)
    · exact ps_after J (va_runS (nL := pp_ml P y) (Ts := ws) (own := (pp_nm P y).cls) ⟨hx, hb, hml, hown, hts⟩ hM ⟨callB_of n hts hG rfl rfl rfl (hts _ hz3) (hts _ hl) ⟨hz4, hz5, hp⟩ ⟨by rw [hRm]; exact hroom.1, by rw [hRm]; exact hroom.2⟩, hts _ hs⟩ ⟨ps_blind oS _, fun U hU hW => ps_pre oS hK hns J hU hW rfl⟩ rfl hlen J.2.1.2.1 hst (lv_room (by rw [pr_sum]; exact h8)) hd ⟨by rw [hRm]; exact hcc, by rw [hRm]; exact hcs⟩) kk
  · rcases hlk with ⟨q, -⟩ | ⟨q, -⟩ | ⟨hp, ⟨host, hl⟩, hs⟩
    · exact absurd q (by decide)
    · exact absurd q (by decide)
    · exact ps_after J (va_runSN (nL := pp_ml P y) (Ts := ws) (own := (pp_nm P y).cls) ⟨hx, hb, hml, hown, hts⟩ hM ⟨va_cnB n hts hG rfl rfl rfl (hns _ hl) (hts _ hz3) ⟨hz4, hz5, hp⟩ ⟨by rw [hRm]; exact hroom.1, by rw [hRm]; exact hroom.2⟩, hts _ hs, trivial⟩ ⟨ps_blind oS _, fun U hU hW => ps_pre oS hK hns J hU hW rfl⟩ rfl hlen J.2.1.2.1 hst (lv_room (by rw [pr_sum]; exact h8)) hd ⟨by rw [hRm]; exact hcc, by rw [hRm]; exact hcs⟩) kk
theorem pr_take {st : List PV} {q : Nat} {v : PV} (hq : st[q]? = some v) : (st.take (q + 1)).reverse = v :: (st.take q).reverse := by
  rw [List.take_add_one, hq]; simp
theorem pr_split {st : List PV} {q : Nat} {v : PV} (hq : st[q]? = some v) (b B : Nat) : st.map (pr_v b B) = ((st.take q).reverse.map (pr_v b B)).reverse ++ pr_v b B v :: (st.drop (q + 1)).map (pr_v b B) := by
  have e := List.take_append_drop (q + 1) st
  rw [List.take_add_one, hq] at e
  rw [List.append_assoc] at e
  have e2 : st = st.take q ++ v :: st.drop (q + 1) := e.symm
  rw [List.map_reverse, List.reverse_reverse, ← List.map_cons, ← List.map_append, ← e2]
theorem ps_callV (C : ps_C M P D dA b B y ws ns) (oM : pk_M P ws ns) (oZ : pk_Z P ws) (oR : pk_R P) (oG : pk_G ws) (oS : pk_S ns) {idx z n kd ci i : Nat} {fs : List PV} {r : Option PV} {h1 : PH} (hc : pp_code P y pc = some (.invokevirtual idx)) (hm : pp_mth P (pp_own P y) idx = some (z, n, kd, ci)) (hkd : kd = 2 ∨ kd = 3) (hn : n ≤ st.length) (h8 : (st.drop n).length ≤ 8)
    (hv : st[n - 1]? = some (.inr (some i))) (hi : h[i]? = some (.inr (.inr (ci, fs))))
    (hcc : kc + (pp_rm P z).cells ≤ (pp_rm P y).cells) (hcs : ks + (pp_rm P z).slots ≤ (pp_rm P y).slots) (hM : ps_Met M.2.1 P D dA b B ws ns z (st.take n).reverse h r h1) (hd : decode (pp_by P y) pc = .ok (.invokevirtual idx, 3))
    (kk : ps_T M P D dA b B y (pc + 3) ls (r.toList ++ st.drop n) (kc + (pp_rm P z).cells) (ks + (pp_rm P z).slots) h1) : ps_T M P D dA b B y pc ls st kc ks h := by
  intro H locs a J
  obtain ⟨hx, hb, hml, hown, hts, hns, hK, hRm, hnm, hbB⟩ := C
  have hRm : M.2.2.2.1 = pp_rm P y := hRm
  have hk6 : kd < 6 := by omega
  obtain ⟨hz1, hz2, hz3, hz4, hz5, hz6⟩ := oZ y idx z n kd ci hm hk6
  have hroom := (oR y pc idx z n kd ci (Or.inr (Or.inl hc)) hm).2 hk6
  have hG := ps_good (P := P) oG hz2
  obtain ⟨r2, hr2, hlen2, hO⟩ := J.1.2.2 i _ hi
  have hP : va_P D (pr_cl P) [(pr_ad b B i, .inr (ci, fs.map (pr_v b B)))] H := pr_P1 ⟨r2.1, pr_clG hr2, hO⟩
  have hrcv := va_recv hK.1 hP (pr_clG hr2) (q0 := 0) rfl
  have hlk := oM y idx z n kd ci hm
  rcases hkd with rfl | rfl
  · rcases hlk with ⟨q, -⟩ | ⟨q, -⟩ | ⟨⟨q, rfl, hp⟩, hl, hin, hse, r3, hr3, hcls⟩
    · exact absurd q (by decide)
    · exact absurd q (by decide)
    · cases hr2.symm.trans hr3
      have hv : st[q]? = some (.inr (some i)) := hv
      have hlen : ((st.take q).reverse.map (pr_v b B)).length = q := by
        rw [List.length_map, List.length_reverse, List.length_take]; omega
      rw [hcls] at hrcv
      exact ps_after J (va_runV (nL := pp_ml P y) (Ts := ws) (own := (pp_nm P y).cls) (C := (pp_nm P z).cls) (b := pr_ad b B i) (As := (st.take q).reverse.map (pr_v b B)) ⟨hx, hb, hml, hown, hts⟩ hM ⟨callB_of q hts hG rfl rfl rfl (hts _ hz3) (hts _ hl) ⟨hz4, hz5, hp⟩ ⟨by rw [hRm]; exact hroom.1, by rw [hRm]; exact hroom.2⟩, hts _ hin, hts _ hse⟩ ⟨ps_blind oS _, hrcv, fun U hU hW => ps_pre oS hK hns J hU hW (by rw [pr_take hv]; rfl)⟩ rfl hlen J.2.1.2.1 (pr_split hv b B) (lv_room (by rw [pr_sum]; exact h8)) hd ⟨by rw [hRm]; exact hcc, by rw [hRm]; exact hcs⟩) kk
  · rcases hlk with ⟨q, -⟩ | ⟨q, -⟩ | ⟨⟨q, rfl, hp⟩, ⟨host, hl⟩, hin, hse, r3, hr3, hcls⟩
    · exact absurd q (by decide)
    · exact absurd q (by decide)
    · cases hr2.symm.trans hr3
      have hv : st[q]? = some (.inr (some i)) := hv
      have hlen : ((st.take q).reverse.map (pr_v b B)).length = q := by
        rw [List.length_map, List.length_reverse, List.length_take]; omega
      rw [hcls] at hrcv
      exact ps_after J (va_runVN (nL := pp_ml P y) (Ts := ws) (own := (pp_nm P y).cls) (C := (pp_nm P z).cls) (b := pr_ad b B i) (As := (st.take q).reverse.map (pr_v b B)) ⟨hx, hb, hml, hown, hts⟩ hM ⟨va_cnB q hts hG rfl rfl rfl (hns _ hl) (hts _ hz3) ⟨hz4, hz5, hp⟩ ⟨by rw [hRm]; exact hroom.1, by rw [hRm]; exact hroom.2⟩, hts _ hin, hts _ hse⟩ ⟨ps_blind oS _, hrcv, fun U hU hW => ps_pre oS hK hns J hU hW (by rw [pr_take hv]; rfl)⟩ rfl hlen J.2.1.2.1 (pr_split hv b B) (lv_room (by rw [pr_sum]; exact h8)) hd ⟨by rw [hRm]; exact hcc, by rw [hRm]; exact hcs⟩) kk
theorem ps_callI (C : ps_C M P D dA b B y ws ns) (oM : pk_M P ws ns) (oZ : pk_Z P ws) (oR : pk_R P) (oG : pk_G ws) (oS : pk_S ns) {idx z n kd ci i : Nat} {r : Option PV} {h1 : PH} (hc : pp_code P y pc = some (.invokespecial idx)) (hm : pp_mth P (pp_own P y) idx = some (z, n, kd, ci)) (hkd : kd = 4 ∨ kd = 5) (hn : n ≤ st.length) (h8 : (st.drop n).length ≤ 8)
    (hv : st[n - 1]? = some (.inr (some i)))
    (hcc : kc + (pp_rm P z).cells ≤ (pp_rm P y).cells) (hcs : ks + (pp_rm P z).slots ≤ (pp_rm P y).slots) (hM : ps_Met M.2.1 P D dA b B ws ns z (st.take n).reverse h r h1) (hd : decode (pp_by P y) pc = .ok (.invokespecial idx, 3))
    (kk : ps_T M P D dA b B y (pc + 3) ls (r.toList ++ st.drop n) (kc + (pp_rm P z).cells) (ks + (pp_rm P z).slots) h1) : ps_T M P D dA b B y pc ls st kc ks h := by
  intro H locs a J
  obtain ⟨hx, hb, hml, hown, hts, hns, hK, hRm, hnm, hbB⟩ := C
  have hRm : M.2.2.2.1 = pp_rm P y := hRm
  have hk6 : kd < 6 := by omega
  obtain ⟨hz1, hz2, hz3, hz4, hz5, hz6⟩ := oZ y idx z n kd ci hm hk6
  have hroom := (oR y pc idx z n kd ci (Or.inr (Or.inr hc)) hm).2 hk6
  have hG := ps_good (P := P) oG hz2
  have hlk := oM y idx z n kd ci hm
  rcases hkd with rfl | rfl
  · rcases hlk with ⟨q, -⟩ | ⟨q, -⟩ | ⟨⟨q, rfl, hp⟩, hl, hin, hini, hret⟩
    · exact absurd q (by decide)
    · exact absurd q (by decide)
    · have hv : st[q]? = some (.inr (some i)) := hv
      have hlen : ((st.take q).reverse.map (pr_v b B)).length = q := by
        rw [List.length_map, List.length_reverse, List.length_take]; omega
      have cb : CallB M.2.2.2.1 (mc_s M) (mc_a M) (pp_nm P y).cls idx (pp_nm P z) (pp_by P z) (pp_ml P z) (pp_ret P z) (ps_ws P ws z) (pp_rm P z) (pp_rm P z).cells (pp_rm P z).slots q := callB_of q hts hG rfl rfl rfl (hts _ hz3) (hts _ hl) ⟨hz4, hz5, hp⟩ ⟨by rw [hRm]; exact hroom.1, by rw [hRm]; exact hroom.2⟩
      rw [hret] at cb
      exact ps_after J (va_runI (nL := pp_ml P y) (Ts := ws) (own := (pp_nm P y).cls) (b := pr_ad b B i) (As := (st.take q).reverse.map (pr_v b B)) ⟨hx, hb, hml, hown, hts⟩ hM ⟨cb, hini, hts _ hin⟩ ⟨ps_blind oS _, fun U hU hW => ps_pre oS hK hns J hU hW (by rw [pr_take hv]; rfl)⟩ rfl hlen J.2.1.2.1 (pr_split hv b B) (lv_room (by rw [pr_sum]; exact h8)) hd ⟨by rw [hRm]; exact hcc, by rw [hRm]; exact hcs⟩) kk
  · rcases hlk with ⟨q, -⟩ | ⟨q, -⟩ | ⟨⟨q, rfl, hp⟩, ⟨host, hl⟩, hin, hini, hret⟩
    · exact absurd q (by decide)
    · exact absurd q (by decide)
    · have hv : st[q]? = some (.inr (some i)) := hv
      have hlen : ((st.take q).reverse.map (pr_v b B)).length = q := by
        rw [List.length_map, List.length_reverse, List.length_take]; omega
      have cb : va_CN M.2.2.2.1 (mc_s M) (mc_a M) (pp_nm P y).cls idx (pp_nm P z) host (pp_by P z) (pp_ml P z) (pp_ret P z) (ps_ws P ws z) (pp_rm P z) (pp_rm P z).cells (pp_rm P z).slots q := va_cnB q hts hG rfl rfl rfl (hns _ hl) (hts _ hz3) ⟨hz4, hz5, hp⟩ ⟨by rw [hRm]; exact hroom.1, by rw [hRm]; exact hroom.2⟩
      rw [hret] at cb
      exact ps_after J (va_runIN (nL := pp_ml P y) (Ts := ws) (own := (pp_nm P y).cls) (b := pr_ad b B i) (As := (st.take q).reverse.map (pr_v b B)) ⟨hx, hb, hml, hown, hts⟩ hM ⟨cb, hini, hts _ hin⟩ ⟨ps_blind oS _, fun U hU hW => ps_pre oS hK hns J hU hW (by rw [pr_take hv]; rfl)⟩ rfl hlen J.2.1.2.1 (pr_split hv b B) (lv_room (by rw [pr_sum]; exact h8)) hd ⟨by rw [hRm]; exact hcc, by rw [hRm]; exact hcs⟩) kk
theorem ps_obj (C : ps_C M P D dA b B y ws ns) (oM : pk_M P ws ns) (oR : pk_R P) {idx z n kd ci i : Nat} (hc : pp_code P y pc = some (.invokespecial idx)) (hm : pp_mth P (pp_own P y) idx = some (z, n, kd, ci)) (hkd : kd = 6) (h8 : st.length ≤ 8) (hd : decode (pp_by P y) pc = .ok (.invokespecial idx, 3))
    (kk : ps_T M P D dA b B y (pc + 3) ls st kc ks h) : ps_T M P D dA b B y pc ls (.inr (some i) :: st) kc ks h := by
  intro H locs a J
  obtain ⟨hx, hb, hml, hown, hts, hns, hK, hRm, hnm, hbB⟩ := C
  have hRm : M.2.2.2.1 = pp_rm P y := hRm
  have hroom := (oR y pc idx z n kd ci (Or.inr (Or.inr hc)) hm).1 (by omega)
  subst hkd
  rcases oM y idx z n 6 ci hm with ⟨-, h1, h2, h3⟩ | ⟨q, -⟩ | q
  · refine W.objInit hx hb hown (hts _ h1) (hts _ h2) (hts _ h3) rfl (J.2.1.2.1.trans hml.symm) (a := pr_ad b B i) (rest := st.map (pr_v b B)) rfl hd (by rw [hRm]; exact hroom.1) ?_ (kk H locs a J)
    rw [pr_sum, hRm]
    show 2 * 0 + _ + 12 ≤ _
    have := hroom.2
    omega
  · exact absurd q (by decide)
  · exact absurd q (by simp [pk_link])
theorem ps_math (C : ps_C M P D dA b B y ws ns) (oM : pk_M P ws ns) (oR : pk_R P) {idx z n kd ci : Nat} {st1 : List PV} (hc : pp_code P y pc = some (.invokestatic idx)) (hm : pp_mth P (pp_own P y) idx = some (z, n, kd, ci)) (hkd : 6 < kd) (h1 : kc ≤ (pp_rm P y).cells) (h2 : ks ≤ (pp_rm P y).slots) (hst : pm_math kd st = some st1) (h9 : st1.length ≤ 9) (hd : decode (pp_by P y) pc = .ok (.invokestatic idx, 3))
    (kk : ps_T M P D dA b B y (pc + 3) ls st1 kc ks h) : ps_T M P D dA b B y pc ls st kc ks h := by
  intro H locs a J
  have kk := kk H locs a J
  obtain ⟨hx, hb, hml, hown, hts, hns, hK, hRm, hnm, hbB⟩ := C
  have hRm : M.2.2.2.1 = pp_rm P y := hRm
  have hroom := (oR y pc idx z n kd ci (Or.inl hc) hm).1 (by omega)
  have hlk : pk_math ws (pp_nm P y).cls idx kd := by
    rcases oM y idx z n kd ci hm with ⟨q, -⟩ | ⟨-, q⟩ | q
    · omega
    · exact q
    · exfalso
      obtain ⟨j, hj⟩ : ∃ j, kd = j + 7 := ⟨kd - 7, by omega⟩
      subst hj
      exact q
  have hml2 : (mc_c M).maxLocals = a.size := hml.trans J.2.1.2.1.symm
  unfold pm_math at hst
  split at hst
  · cases hst
    obtain ⟨g0, g1, g2, g3⟩ := hlk
    refine va_mmax hx hb hml2 hown (hts _ g1) (hts _ g2) (hts _ g0) (hts _ g3) (by rw [hRm]; exact hroom.1) ?_ (by rw [hRm]; exact h1) (by rw [hRm]; exact h2) hd kk
    rw [pr_sum, hRm]
    have := hroom.2
    simp only [List.length_cons] at h9
    omega
  · cases hst
    obtain ⟨g0, g1, g2, g3⟩ := hlk
    refine va_mmin hx hb hml2 hown (hts _ g1) (hts _ g2) (hts _ g0) (hts _ g3) (by rw [hRm]; exact hroom.1) ?_ (by rw [hRm]; exact h1) (by rw [hRm]; exact h2) hd kk
    rw [pr_sum, hRm]
    have := hroom.2
    simp only [List.length_cons] at h9
    omega
  · cases hst
    obtain ⟨g0, g1, g2, g3⟩ := hlk
    refine va_mabs hx hb hml2 hown (hts _ g1) (hts _ g2) (hts _ g0) (hts _ g3) (by rw [hRm]; exact hroom.1) ?_ (by rw [hRm]; exact h1) (by rw [hRm]; exact h2) hd kk
    rw [pr_sum, hRm]
    have := hroom.2
    simp only [List.length_cons] at h9
    omega
  · cases hst
end PCS
