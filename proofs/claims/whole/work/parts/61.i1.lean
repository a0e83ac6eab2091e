/-! CONSTRUCTORS: the heap grows, cell by cell, towards the shape. Rows laid by a program (wip/whole/gen/init1.py). -/
theorem hb_snoc {S : List SK} {s : SK} {F G : FN} {R O : RN} : hb (S ++ [s]) F G R O = hb S F G R O ++ [bcell S.length s F G R O] := by
  unfold hb
  rw [List.mapIdx_concat]
theorem tk_len {L k : Nat} (hk : k ≤ 131) : ((sL L).take k).length = k := by
  rw [List.length_take, sL_len]
  omega
theorem tk_at {L k i : Nat} {s : SK} (hs : (sL L)[i]? = some s) (h : i < k) : ((sL L).take k)[i]? = some s := by
  rw [List.getElem?_take_of_lt h]
  exact hs
theorem tk_succ {L k : Nat} {s : SK} (hs : (sL L)[k]? = some s) : (sL L).take (k + 1) = (sL L).take k ++ [s] := by
  rw [List.take_add_one, hs]
  rfl
def fz (k : Nat) (F G : FN) (R O : RN) : Prop := ∀ i, k ≤ i → F i = (fun _ => 0) ∧ G i = (fun _ => 0) ∧ R i = (fun _ => none) ∧ O i = (fun _ => none)
theorem fz_le {k k2 : Nat} {F G : FN} {R O : RN} (h : fz k F G R O) (hk : k ≤ k2) : fz k2 F G R O := fun i a => h i (Nat.le_trans hk a)
theorem hb_grow {L k : Nat} {s : SK} {c : PC} {F G : FN} {R O : RN} (hk : k < 131) (hs : (sL L)[k]? = some s) (hc : c = bcell k s F G R O) : hb ((sL L).take k) F G R O ++ [c] = hb ((sL L).take (k + 1)) F G R O := by
  rw [tk_succ hs, hb_snoc, tk_len (by omega), hc]
theorem mapIdx_dfl {tg : List Nat} {F : FN} {O : RN} {i : Nat} (hF : F i = fun _ => 0) (hO : O i = fun _ => none) : tg.mapIdx (fun k t => bf t (F i k) (O i k)) = tg.map (fun t => bf t 0 none) := by
  apply List.ext_getElem?
  intro j
  rw [List.getElem?_mapIdx, List.getElem?_map, hF, hO]
section PXI
variable {P : PP} {y pc kc ks : Nat} {ls : List (Option PV)} {st : List PV} {Q : Option PV → PH → Prop} {L k : Nat} {F G : FN} {R O : RN}
theorem px_new {idx ci : Nat} {tg : List Nat} {r : vw_C × List FieldType × Bool} (hc : pp_code P y pc = some (.new idx)) (hn : pp_cls P (pp_own P y) idx = some ci) (hr : (pp_cl P)[ci]? = some r) (h1 : kc + 1 ≤ (pp_rm P y).cells) (h2 : ks + r.1.2.2 ≤ (pp_rm P y).slots) (hd : r.2.1.map pm_dfl = tg.map (fun t => bf t 0 none)) (hk : k < 131) (hs : (sL L)[k]? = some (2, ci, tg, 0)) (hz : fz k F G R O)
    (kn : pw P y (pc + 3, ls, .inr (some k) :: st, kc + 1, ks + r.1.2.2, hb ((sL L).take (k + 1)) F G R O) Q) : pw P y (pc, ls, st, kc, ks, hb ((sL L).take k) F G R O) Q := by
  refine pw_new hc hn hr h1 h2 (by rw [hb_len, tk_len (by omega)]) ?_
  obtain ⟨z1, z2, z3, z4⟩ := hz k (Nat.le_refl _)
  rw [hb_grow hk hs (by show _ = Sum.inr (Sum.inr (ci, tg.mapIdx (fun k1 t => bf t (F k k1) (O k k1)))); rw [mapIdx_dfl z1 z4, hd])]
  exact kn
theorem px_newa {t : ArrayType} {kd n1 : Nat} (hc : pp_code P y pc = some (.newarray t)) (hk : pm_ak t = some kd) (hz1 : n1 ≤ 100000) (h1 : kc + 1 ≤ (pp_rm P y).cells) (h2 : ks + n1 ≤ (pp_rm P y).slots) (hk1 : k < 131) (hs : (sL L)[k]? = some (0, kd, [], n1)) (hz : fz k F G R O)
    (kn : pw P y (pc + 2, ls, .inr (some k) :: st, kc + 1, ks + n1, hb ((sL L).take (k + 1)) F G R O) Q) : pw P y (pc, ls, .inl (nI n1) :: st, kc, ks, hb ((sL L).take k) F G R O) Q := by
  refine pw_newa hc hk (nI_pos (by omega)) (nI_clamp (by omega)) hz1 h1 h2 (by rw [hb_len, tk_len (by omega)]) ?_
  obtain ⟨z1, z2, z3, z4⟩ := hz k (Nat.le_refl _)
  rw [hb_grow hk1 hs (by show _ = Sum.inl (kd, n1, G k); rw [z2])]
  exact kn
theorem px_newq {idx ci n1 : Nat} (hc : pp_code P y pc = some (.anewarray idx)) (hcl : pp_cls P (pp_own P y) idx = some ci) (ha : ((pp_cl P)[ci]?.map (fun q => q.2.2)) = some true) (hz1 : n1 ≤ 100000) (h1 : kc + 1 ≤ (pp_rm P y).cells) (h2 : ks + n1 ≤ (pp_rm P y).slots) (hk1 : k < 131) (hs : (sL L)[k]? = some (1, ci, [], n1)) (hz : fz k F G R O)
    (kn : pw P y (pc + 3, ls, .inr (some k) :: st, kc + 1, ks + n1, hb ((sL L).take (k + 1)) F G R O) Q) : pw P y (pc, ls, .inl (nI n1) :: st, kc, ks, hb ((sL L).take k) F G R O) Q := by
  refine pw_newq hc hcl ha (nI_pos (by omega)) (nI_clamp (by omega)) hz1 h1 h2 (by rw [hb_len, tk_len (by omega)]) ?_
  obtain ⟨z1, z2, z3, z4⟩ := hz k (Nat.le_refl _)
  rw [hb_grow hk1 hs (by show _ = Sum.inr (Sum.inl (ci, n1, R k)); rw [z3])]
  exact kn
end PXI
theorem sl_at {L p c : Nat} (hp : p < 4) (hc : c < 21) : (sL L)[5 + 21 * p + c]? = slPath[c]? := by
  have h : p = 0 ∨ p = 1 ∨ p = 2 ∨ p = 3 := by omega
  have h2 : c = 0 ∨ c = 1 ∨ c = 2 ∨ c = 3 ∨ c = 4 ∨ c = 5 ∨ c = 6 ∨ c = 7 ∨ c = 8 ∨ c = 9 ∨ c = 10 ∨ c = 11 ∨ c = 12 ∨ c = 13 ∨ c = 14 ∨ c = 15 ∨ c = 16 ∨ c = 17 ∨ c = 18 ∨ c = 19 ∨ c = 20 := by omega
  rcases h with rfl | rfl | rfl | rfl <;> rcases h2 with rfl | rfl | rfl | rfl | rfl | rfl | rfl | rfl | rfl | rfl | rfl | rfl | rfl | rfl | rfl | rfl | rfl | rfl | rfl | rfl | rfl <;> rfl
theorem i_copy {h : PH} {e : Nat} {Q : Option PV → PH → Prop} (k : Q none h) : pz pP mCopy_init [.inr (some e)] h Q := by
  show pw pP mCopy_init (0, [some (.inr (some e))], [], 0, 0, h) _
  refine pw_aload_n rfl rfl ?_
  refine pw_obj (i := e) rfl rfl (Nat.le_of_ble_eq_true rfl) ?_
  exact pw_vret rfl rfl (Nat.zero_le _) (Nat.zero_le _) k
theorem i_segment {h : PH} {e : Nat} {Q : Option PV → PH → Prop} (k : Q none h) : pz pP mSegment_init [.inr (some e)] h Q := by
  show pw pP mSegment_init (0, [some (.inr (some e))], [], 0, 0, h) _
  refine pw_aload_n rfl rfl ?_
  refine pw_obj (i := e) rfl rfl (Nat.le_of_ble_eq_true rfl) ?_
  exact pw_vret rfl rfl (Nat.zero_le _) (Nat.zero_le _) k
def iRp (R : RN) (e : Nat) : RN := (up2 (up2 (up2 (up2 (up2 (up2 R (e + 1) (0) ((some (e + 2)))) (e + 1) (1) ((some (e + 3)))) (e + 1) (2) ((some (e + 4)))) (e + 1) (3) ((some (e + 5)))) (e + 1) (4) ((some (e + 6)))) (e + 1) (5) ((some (e + 7))))
def iOp (O : RN) (e : Nat) : RN := (up2 O (e) (0) ((some (e + 1))))
theorem i_pipe {L e : Nat} {F G : FN} {R O : RN} (he : e + 8 ≤ 131) (h0 : (sL L)[e]? = some (2, 5, [1, 0], 0)) (h1 : (sL L)[e + 1]? = some (1, 1, [], 6)) (h2 : ∀ c, 2 ≤ c → c < 8 → (sL L)[e + c]? = some (2, 1, [0, 0, 0, 0, 0, 0], 0)) (hz : fz (e + 1) F G R O) {Q : Option PV → PH → Prop} (k : Q none (hb ((sL L).take (e + 8)) F G (iRp R e) (iOp O e))) : pz pP mPipe_init [.inr (some e)] (hb ((sL L).take (e + 1)) F G R O) Q := by
  show pw pP mPipe_init (0, [some (.inr (some (e))), none], [], 0, 0, hb ((sL L).take (e + 1)) F G R O) _
  refine pw_aload_n rfl rfl ?_
  refine pw_obj (i := e) rfl rfl (Nat.le_of_ble_eq_true rfl) ?_
  refine pw_aload_n rfl rfl ?_
  refine pw_bipush (v := nI (6)) rfl (by decide) ?_
  refine px_newq rfl rfl rfl (by decide) (Nat.le_of_ble_eq_true rfl) (Nat.le_of_ble_eq_true rfl) (by omega) h1 (fun i a => ⟨(by  exact (hz i (by omega)).1), (by  exact (hz i (by omega)).2.1), (by  exact (hz i (by omega)).2.2.1), (by  exact (hz i (by omega)).2.2.2)⟩) ?_
  show pw pP mPipe_init (10, [some (.inr (some (e))), none], [.inr (some (e + 1)), .inr (some (e))], 1, 6, hb ((sL L).take (e + 2)) F G R O) _
  refine px_putr rfl rfl (tk_at h0 (by omega)) rfl rfl ?_
  refine pw_iconst (v := nI (0)) rfl (by decide) ?_
  refine pw_istore_n (ls1 := [some (.inr (some (e))), some (.inl (nI (0)))]) rfl (Nat.le_of_ble_eq_true rfl) rfl ?_
  refine pw_iload_n rfl rfl ?_
  refine pw_bipush (v := nI (6)) rfl (by decide) ?_
  refine pw_if2 (t := 40) rfl rfl (fun q => absurd q (by decide)) (fun _ => ?_)
  refine pw_aload_n rfl rfl ?_
  refine px_getr (r := some (e + 1)) rfl rfl (tk_at h0 (by omega)) rfl (up2_eq) ?_
  refine pw_iload_n rfl rfl ?_
  refine px_new rfl rfl rfl (Nat.le_of_ble_eq_true rfl) (Nat.le_of_ble_eq_true rfl) rfl (by omega) (h2 2 (by omega) (by omega)) (fun i a => ⟨(by  exact (hz i (by omega)).1), (by  exact (hz i (by omega)).2.1), (by  exact (hz i (by omega)).2.2.1), (by rw [up2_row (by omega)];  exact (hz i (by omega)).2.2.2)⟩) ?_
  show pw pP mPipe_init (29, [some (.inr (some (e))), some (.inl (nI (0)))], [.inr (some (e + 2)), .inl (nI (0)), .inr (some (e + 1))], 2, 12, hb ((sL L).take (e + 3)) F G R (up2 O (e) (0) ((some (e + 1))))) _
  refine pw_dup rfl ?_
  refine pw_calli (as := [.inr (some (e + 2))]) (rest := [.inr (some (e + 2)), .inl (nI (0)), .inr (some (e + 1))]) rfl rfl (by decide) (Nat.le_of_ble_eq_true rfl) (Nat.le_of_ble_eq_true rfl) (Nat.le_of_ble_eq_true rfl) (Nat.le_of_ble_eq_true rfl) rfl rfl rfl ?_
  refine i_copy ?_
  show pw pP mPipe_init (33, [some (.inr (some (e))), some (.inl (nI (0)))], [.inr (some (e + 2)), .inl (nI (0)), .inr (some (e + 1))], 2, 12, hb ((sL L).take (e + 3)) F G R (up2 O (e) (0) ((some (e + 1))))) _
  refine px_aastn rfl (tk_at h1 (by omega)) (tk_at (h2 2 (by omega) (by omega)) (by omega)) rfl (by decide) (by decide) ?_
  refine pw_iinc (v := nI (1)) (ls1 := [some (.inr (some (e))), some (.inl (nI (1)))]) rfl rfl (iinc_n _) rfl ?_
  refine pw_goto (t := 15) rfl rfl ?_
  refine pw_iload_n rfl rfl ?_
  refine pw_bipush (v := nI (6)) rfl (by decide) ?_
  refine pw_if2 (t := 40) rfl rfl (fun q => absurd q (by decide)) (fun _ => ?_)
  refine pw_aload_n rfl rfl ?_
  refine px_getr (r := some (e + 1)) rfl rfl (tk_at h0 (by omega)) rfl (up2_eq) ?_
  refine pw_iload_n rfl rfl ?_
  refine px_new rfl rfl rfl (Nat.le_of_ble_eq_true rfl) (Nat.le_of_ble_eq_true rfl) rfl (by omega) (h2 3 (by omega) (by omega)) (fun i a => ⟨(by  exact (hz i (by omega)).1), (by  exact (hz i (by omega)).2.1), (by rw [up2_row (by omega)];  exact (hz i (by omega)).2.2.1), (by rw [up2_row (by omega)];  exact (hz i (by omega)).2.2.2)⟩) ?_
  show pw pP mPipe_init (29, [some (.inr (some (e))), some (.inl (nI (1)))], [.inr (some (e + 3)), .inl (nI (1)), .inr (some (e + 1))], 3, 18, hb ((sL L).take (e + 4)) F G (up2 R (e + 1) (0) ((some (e + 2)))) (up2 O (e) (0) ((some (e + 1))))) _
  refine pw_dup rfl ?_
  refine pw_calli (as := [.inr (some (e + 3))]) (rest := [.inr (some (e + 3)), .inl (nI (1)), .inr (some (e + 1))]) rfl rfl (by decide) (Nat.le_of_ble_eq_true rfl) (Nat.le_of_ble_eq_true rfl) (Nat.le_of_ble_eq_true rfl) (Nat.le_of_ble_eq_true rfl) rfl rfl rfl ?_
  refine i_copy ?_
  show pw pP mPipe_init (33, [some (.inr (some (e))), some (.inl (nI (1)))], [.inr (some (e + 3)), .inl (nI (1)), .inr (some (e + 1))], 3, 18, hb ((sL L).take (e + 4)) F G (up2 R (e + 1) (0) ((some (e + 2)))) (up2 O (e) (0) ((some (e + 1))))) _
  refine px_aastn rfl (tk_at h1 (by omega)) (tk_at (h2 3 (by omega) (by omega)) (by omega)) rfl (by decide) (by decide) ?_
  refine pw_iinc (v := nI (2)) (ls1 := [some (.inr (some (e))), some (.inl (nI (2)))]) rfl rfl (iinc_n _) rfl ?_
  refine pw_goto (t := 15) rfl rfl ?_
  refine pw_iload_n rfl rfl ?_
  refine pw_bipush (v := nI (6)) rfl (by decide) ?_
  refine pw_if2 (t := 40) rfl rfl (fun q => absurd q (by decide)) (fun _ => ?_)
  refine pw_aload_n rfl rfl ?_
  refine px_getr (r := some (e + 1)) rfl rfl (tk_at h0 (by omega)) rfl (up2_eq) ?_
  refine pw_iload_n rfl rfl ?_
  refine px_new rfl rfl rfl (Nat.le_of_ble_eq_true rfl) (Nat.le_of_ble_eq_true rfl) rfl (by omega) (h2 4 (by omega) (by omega)) (fun i a => ⟨(by  exact (hz i (by omega)).1), (by  exact (hz i (by omega)).2.1), (by rw [up2_row (by omega), up2_row (by omega)];  exact (hz i (by omega)).2.2.1), (by rw [up2_row (by omega)];  exact (hz i (by omega)).2.2.2)⟩) ?_
  show pw pP mPipe_init (29, [some (.inr (some (e))), some (.inl (nI (2)))], [.inr (some (e + 4)), .inl (nI (2)), .inr (some (e + 1))], 4, 24, hb ((sL L).take (e + 5)) F G (up2 (up2 R (e + 1) (0) ((some (e + 2)))) (e + 1) (1) ((some (e + 3)))) (up2 O (e) (0) ((some (e + 1))))) _
  refine pw_dup rfl ?_
  refine pw_calli (as := [.inr (some (e + 4))]) (rest := [.inr (some (e + 4)), .inl (nI (2)), .inr (some (e + 1))]) rfl rfl (by decide) (Nat.le_of_ble_eq_true rfl) (Nat.le_of_ble_eq_true rfl) (Nat.le_of_ble_eq_true rfl) (Nat.le_of_ble_eq_true rfl) rfl rfl rfl ?_
  refine i_copy ?_
  show pw pP mPipe_init (33, [some (.inr (some (e))), some (.inl (nI (2)))], [.inr (some (e + 4)), .inl (nI (2)), .inr (some (e + 1))], 4, 24, hb ((sL L).take (e + 5)) F G (up2 (up2 R (e + 1) (0) ((some (e + 2)))) (e + 1) (1) ((some (e + 3)))) (up2 O (e) (0) ((some (e + 1))))) _
  refine px_aastn rfl (tk_at h1 (by omega)) (tk_at (h2 4 (by omega) (by omega)) (by omega)) rfl (by decide) (by decide) ?_
  refine pw_iinc (v := nI (3)) (ls1 := [some (.inr (some (e))), some (.inl (nI (3)))]) rfl rfl (iinc_n _) rfl ?_
  refine pw_goto (t := 15) rfl rfl ?_
  refine pw_iload_n rfl rfl ?_
  refine pw_bipush (v := nI (6)) rfl (by decide) ?_
  refine pw_if2 (t := 40) rfl rfl (fun q => absurd q (by decide)) (fun _ => ?_)
  refine pw_aload_n rfl rfl ?_
  refine px_getr (r := some (e + 1)) rfl rfl (tk_at h0 (by omega)) rfl (up2_eq) ?_
  refine pw_iload_n rfl rfl ?_
  refine px_new rfl rfl rfl (Nat.le_of_ble_eq_true rfl) (Nat.le_of_ble_eq_true rfl) rfl (by omega) (h2 5 (by omega) (by omega)) (fun i a => ⟨(by  exact (hz i (by omega)).1), (by  exact (hz i (by omega)).2.1), (by rw [up2_row (by omega), up2_row (by omega), up2_row (by omega)];  exact (hz i (by omega)).2.2.1), (by rw [up2_row (by omega)];  exact (hz i (by omega)).2.2.2)⟩) ?_
  show pw pP mPipe_init (29, [some (.inr (some (e))), some (.inl (nI (3)))], [.inr (some (e + 5)), .inl (nI (3)), .inr (some (e + 1))], 5, 30, hb ((sL L).take (e + 6)) F G (up2 (up2 (up2 R (e + 1) (0) ((some (e + 2)))) (e + 1) (1) ((some (e + 3)))) (e + 1) (2) ((some (e + 4)))) (up2 O (e) (0) ((some (e + 1))))) _
  refine pw_dup rfl ?_
  refine pw_calli (as := [.inr (some (e + 5))]) (rest := [.inr (some (e + 5)), .inl (nI (3)), .inr (some (e + 1))]) rfl rfl (by decide) (Nat.le_of_ble_eq_true rfl) (Nat.le_of_ble_eq_true rfl) (Nat.le_of_ble_eq_true rfl) (Nat.le_of_ble_eq_true rfl) rfl rfl rfl ?_
  refine i_copy ?_
  show pw pP mPipe_init (33, [some (.inr (some (e))), some (.inl (nI (3)))], [.inr (some (e + 5)), .inl (nI (3)), .inr (some (e + 1))], 5, 30, hb ((sL L).take (e + 6)) F G (up2 (up2 (up2 R (e + 1) (0) ((some (e + 2)))) (e + 1) (1) ((some (e + 3)))) (e + 1) (2) ((some (e + 4)))) (up2 O (e) (0) ((some (e + 1))))) _
  refine px_aastn rfl (tk_at h1 (by omega)) (tk_at (h2 5 (by omega) (by omega)) (by omega)) rfl (by decide) (by decide) ?_
  refine pw_iinc (v := nI (4)) (ls1 := [some (.inr (some (e))), some (.inl (nI (4)))]) rfl rfl (iinc_n _) rfl ?_
  refine pw_goto (t := 15) rfl rfl ?_
  refine pw_iload_n rfl rfl ?_
  refine pw_bipush (v := nI (6)) rfl (by decide) ?_
  refine pw_if2 (t := 40) rfl rfl (fun q => absurd q (by decide)) (fun _ => ?_)
  refine pw_aload_n rfl rfl ?_
  refine px_getr (r := some (e + 1)) rfl rfl (tk_at h0 (by omega)) rfl (up2_eq) ?_
  refine pw_iload_n rfl rfl ?_
  refine px_new rfl rfl rfl (Nat.le_of_ble_eq_true rfl) (Nat.le_of_ble_eq_true rfl) rfl (by omega) (h2 6 (by omega) (by omega)) (fun i a => ⟨(by  exact (hz i (by omega)).1), (by  exact (hz i (by omega)).2.1), (by rw [up2_row (by omega), up2_row (by omega), up2_row (by omega), up2_row (by omega)];  exact (hz i (by omega)).2.2.1), (by rw [up2_row (by omega)];  exact (hz i (by omega)).2.2.2)⟩) ?_
  show pw pP mPipe_init (29, [some (.inr (some (e))), some (.inl (nI (4)))], [.inr (some (e + 6)), .inl (nI (4)), .inr (some (e + 1))], 6, 36, hb ((sL L).take (e + 7)) F G (up2 (up2 (up2 (up2 R (e + 1) (0) ((some (e + 2)))) (e + 1) (1) ((some (e + 3)))) (e + 1) (2) ((some (e + 4)))) (e + 1) (3) ((some (e + 5)))) (up2 O (e) (0) ((some (e + 1))))) _
  refine pw_dup rfl ?_
  refine pw_calli (as := [.inr (some (e + 6))]) (rest := [.inr (some (e + 6)), .inl (nI (4)), .inr (some (e + 1))]) rfl rfl (by decide) (Nat.le_of_ble_eq_true rfl) (Nat.le_of_ble_eq_true rfl) (Nat.le_of_ble_eq_true rfl) (Nat.le_of_ble_eq_true rfl) rfl rfl rfl ?_
  refine i_copy ?_
  show pw pP mPipe_init (33, [some (.inr (some (e))), some (.inl (nI (4)))], [.inr (some (e + 6)), .inl (nI (4)), .inr (some (e + 1))], 6, 36, hb ((sL L).take (e + 7)) F G (up2 (up2 (up2 (up2 R (e + 1) (0) ((some (e + 2)))) (e + 1) (1) ((some (e + 3)))) (e + 1) (2) ((some (e + 4)))) (e + 1) (3) ((some (e + 5)))) (up2 O (e) (0) ((some (e + 1))))) _
  refine px_aastn rfl (tk_at h1 (by omega)) (tk_at (h2 6 (by omega) (by omega)) (by omega)) rfl (by decide) (by decide) ?_
  refine pw_iinc (v := nI (5)) (ls1 := [some (.inr (some (e))), some (.inl (nI (5)))]) rfl rfl (iinc_n _) rfl ?_
  refine pw_goto (t := 15) rfl rfl ?_
  refine pw_iload_n rfl rfl ?_
  refine pw_bipush (v := nI (6)) rfl (by decide) ?_
  refine pw_if2 (t := 40) rfl rfl (fun q => absurd q (by decide)) (fun _ => ?_)
  refine pw_aload_n rfl rfl ?_
  refine px_getr (r := some (e + 1)) rfl rfl (tk_at h0 (by omega)) rfl (up2_eq) ?_
  refine pw_iload_n rfl rfl ?_
  refine px_new rfl rfl rfl (Nat.le_of_ble_eq_true rfl) (Nat.le_of_ble_eq_true rfl) rfl (by omega) (h2 7 (by omega) (by omega)) (fun i a => ⟨(by  exact (hz i (by omega)).1), (by  exact (hz i (by omega)).2.1), (by rw [up2_row (by omega), up2_row (by omega), up2_row (by omega), up2_row (by omega), up2_row (by omega)];  exact (hz i (by omega)).2.2.1), (by rw [up2_row (by omega)];  exact (hz i (by omega)).2.2.2)⟩) ?_
  show pw pP mPipe_init (29, [some (.inr (some (e))), some (.inl (nI (5)))], [.inr (some (e + 7)), .inl (nI (5)), .inr (some (e + 1))], 7, 42, hb ((sL L).take (e + 8)) F G (up2 (up2 (up2 (up2 (up2 R (e + 1) (0) ((some (e + 2)))) (e + 1) (1) ((some (e + 3)))) (e + 1) (2) ((some (e + 4)))) (e + 1) (3) ((some (e + 5)))) (e + 1) (4) ((some (e + 6)))) (up2 O (e) (0) ((some (e + 1))))) _
  refine pw_dup rfl ?_
  refine pw_calli (as := [.inr (some (e + 7))]) (rest := [.inr (some (e + 7)), .inl (nI (5)), .inr (some (e + 1))]) rfl rfl (by decide) (Nat.le_of_ble_eq_true rfl) (Nat.le_of_ble_eq_true rfl) (Nat.le_of_ble_eq_true rfl) (Nat.le_of_ble_eq_true rfl) rfl rfl rfl ?_
  refine i_copy ?_
  show pw pP mPipe_init (33, [some (.inr (some (e))), some (.inl (nI (5)))], [.inr (some (e + 7)), .inl (nI (5)), .inr (some (e + 1))], 7, 42, hb ((sL L).take (e + 8)) F G (up2 (up2 (up2 (up2 (up2 R (e + 1) (0) ((some (e + 2)))) (e + 1) (1) ((some (e + 3)))) (e + 1) (2) ((some (e + 4)))) (e + 1) (3) ((some (e + 5)))) (e + 1) (4) ((some (e + 6)))) (up2 O (e) (0) ((some (e + 1))))) _
  refine px_aastn rfl (tk_at h1 (by omega)) (tk_at (h2 7 (by omega) (by omega)) (by omega)) rfl (by decide) (by decide) ?_
  refine pw_iinc (v := nI (6)) (ls1 := [some (.inr (some (e))), some (.inl (nI (6)))]) rfl rfl (iinc_n _) rfl ?_
  refine pw_goto (t := 15) rfl rfl ?_
  refine pw_iload_n rfl rfl ?_
  refine pw_bipush (v := nI (6)) rfl (by decide) ?_
  refine pw_if2 (t := 40) rfl rfl (fun _ => ?_) (fun q => absurd q (by decide))
  exact pw_vret rfl rfl (Nat.le_of_ble_eq_true rfl) (Nat.le_of_ble_eq_true rfl) k
theorem iRp_row {R : RN} {e i : Nat} (h : ¬ i = e + 1) : iRp R e i = R i := by
  unfold iRp
  rw [up2_row h, up2_row h, up2_row h, up2_row h, up2_row h, up2_row h]
theorem iOp_row {O : RN} {e i : Nat} (h : ¬ i = e) : iOp O e i = O i := by
  unfold iOp
  rw [up2_row h]
theorem slp_copy {L p c : Nat} (hp : p < 4) (h1 : 2 ≤ c) (h2 : c < 8) (b : Nat) (hb1 : b = 1 ∨ b = 9) : (sL L)[5 + 21 * p + b + c]? = some (2, 1, [0, 0, 0, 0, 0, 0], 0) := by
  rcases hb1 with rfl | rfl
  · exact sl_copyf hp (by omega) (by omega)
  · exact sl_copyb hp (by omega) (by omega)
def iFq (F : FN) (p : Nat) : FN := (up2 (up2 (up2 F (5 + 21 * p) (5) (nI (0))) (5 + 21 * p) (8) (nI (16))) (5 + 21 * p) (9) ((-1)))
def iRq (R : RN) (p : Nat) : RN := (up2 (up2 (up2 (iRp (iRp R (5 + 21 * p + 1)) (5 + 21 * p + 9)) (5 + 21 * p + 17) (0) ((some (5 + 21 * p + 18)))) (5 + 21 * p + 17) (1) ((some (5 + 21 * p + 19)))) (5 + 21 * p + 17) (2) ((some (5 + 21 * p + 20))))
def iOq (O : RN) (p : Nat) : RN := (up2 (up2 (iOp (up2 (iOp O (5 + 21 * p + 1)) (5 + 21 * p) (0) ((some (5 + 21 * p + 1)))) (5 + 21 * p + 9)) (5 + 21 * p) (1) ((some (5 + 21 * p + 9)))) (5 + 21 * p) (2) ((some (5 + 21 * p + 17))))
theorem i_path {L p : Nat} {F G : FN} {R O : RN} (hp : p < 4) (hz : fz (5 + 21 * p + 1) F G R O) {Q : Option PV → PH → Prop} (k : Q none (hb ((sL L).take (5 + 21 * p + 21)) (iFq F p) G (iRq R p) (iOq O p))) : pz pP mPath_init [.inr (some (5 + 21 * p))] (hb ((sL L).take (5 + 21 * p + 1)) F G R O) Q := by
  show pw pP mPath_init (0, [some (.inr (some (5 + 21 * p))), none], [], 0, 0, hb ((sL L).take (5 + 21 * p + 1)) F G R O) _
  refine pw_aload_n rfl rfl ?_
  refine pw_obj (i := 5 + 21 * p) rfl rfl (Nat.le_of_ble_eq_true rfl) ?_
  refine pw_aload_n rfl rfl ?_
  refine px_new rfl rfl rfl (Nat.le_of_ble_eq_true rfl) (Nat.le_of_ble_eq_true rfl) rfl (by omega) (sl_at hp (c := 1) (by decide)) (fun i a => ⟨(by  exact (hz i (by omega)).1), (by  exact (hz i (by omega)).2.1), (by  exact (hz i (by omega)).2.2.1), (by  exact (hz i (by omega)).2.2.2)⟩) ?_
  show pw pP mPath_init (8, [some (.inr (some (5 + 21 * p))), none], [.inr (some (5 + 21 * p + 1)), .inr (some (5 + 21 * p))], 1, 2, hb ((sL L).take (5 + 21 * p + 2)) F G R O) _
  refine pw_dup rfl ?_
  refine pw_calli (as := [.inr (some (5 + 21 * p + 1))]) (rest := [.inr (some (5 + 21 * p + 1)), .inr (some (5 + 21 * p))]) rfl rfl (by decide) (Nat.le_of_ble_eq_true rfl) (Nat.le_of_ble_eq_true rfl) (Nat.le_of_ble_eq_true rfl) (Nat.le_of_ble_eq_true rfl) rfl rfl rfl ?_
  refine i_pipe (by omega) (sl_at hp (c := 1) (by decide)) (sl_at hp (c := 2) (by decide)) (fun c h1 h2 => slp_copy hp h1 h2 1 (by decide)) (fun i a => ⟨(by  exact (hz i (by omega)).1), (by  exact (hz i (by omega)).2.1), (by  exact (hz i (by omega)).2.2.1), (by  exact (hz i (by omega)).2.2.2)⟩) ?_
  show pw pP mPath_init (12, [some (.inr (some (5 + 21 * p))), none], [.inr (some (5 + 21 * p + 1)), .inr (some (5 + 21 * p))], 8, 44, hb ((sL L).take (5 + 21 * p + 9)) F G (iRp R (5 + 21 * p + 1)) (iOp O (5 + 21 * p + 1))) _
  refine px_putr rfl rfl (tk_at (sl_at hp (c := 0) (by decide)) (by omega)) rfl rfl ?_
  refine pw_aload_n rfl rfl ?_
  refine px_new rfl rfl rfl (Nat.le_of_ble_eq_true rfl) (Nat.le_of_ble_eq_true rfl) rfl (by omega) (sl_at hp (c := 9) (by decide)) (fun i a => ⟨(by  exact (hz i (by omega)).1), (by  exact (hz i (by omega)).2.1), (by rw [iRp_row (by omega)];  exact (hz i (by omega)).2.2.1), (by rw [up2_row (by omega)]; rw [iOp_row (by omega)];  exact (hz i (by omega)).2.2.2)⟩) ?_
  show pw pP mPath_init (19, [some (.inr (some (5 + 21 * p))), none], [.inr (some (5 + 21 * p + 9)), .inr (some (5 + 21 * p))], 9, 46, hb ((sL L).take (5 + 21 * p + 10)) F G (iRp R (5 + 21 * p + 1)) (up2 (iOp O (5 + 21 * p + 1)) (5 + 21 * p) (0) ((some (5 + 21 * p + 1))))) _
  refine pw_dup rfl ?_
  refine pw_calli (as := [.inr (some (5 + 21 * p + 9))]) (rest := [.inr (some (5 + 21 * p + 9)), .inr (some (5 + 21 * p))]) rfl rfl (by decide) (Nat.le_of_ble_eq_true rfl) (Nat.le_of_ble_eq_true rfl) (Nat.le_of_ble_eq_true rfl) (Nat.le_of_ble_eq_true rfl) rfl rfl rfl ?_
  refine i_pipe (by omega) (sl_at hp (c := 9) (by decide)) (sl_at hp (c := 10) (by decide)) (fun c h1 h2 => slp_copy hp h1 h2 9 (by decide)) (fun i a => ⟨(by  exact (hz i (by omega)).1), (by  exact (hz i (by omega)).2.1), (by rw [iRp_row (by omega)];  exact (hz i (by omega)).2.2.1), (by rw [up2_row (by omega)]; rw [iOp_row (by omega)];  exact (hz i (by omega)).2.2.2)⟩) ?_
  show pw pP mPath_init (23, [some (.inr (some (5 + 21 * p))), none], [.inr (some (5 + 21 * p + 9)), .inr (some (5 + 21 * p))], 16, 88, hb ((sL L).take (5 + 21 * p + 17)) F G (iRp (iRp R (5 + 21 * p + 1)) (5 + 21 * p + 9)) (iOp (up2 (iOp O (5 + 21 * p + 1)) (5 + 21 * p) (0) ((some (5 + 21 * p + 1)))) (5 + 21 * p + 9))) _
  refine px_putr rfl rfl (tk_at (sl_at hp (c := 0) (by decide)) (by omega)) rfl rfl ?_
  refine pw_aload_n rfl rfl ?_
  refine pw_iconst (v := nI (3)) rfl (by decide) ?_
  refine px_newq rfl rfl rfl (by decide) (Nat.le_of_ble_eq_true rfl) (Nat.le_of_ble_eq_true rfl) (by omega) (sl_at hp (c := 17) (by decide)) (fun i a => ⟨(by  exact (hz i (by omega)).1), (by  exact (hz i (by omega)).2.1), (by rw [iRp_row (by omega)]; rw [iRp_row (by omega)];  exact (hz i (by omega)).2.2.1), (by rw [up2_row (by omega)]; rw [iOp_row (by omega)]; rw [up2_row (by omega)]; rw [iOp_row (by omega)];  exact (hz i (by omega)).2.2.2)⟩) ?_
  show pw pP mPath_init (31, [some (.inr (some (5 + 21 * p))), none], [.inr (some (5 + 21 * p + 17)), .inr (some (5 + 21 * p))], 17, 91, hb ((sL L).take (5 + 21 * p + 18)) F G (iRp (iRp R (5 + 21 * p + 1)) (5 + 21 * p + 9)) (up2 (iOp (up2 (iOp O (5 + 21 * p + 1)) (5 + 21 * p) (0) ((some (5 + 21 * p + 1)))) (5 + 21 * p + 9)) (5 + 21 * p) (1) ((some (5 + 21 * p + 9))))) _
  refine px_putr rfl rfl (tk_at (sl_at hp (c := 0) (by decide)) (by omega)) rfl rfl ?_
  refine pw_aload_n rfl rfl ?_
  refine pw_iconst (v := nI (0)) rfl (by decide) ?_
  refine px_put rfl rfl (tk_at (sl_at hp (c := 0) (by decide)) (by omega)) rfl rfl ?_
  refine pw_aload_n rfl rfl ?_
  refine pw_bipush (v := nI (16)) rfl (by decide) ?_
  refine px_put rfl rfl (tk_at (sl_at hp (c := 0) (by decide)) (by omega)) rfl rfl ?_
  refine pw_aload_n rfl rfl ?_
  refine pw_iconst (v := (-1)) rfl (by decide) ?_
  refine px_put rfl rfl (tk_at (sl_at hp (c := 0) (by decide)) (by omega)) rfl rfl ?_
  refine pw_iconst (v := nI (0)) rfl (by decide) ?_
  refine pw_istore_n (ls1 := [some (.inr (some (5 + 21 * p))), some (.inl (nI (0)))]) rfl (Nat.le_of_ble_eq_true rfl) rfl ?_
  refine pw_iload_n rfl rfl ?_
  refine pw_iconst (v := nI (3)) rfl (by decide) ?_
  refine pw_if2 (t := 76) rfl rfl (fun q => absurd q (by decide)) (fun _ => ?_)
  refine pw_aload_n rfl rfl ?_
  refine px_getr (r := some (5 + 21 * p + 17)) rfl rfl (tk_at (sl_at hp (c := 0) (by decide)) (by omega)) rfl (up2_eq) ?_
  refine pw_iload_n rfl rfl ?_
  refine px_new rfl rfl rfl (Nat.le_of_ble_eq_true rfl) (Nat.le_of_ble_eq_true rfl) rfl (by omega) (sl_at hp (c := 18) (by decide)) (fun i a => ⟨(by rw [up2_row (by omega), up2_row (by omega), up2_row (by omega)];  exact (hz i (by omega)).1), (by  exact (hz i (by omega)).2.1), (by rw [iRp_row (by omega)]; rw [iRp_row (by omega)];  exact (hz i (by omega)).2.2.1), (by rw [up2_row (by omega), up2_row (by omega)]; rw [iOp_row (by omega)]; rw [up2_row (by omega)]; rw [iOp_row (by omega)];  exact (hz i (by omega)).2.2.2)⟩) ?_
  show pw pP mPath_init (65, [some (.inr (some (5 + 21 * p))), some (.inl (nI (0)))], [.inr (some (5 + 21 * p + 18)), .inl (nI (0)), .inr (some (5 + 21 * p + 17))], 18, 97, hb ((sL L).take (5 + 21 * p + 19)) (up2 (up2 (up2 F (5 + 21 * p) (5) (nI (0))) (5 + 21 * p) (8) (nI (16))) (5 + 21 * p) (9) ((-1))) G (iRp (iRp R (5 + 21 * p + 1)) (5 + 21 * p + 9)) (up2 (up2 (iOp (up2 (iOp O (5 + 21 * p + 1)) (5 + 21 * p) (0) ((some (5 + 21 * p + 1)))) (5 + 21 * p + 9)) (5 + 21 * p) (1) ((some (5 + 21 * p + 9)))) (5 + 21 * p) (2) ((some (5 + 21 * p + 17))))) _
  refine pw_dup rfl ?_
  refine pw_calli (as := [.inr (some (5 + 21 * p + 18))]) (rest := [.inr (some (5 + 21 * p + 18)), .inl (nI (0)), .inr (some (5 + 21 * p + 17))]) rfl rfl (by decide) (Nat.le_of_ble_eq_true rfl) (Nat.le_of_ble_eq_true rfl) (Nat.le_of_ble_eq_true rfl) (Nat.le_of_ble_eq_true rfl) rfl rfl rfl ?_
  refine i_segment ?_
  show pw pP mPath_init (69, [some (.inr (some (5 + 21 * p))), some (.inl (nI (0)))], [.inr (some (5 + 21 * p + 18)), .inl (nI (0)), .inr (some (5 + 21 * p + 17))], 18, 97, hb ((sL L).take (5 + 21 * p + 19)) (up2 (up2 (up2 F (5 + 21 * p) (5) (nI (0))) (5 + 21 * p) (8) (nI (16))) (5 + 21 * p) (9) ((-1))) G (iRp (iRp R (5 + 21 * p + 1)) (5 + 21 * p + 9)) (up2 (up2 (iOp (up2 (iOp O (5 + 21 * p + 1)) (5 + 21 * p) (0) ((some (5 + 21 * p + 1)))) (5 + 21 * p + 9)) (5 + 21 * p) (1) ((some (5 + 21 * p + 9)))) (5 + 21 * p) (2) ((some (5 + 21 * p + 17))))) _
  refine px_aastn rfl (tk_at (sl_at hp (c := 17) (by decide)) (by omega)) (tk_at (sl_at hp (c := 18) (by decide)) (by omega)) rfl (by decide) (by decide) ?_
  refine pw_iinc (v := nI (1)) (ls1 := [some (.inr (some (5 + 21 * p))), some (.inl (nI (1)))]) rfl rfl (iinc_n _) rfl ?_
  refine pw_goto (t := 52) rfl rfl ?_
  refine pw_iload_n rfl rfl ?_
  refine pw_iconst (v := nI (3)) rfl (by decide) ?_
  refine pw_if2 (t := 76) rfl rfl (fun q => absurd q (by decide)) (fun _ => ?_)
  refine pw_aload_n rfl rfl ?_
  refine px_getr (r := some (5 + 21 * p + 17)) rfl rfl (tk_at (sl_at hp (c := 0) (by decide)) (by omega)) rfl (up2_eq) ?_
  refine pw_iload_n rfl rfl ?_
  refine px_new rfl rfl rfl (Nat.le_of_ble_eq_true rfl) (Nat.le_of_ble_eq_true rfl) rfl (by omega) (sl_at hp (c := 19) (by decide)) (fun i a => ⟨(by rw [up2_row (by omega), up2_row (by omega), up2_row (by omega)];  exact (hz i (by omega)).1), (by  exact (hz i (by omega)).2.1), (by rw [up2_row (by omega)]; rw [iRp_row (by omega)]; rw [iRp_row (by omega)];  exact (hz i (by omega)).2.2.1), (by rw [up2_row (by omega), up2_row (by omega)]; rw [iOp_row (by omega)]; rw [up2_row (by omega)]; rw [iOp_row (by omega)];  exact (hz i (by omega)).2.2.2)⟩) ?_
  show pw pP mPath_init (65, [some (.inr (some (5 + 21 * p))), some (.inl (nI (1)))], [.inr (some (5 + 21 * p + 19)), .inl (nI (1)), .inr (some (5 + 21 * p + 17))], 19, 103, hb ((sL L).take (5 + 21 * p + 20)) (up2 (up2 (up2 F (5 + 21 * p) (5) (nI (0))) (5 + 21 * p) (8) (nI (16))) (5 + 21 * p) (9) ((-1))) G (up2 (iRp (iRp R (5 + 21 * p + 1)) (5 + 21 * p + 9)) (5 + 21 * p + 17) (0) ((some (5 + 21 * p + 18)))) (up2 (up2 (iOp (up2 (iOp O (5 + 21 * p + 1)) (5 + 21 * p) (0) ((some (5 + 21 * p + 1)))) (5 + 21 * p + 9)) (5 + 21 * p) (1) ((some (5 + 21 * p + 9)))) (5 + 21 * p) (2) ((some (5 + 21 * p + 17))))) _
  refine pw_dup rfl ?_
  refine pw_calli (as := [.inr (some (5 + 21 * p + 19))]) (rest := [.inr (some (5 + 21 * p + 19)), .inl (nI (1)), .inr (some (5 + 21 * p + 17))]) rfl rfl (by decide) (Nat.le_of_ble_eq_true rfl) (Nat.le_of_ble_eq_true rfl) (Nat.le_of_ble_eq_true rfl) (Nat.le_of_ble_eq_true rfl) rfl rfl rfl ?_
  refine i_segment ?_
  show pw pP mPath_init (69, [some (.inr (some (5 + 21 * p))), some (.inl (nI (1)))], [.inr (some (5 + 21 * p + 19)), .inl (nI (1)), .inr (some (5 + 21 * p + 17))], 19, 103, hb ((sL L).take (5 + 21 * p + 20)) (up2 (up2 (up2 F (5 + 21 * p) (5) (nI (0))) (5 + 21 * p) (8) (nI (16))) (5 + 21 * p) (9) ((-1))) G (up2 (iRp (iRp R (5 + 21 * p + 1)) (5 + 21 * p + 9)) (5 + 21 * p + 17) (0) ((some (5 + 21 * p + 18)))) (up2 (up2 (iOp (up2 (iOp O (5 + 21 * p + 1)) (5 + 21 * p) (0) ((some (5 + 21 * p + 1)))) (5 + 21 * p + 9)) (5 + 21 * p) (1) ((some (5 + 21 * p + 9)))) (5 + 21 * p) (2) ((some (5 + 21 * p + 17))))) _
  refine px_aastn rfl (tk_at (sl_at hp (c := 17) (by decide)) (by omega)) (tk_at (sl_at hp (c := 19) (by decide)) (by omega)) rfl (by decide) (by decide) ?_
  refine pw_iinc (v := nI (2)) (ls1 := [some (.inr (some (5 + 21 * p))), some (.inl (nI (2)))]) rfl rfl (iinc_n _) rfl ?_
  refine pw_goto (t := 52) rfl rfl ?_
  refine pw_iload_n rfl rfl ?_
  refine pw_iconst (v := nI (3)) rfl (by decide) ?_
  refine pw_if2 (t := 76) rfl rfl (fun q => absurd q (by decide)) (fun _ => ?_)
  refine pw_aload_n rfl rfl ?_
  refine px_getr (r := some (5 + 21 * p + 17)) rfl rfl (tk_at (sl_at hp (c := 0) (by decide)) (by omega)) rfl (up2_eq) ?_
  refine pw_iload_n rfl rfl ?_
  refine px_new rfl rfl rfl (Nat.le_of_ble_eq_true rfl) (Nat.le_of_ble_eq_true rfl) rfl (by omega) (sl_at hp (c := 20) (by decide)) (fun i a => ⟨(by rw [up2_row (by omega), up2_row (by omega), up2_row (by omega)];  exact (hz i (by omega)).1), (by  exact (hz i (by omega)).2.1), (by rw [up2_row (by omega), up2_row (by omega)]; rw [iRp_row (by omega)]; rw [iRp_row (by omega)];  exact (hz i (by omega)).2.2.1), (by rw [up2_row (by omega), up2_row (by omega)]; rw [iOp_row (by omega)]; rw [up2_row (by omega)]; rw [iOp_row (by omega)];  exact (hz i (by omega)).2.2.2)⟩) ?_
  show pw pP mPath_init (65, [some (.inr (some (5 + 21 * p))), some (.inl (nI (2)))], [.inr (some (5 + 21 * p + 20)), .inl (nI (2)), .inr (some (5 + 21 * p + 17))], 20, 109, hb ((sL L).take (5 + 21 * p + 21)) (up2 (up2 (up2 F (5 + 21 * p) (5) (nI (0))) (5 + 21 * p) (8) (nI (16))) (5 + 21 * p) (9) ((-1))) G (up2 (up2 (iRp (iRp R (5 + 21 * p + 1)) (5 + 21 * p + 9)) (5 + 21 * p + 17) (0) ((some (5 + 21 * p + 18)))) (5 + 21 * p + 17) (1) ((some (5 + 21 * p + 19)))) (up2 (up2 (iOp (up2 (iOp O (5 + 21 * p + 1)) (5 + 21 * p) (0) ((some (5 + 21 * p + 1)))) (5 + 21 * p + 9)) (5 + 21 * p) (1) ((some (5 + 21 * p + 9)))) (5 + 21 * p) (2) ((some (5 + 21 * p + 17))))) _
  refine pw_dup rfl ?_
  refine pw_calli (as := [.inr (some (5 + 21 * p + 20))]) (rest := [.inr (some (5 + 21 * p + 20)), .inl (nI (2)), .inr (some (5 + 21 * p + 17))]) rfl rfl (by decide) (Nat.le_of_ble_eq_true rfl) (Nat.le_of_ble_eq_true rfl) (Nat.le_of_ble_eq_true rfl) (Nat.le_of_ble_eq_true rfl) rfl rfl rfl ?_
  refine i_segment ?_
  show pw pP mPath_init (69, [some (.inr (some (5 + 21 * p))), some (.inl (nI (2)))], [.inr (some (5 + 21 * p + 20)), .inl (nI (2)), .inr (some (5 + 21 * p + 17))], 20, 109, hb ((sL L).take (5 + 21 * p + 21)) (up2 (up2 (up2 F (5 + 21 * p) (5) (nI (0))) (5 + 21 * p) (8) (nI (16))) (5 + 21 * p) (9) ((-1))) G (up2 (up2 (iRp (iRp R (5 + 21 * p + 1)) (5 + 21 * p + 9)) (5 + 21 * p + 17) (0) ((some (5 + 21 * p + 18)))) (5 + 21 * p + 17) (1) ((some (5 + 21 * p + 19)))) (up2 (up2 (iOp (up2 (iOp O (5 + 21 * p + 1)) (5 + 21 * p) (0) ((some (5 + 21 * p + 1)))) (5 + 21 * p + 9)) (5 + 21 * p) (1) ((some (5 + 21 * p + 9)))) (5 + 21 * p) (2) ((some (5 + 21 * p + 17))))) _
  refine px_aastn rfl (tk_at (sl_at hp (c := 17) (by decide)) (by omega)) (tk_at (sl_at hp (c := 20) (by decide)) (by omega)) rfl (by decide) (by decide) ?_
  refine pw_iinc (v := nI (3)) (ls1 := [some (.inr (some (5 + 21 * p))), some (.inl (nI (3)))]) rfl rfl (iinc_n _) rfl ?_
  refine pw_goto (t := 52) rfl rfl ?_
  refine pw_iload_n rfl rfl ?_
  refine pw_iconst (v := nI (3)) rfl (by decide) ?_
  refine pw_if2 (t := 76) rfl rfl (fun _ => ?_) (fun q => absurd q (by decide))
  exact pw_vret rfl rfl (Nat.le_of_ble_eq_true rfl) (Nat.le_of_ble_eq_true rfl) k
theorem iq_fz {p : Nat} {F G : FN} {R O : RN} (hz : fz (5 + 21 * p + 1) F G R O) : fz (5 + 21 * p + 21) (iFq F p) G (iRq R p) (iOq O p) := by
  intro i a
  obtain ⟨z1, z2, z3, z4⟩ := hz i (by omega)
  refine ⟨?_, z2, ?_, ?_⟩
  · unfold iFq
    rw [up2_row (by omega), up2_row (by omega), up2_row (by omega)]
    exact z1
  · unfold iRq
    rw [up2_row (by omega), up2_row (by omega), up2_row (by omega), iRp_row (by omega), iRp_row (by omega)]
    exact z3
  · unfold iOq
    rw [up2_row (by omega), up2_row (by omega), iOp_row (by omega), up2_row (by omega), iOp_row (by omega)]
    exact z4
