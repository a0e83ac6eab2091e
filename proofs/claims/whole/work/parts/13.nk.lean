/-! the tables of 12.nm are the Statement's: made by a program (wip/whole/gen/valid.py) -/
def pm_isA (w : Cond) : Bool := match w with
  | .arrayClass _ => true
  | _ => false
def pm_isN (w : Cond) : Bool := match w with
  | .fieldLinkNest .. => true
  | .methodLinkNest .. => true
  | _ => false
def pm_good (w : Cond) : Bool := (w.onTables && w.keeps) || pm_isA w
def pWs : List Cond := lw_tbl.filter pm_good
def pNs : List Cond := lw_tbl.filter pm_isN
theorem wm1 {w : Cond} (j : Nat) (h : tables_1_1[j]? = some w) (g : pm_good w = true) : w ∈ pWs := List.mem_filter.mpr ⟨List.mem_append_right _ (List.mem_append_left _ (List.mem_of_getElem? h)), g⟩
theorem wm2 {w : Cond} (j : Nat) (h : tables_1_2[j]? = some w) (g : pm_good w = true) : w ∈ pWs := List.mem_filter.mpr ⟨List.mem_append_right _ (List.mem_append_right _ (List.mem_append_left _ (List.mem_of_getElem? h))), g⟩
theorem wm3 {w : Cond} (j : Nat) (h : tables_1_3[j]? = some w) (g : pm_good w = true) : w ∈ pWs := List.mem_filter.mpr ⟨List.mem_append_right _ (List.mem_append_right _ (List.mem_append_right _ (List.mem_append_left _ (List.mem_of_getElem? h)))), g⟩
theorem wm4 {w : Cond} (j : Nat) (h : tables_1_4[j]? = some w) (g : pm_good w = true) : w ∈ pWs := List.mem_filter.mpr ⟨List.mem_append_right _ (List.mem_append_right _ (List.mem_append_right _ (List.mem_append_right _ (List.mem_of_getElem? h)))), g⟩
theorem wmS {w : Cond} (j : Nat) (h : (k2_sels lw_privs)[j]? = some w) (g : pm_good w = true) : w ∈ pWs := List.mem_filter.mpr ⟨List.mem_append_left _ (List.mem_of_getElem? h), g⟩
theorem wn1 {w : Cond} (j : Nat) (h : tables_1_1[j]? = some w) (g : pm_isN w = true) : w ∈ pNs := List.mem_filter.mpr ⟨List.mem_append_right _ (List.mem_append_left _ (List.mem_of_getElem? h)), g⟩
theorem wn2 {w : Cond} (j : Nat) (h : tables_1_2[j]? = some w) (g : pm_isN w = true) : w ∈ pNs := List.mem_filter.mpr ⟨List.mem_append_right _ (List.mem_append_right _ (List.mem_append_left _ (List.mem_of_getElem? h))), g⟩
theorem wn3 {w : Cond} (j : Nat) (h : tables_1_3[j]? = some w) (g : pm_isN w = true) : w ∈ pNs := List.mem_filter.mpr ⟨List.mem_append_right _ (List.mem_append_right _ (List.mem_append_right _ (List.mem_append_left _ (List.mem_of_getElem? h)))), g⟩
theorem wn4 {w : Cond} (j : Nat) (h : tables_1_4[j]? = some w) (g : pm_isN w = true) : w ∈ pNs := List.mem_filter.mpr ⟨List.mem_append_right _ (List.mem_append_right _ (List.mem_append_right _ (List.mem_append_right _ (List.mem_of_getElem? h)))), g⟩
theorem nkG : pk_G pWs := by
  intro w hw
  have h := (List.mem_filter.mp hw).2
  unfold pm_good at h
  rw [Bool.or_eq_true] at h
  rcases h with h | h
  · exact Or.inl h
  · right
    cases w with
    | arrayClass ty => exact ⟨ty, rfl⟩
    | _ => cases h
theorem nkS : pk_S pNs := by
  intro w hw
  have h := (List.mem_filter.mp hw).2
  cases w with
  | fieldLinkNest a i c n d x => exact Or.inl ⟨a, i, c, n, d, x, rfl⟩
  | methodLinkNest a i c x => exact Or.inr ⟨a, i, c, x, rfl⟩
  | _ => cases h
theorem nkA : pk_A pWs := ⟨wm1 55 rfl rfl, wm2 4 rfl rfl⟩

def pkK (r : vw_C × List FieldType × Bool) : Prop := (∀ w ∈ u_ws r.1.1 r.1.2.1 r.1.2.2, w ∈ pWs) ∧ r.2.1.length = r.1.2.2 ∧ (∀ k, k < r.1.2.2 → parseFieldDescriptor (r.1.2.1 k).2.2.1 = some (r.2.1.getD k .long)) ∧ (∀ a, a < r.1.2.2 → ∀ b, b < r.1.2.2 → a ≠ b → (r.1.2.1 a).2.1 ≠ (r.1.2.1 b).2.1) ∧ (∀ t ∈ r.2.1, pm_plain t = true) ∧ Cond.instantiable r.1.1 r.1.2.2 ∈ pWs ∧ Cond.initialized r.1.1 ∈ pWs
theorem kW0 : ∀ w ∈ [u_lay kC0 kT0 0, u_lay kC0 kT0 1], w ∈ pWs := List.forall_mem_cons.mpr ⟨wm2 21 rfl rfl, List.forall_mem_cons.mpr ⟨wm2 23 rfl rfl, fun _ h => absurd h List.not_mem_nil⟩⟩
set_option maxRecDepth 20000 in
theorem kK0 : pkK ((kC0, kT0, 2), kY0, true) := ⟨kW0, rfl, by decide +kernel, by decide +kernel, by decide +kernel, wm2 13 rfl rfl, wm1 11 rfl rfl⟩
theorem kW1 : ∀ w ∈ [u_lay kC1 kT1 0, u_lay kC1 kT1 1, u_lay kC1 kT1 2, u_lay kC1 kT1 3, u_lay kC1 kT1 4, u_lay kC1 kT1 5], w ∈ pWs := List.forall_mem_cons.mpr ⟨wm1 95 rfl rfl, List.forall_mem_cons.mpr ⟨wm1 97 rfl rfl, List.forall_mem_cons.mpr ⟨wm1 99 rfl rfl, List.forall_mem_cons.mpr ⟨wm1 101 rfl rfl, List.forall_mem_cons.mpr ⟨wm1 103 rfl rfl, List.forall_mem_cons.mpr ⟨wm1 105 rfl rfl, fun _ h => absurd h List.not_mem_nil⟩⟩⟩⟩⟩⟩
set_option maxRecDepth 20000 in
theorem kK1 : pkK ((kC1, kT1, 6), kY1, true) := ⟨kW1, rfl, by decide +kernel, by decide +kernel, by decide +kernel, wm1 71 rfl rfl, wm1 7 rfl rfl⟩
theorem kW2 : ∀ w ∈ [u_lay kC2 kT2 0, u_lay kC2 kT2 1, u_lay kC2 kT2 2, u_lay kC2 kT2 3, u_lay kC2 kT2 4, u_lay kC2 kT2 5, u_lay kC2 kT2 6, u_lay kC2 kT2 7, u_lay kC2 kT2 8], w ∈ pWs := List.forall_mem_cons.mpr ⟨wm1 225 rfl rfl, List.forall_mem_cons.mpr ⟨wm1 227 rfl rfl, List.forall_mem_cons.mpr ⟨wm1 229 rfl rfl, List.forall_mem_cons.mpr ⟨wm1 231 rfl rfl, List.forall_mem_cons.mpr ⟨wm1 233 rfl rfl, List.forall_mem_cons.mpr ⟨wm1 235 rfl rfl, List.forall_mem_cons.mpr ⟨wm1 237 rfl rfl, List.forall_mem_cons.mpr ⟨wm1 239 rfl rfl, List.forall_mem_cons.mpr ⟨wm2 1 rfl rfl, fun _ h => absurd h List.not_mem_nil⟩⟩⟩⟩⟩⟩⟩⟩⟩
set_option maxRecDepth 20000 in
theorem kK2 : pkK ((kC2, kT2, 9), kY2, false) := ⟨kW2, rfl, by decide +kernel, by decide +kernel, by decide +kernel, wm1 208 rfl rfl, wm1 9 rfl rfl⟩
theorem kW3 : ∀ w ∈ [u_lay kC3 kT3 0, u_lay kC3 kT3 1, u_lay kC3 kT3 2, u_lay kC3 kT3 3, u_lay kC3 kT3 4, u_lay kC3 kT3 5, u_lay kC3 kT3 6, u_lay kC3 kT3 7], w ∈ pWs := List.forall_mem_cons.mpr ⟨wm2 35 rfl rfl, List.forall_mem_cons.mpr ⟨wm2 37 rfl rfl, List.forall_mem_cons.mpr ⟨wm2 39 rfl rfl, List.forall_mem_cons.mpr ⟨wm2 41 rfl rfl, List.forall_mem_cons.mpr ⟨wm2 43 rfl rfl, List.forall_mem_cons.mpr ⟨wm2 45 rfl rfl, List.forall_mem_cons.mpr ⟨wm2 47 rfl rfl, List.forall_mem_cons.mpr ⟨wm2 49 rfl rfl, fun _ h => absurd h List.not_mem_nil⟩⟩⟩⟩⟩⟩⟩⟩
set_option maxRecDepth 20000 in
theorem kK3 : pkK ((kC3, kT3, 8), kY3, false) := ⟨kW3, rfl, by decide +kernel, by decide +kernel, by decide +kernel, wm2 6 rfl rfl, wm1 10 rfl rfl⟩
theorem kW4 : ∀ w ∈ [u_lay kC4 kT4 0, u_lay kC4 kT4 1, u_lay kC4 kT4 2, u_lay kC4 kT4 3, u_lay kC4 kT4 4, u_lay kC4 kT4 5, u_lay kC4 kT4 6, u_lay kC4 kT4 7, u_lay kC4 kT4 8, u_lay kC4 kT4 9, u_lay kC4 kT4 10, u_lay kC4 kT4 11, u_lay kC4 kT4 12, u_lay kC4 kT4 13], w ∈ pWs := List.forall_mem_cons.mpr ⟨wm1 178 rfl rfl, List.forall_mem_cons.mpr ⟨wm1 180 rfl rfl, List.forall_mem_cons.mpr ⟨wm1 182 rfl rfl, List.forall_mem_cons.mpr ⟨wm1 184 rfl rfl, List.forall_mem_cons.mpr ⟨wm1 186 rfl rfl, List.forall_mem_cons.mpr ⟨wm1 188 rfl rfl, List.forall_mem_cons.mpr ⟨wm1 190 rfl rfl, List.forall_mem_cons.mpr ⟨wm1 192 rfl rfl, List.forall_mem_cons.mpr ⟨wm1 194 rfl rfl, List.forall_mem_cons.mpr ⟨wm1 196 rfl rfl, List.forall_mem_cons.mpr ⟨wm1 198 rfl rfl, List.forall_mem_cons.mpr ⟨wm1 200 rfl rfl, List.forall_mem_cons.mpr ⟨wm1 202 rfl rfl, List.forall_mem_cons.mpr ⟨wm1 204 rfl rfl, fun _ h => absurd h List.not_mem_nil⟩⟩⟩⟩⟩⟩⟩⟩⟩⟩⟩⟩⟩⟩
set_option maxRecDepth 20000 in
theorem kK4 : pkK ((kC4, kT4, 14), kY4, true) := ⟨kW4, rfl, by decide +kernel, by decide +kernel, by decide +kernel, wm1 58 rfl rfl, wm1 5 rfl rfl⟩
theorem kW5 : ∀ w ∈ [u_lay kC5 kT5 0, u_lay kC5 kT5 1], w ∈ pWs := List.forall_mem_cons.mpr ⟨wm1 111 rfl rfl, List.forall_mem_cons.mpr ⟨wm1 113 rfl rfl, fun _ h => absurd h List.not_mem_nil⟩⟩
set_option maxRecDepth 20000 in
theorem kK5 : pkK ((kC5, kT5, 2), kY5, false) := ⟨kW5, rfl, by decide +kernel, by decide +kernel, by decide +kernel, wm1 64 rfl rfl, wm1 6 rfl rfl⟩
theorem kW6 : ∀ w ∈ [u_lay kC6 kT6 0, u_lay kC6 kT6 1, u_lay kC6 kT6 2, u_lay kC6 kT6 3, u_lay kC6 kT6 4, u_lay kC6 kT6 5], w ∈ pWs := List.forall_mem_cons.mpr ⟨wm1 137 rfl rfl, List.forall_mem_cons.mpr ⟨wm1 139 rfl rfl, List.forall_mem_cons.mpr ⟨wm1 141 rfl rfl, List.forall_mem_cons.mpr ⟨wm1 143 rfl rfl, List.forall_mem_cons.mpr ⟨wm1 145 rfl rfl, List.forall_mem_cons.mpr ⟨wm1 147 rfl rfl, fun _ h => absurd h List.not_mem_nil⟩⟩⟩⟩⟩⟩
set_option maxRecDepth 20000 in
theorem kK6 : pkK ((kC6, kT6, 6), kY6, true) := ⟨kW6, rfl, by decide +kernel, by decide +kernel, by decide +kernel, wm1 118 rfl rfl, wm1 8 rfl rfl⟩
theorem kW7 : ∀ w ∈ [u_lay kC7 kT7 0, u_lay kC7 kT7 1, u_lay kC7 kT7 2], w ∈ pWs := List.forall_mem_cons.mpr ⟨wm1 48 rfl rfl, List.forall_mem_cons.mpr ⟨wm1 50 rfl rfl, List.forall_mem_cons.mpr ⟨wm1 52 rfl rfl, fun _ h => absurd h List.not_mem_nil⟩⟩⟩
set_option maxRecDepth 20000 in
theorem kK7 : pkK ((kC7, kT7, 3), kY7, false) := ⟨kW7, rfl, by decide +kernel, by decide +kernel, by decide +kernel, wm1 39 rfl rfl, wm1 4 rfl rfl⟩
theorem kW8 : ∀ w ∈ [u_lay kC8 kT8 0, u_lay kC8 kT8 1, u_lay kC8 kT8 2, u_lay kC8 kT8 3, u_lay kC8 kT8 4, u_lay kC8 kT8 5], w ∈ pWs := List.forall_mem_cons.mpr ⟨wm2 58 rfl rfl, List.forall_mem_cons.mpr ⟨wm2 60 rfl rfl, List.forall_mem_cons.mpr ⟨wm2 62 rfl rfl, List.forall_mem_cons.mpr ⟨wm2 64 rfl rfl, List.forall_mem_cons.mpr ⟨wm2 66 rfl rfl, List.forall_mem_cons.mpr ⟨wm2 68 rfl rfl, fun _ h => absurd h List.not_mem_nil⟩⟩⟩⟩⟩⟩
set_option maxRecDepth 20000 in
theorem kK8 : pkK ((kC8, kT8, 6), kY8, false) := ⟨kW8, rfl, by decide +kernel, by decide +kernel, by decide +kernel, wm1 14 rfl rfl, wm1 1 rfl rfl⟩
theorem kW9 : ∀ w ∈ [u_lay kC9 kT9 0, u_lay kC9 kT9 1, u_lay kC9 kT9 2, u_lay kC9 kT9 3, u_lay kC9 kT9 4, u_lay kC9 kT9 5, u_lay kC9 kT9 6, u_lay kC9 kT9 7, u_lay kC9 kT9 8, u_lay kC9 kT9 9, u_lay kC9 kT9 10, u_lay kC9 kT9 11, u_lay kC9 kT9 12, u_lay kC9 kT9 13, u_lay kC9 kT9 14, u_lay kC9 kT9 15, u_lay kC9 kT9 16, u_lay kC9 kT9 17, u_lay kC9 kT9 18, u_lay kC9 kT9 19, u_lay kC9 kT9 20, u_lay kC9 kT9 21, u_lay kC9 kT9 22, u_lay kC9 kT9 23, u_lay kC9 kT9 24, u_lay kC9 kT9 25, u_lay kC9 kT9 26, u_lay kC9 kT9 27, u_lay kC9 kT9 28, u_lay kC9 kT9 29, u_lay kC9 kT9 30, u_lay kC9 kT9 31, u_lay kC9 kT9 32, u_lay kC9 kT9 33, u_lay kC9 kT9 34, u_lay kC9 kT9 35, u_lay kC9 kT9 36, u_lay kC9 kT9 37, u_lay kC9 kT9 38], w ∈ pWs := List.forall_mem_cons.mpr ⟨wm3 171 rfl rfl, List.forall_mem_cons.mpr ⟨wm3 173 rfl rfl, List.forall_mem_cons.mpr ⟨wm3 175 rfl rfl, List.forall_mem_cons.mpr ⟨wm3 177 rfl rfl, List.forall_mem_cons.mpr ⟨wm3 179 rfl rfl, List.forall_mem_cons.mpr ⟨wm3 181 rfl rfl, List.forall_mem_cons.mpr ⟨wm3 183 rfl rfl, List.forall_mem_cons.mpr ⟨wm3 185 rfl rfl, List.forall_mem_cons.mpr ⟨wm3 187 rfl rfl, List.forall_mem_cons.mpr ⟨wm3 189 rfl rfl, List.forall_mem_cons.mpr ⟨wm3 191 rfl rfl, List.forall_mem_cons.mpr ⟨wm3 193 rfl rfl, List.forall_mem_cons.mpr ⟨wm3 195 rfl rfl, List.forall_mem_cons.mpr ⟨wm3 197 rfl rfl, List.forall_mem_cons.mpr ⟨wm3 199 rfl rfl, List.forall_mem_cons.mpr ⟨wm3 201 rfl rfl, List.forall_mem_cons.mpr ⟨wm3 203 rfl rfl, List.forall_mem_cons.mpr ⟨wm3 205 rfl rfl, List.forall_mem_cons.mpr ⟨wm3 207 rfl rfl, List.forall_mem_cons.mpr ⟨wm3 209 rfl rfl, List.forall_mem_cons.mpr ⟨wm3 211 rfl rfl, List.forall_mem_cons.mpr ⟨wm3 213 rfl rfl, List.forall_mem_cons.mpr ⟨wm3 215 rfl rfl, List.forall_mem_cons.mpr ⟨wm3 217 rfl rfl, List.forall_mem_cons.mpr ⟨wm3 219 rfl rfl, List.forall_mem_cons.mpr ⟨wm3 221 rfl rfl, List.forall_mem_cons.mpr ⟨wm3 223 rfl rfl, List.forall_mem_cons.mpr ⟨wm3 225 rfl rfl, List.forall_mem_cons.mpr ⟨wm3 227 rfl rfl, List.forall_mem_cons.mpr ⟨wm3 229 rfl rfl, List.forall_mem_cons.mpr ⟨wm3 231 rfl rfl, List.forall_mem_cons.mpr ⟨wm3 233 rfl rfl, List.forall_mem_cons.mpr ⟨wm3 235 rfl rfl, List.forall_mem_cons.mpr ⟨wm3 237 rfl rfl, List.forall_mem_cons.mpr ⟨wm3 239 rfl rfl, List.forall_mem_cons.mpr ⟨wm4 1 rfl rfl, List.forall_mem_cons.mpr ⟨wm4 3 rfl rfl, List.forall_mem_cons.mpr ⟨wm4 5 rfl rfl, List.forall_mem_cons.mpr ⟨wm4 7 rfl rfl, fun _ h => absurd h List.not_mem_nil⟩⟩⟩⟩⟩⟩⟩⟩⟩⟩⟩⟩⟩⟩⟩⟩⟩⟩⟩⟩⟩⟩⟩⟩⟩⟩⟩⟩⟩⟩⟩⟩⟩⟩⟩⟩⟩⟩⟩
set_option maxRecDepth 20000 in
theorem kK9 : pkK ((kC9, kT9, 39), kY9, false) := ⟨kW9, rfl, by decide +kernel, by decide +kernel, by decide +kernel, wm3 125 rfl rfl, wm1 12 rfl rfl⟩
theorem kKall : ∀ r ∈ pCl, pkK r := List.forall_mem_cons.mpr ⟨kK0, List.forall_mem_cons.mpr ⟨kK1, List.forall_mem_cons.mpr ⟨kK2, List.forall_mem_cons.mpr ⟨kK3, List.forall_mem_cons.mpr ⟨kK4, List.forall_mem_cons.mpr ⟨kK5, List.forall_mem_cons.mpr ⟨kK6, List.forall_mem_cons.mpr ⟨kK7, List.forall_mem_cons.mpr ⟨kK8, List.forall_mem_cons.mpr ⟨kK9, fun _ h => absurd h List.not_mem_nil⟩⟩⟩⟩⟩⟩⟩⟩⟩⟩
theorem nkK : pk_K pP pWs := fun ci r hr => kKall r (List.mem_of_getElem? hr)
def pCn : List String := ["SubflowBundle$Arrivals", "SubflowBundle$Copy", "SubflowBundle$HostA", "SubflowBundle$HostB", "SubflowBundle$Path", "SubflowBundle$Pipe", "SubflowBundle$Segment", "SubflowBundle$Stream", "SubflowBundle", "SubflowBundleModel", "SubflowBundleLaw", "java/lang/Integer"]
theorem pM_cls : pM.all (fun m => decide (m.2.2.2.2.2.2.cls = pCn.getD m.2.2.1 "")) = true := by decide +kernel
theorem pMg_or (y : Nat) : pMg y = pM0 ∨ pMg y ∈ pM := by
  unfold pMg
  cases h : pM[y]? with
  | none => exact Or.inl rfl
  | some m => exact Or.inr (List.mem_of_getElem? h)
theorem pcls (y : Nat) : pp_own pP y = 99 ∨ (pp_nm pP y).cls = pCn.getD (pp_own pP y) "" := by
  rcases pMg_or y with h | h
  · left
    show (pMg y).2.2.1 = 99
    rw [h]
    rfl
  · right
    exact of_decide_eq_true (List.all_eq_true.mp pM_cls _ h)
theorem plk_mem {β : Type} {i : Nat} {v : β} : ∀ (l : List (Nat × β)), plk i l = some v → (i, v) ∈ l
  | [], h => by cases h
  | (j, w) :: t, h => by
    unfold plk at h
    split at h
    · rename_i e
      cases h
      cases Nat.eq_of_beq_eq_true e
      exact List.mem_cons_self
    · exact List.mem_cons_of_mem _ (plk_mem t h)
theorem pq_mem {β : Type} {X : List (List (Nat × β))} {q i : Nat} {v : β} (h : pq X q i = some v) : ∃ l, X[q]? = some l ∧ (i, v) ∈ l := by
  unfold pq at h
  split at h
  · rename_i l hl
    exact ⟨l, hl, plk_mem l h⟩
  · cases h
def pgF (c : String) (e : Nat × Nat × Nat) : Prop := ∃ r : vw_C × List FieldType × Bool, pCl[e.2.1]? = some r ∧ e.2.2 < r.1.2.2 ∧ (Cond.fieldLink c e.1 (r.1.2.1 e.2.2).1 (r.1.2.1 e.2.2).2.1 (r.1.2.1 e.2.2).2.2.1 ∈ pWs ∨ ((∃ host : String, Cond.fieldLinkNest c e.1 (r.1.2.1 e.2.2).1 (r.1.2.1 e.2.2).2.1 (r.1.2.1 e.2.2).2.2.1 host ∈ pNs) ∧ ¬ (r.1.2.1 e.2.2).1 = c))
set_option maxRecDepth 20000 in
theorem gF0 : ∀ l, pFx[0]? = some l → ∀ e ∈ l, pgF (pCn.getD 0 "") e := by
  intro l h
  cases Option.some.inj h
  exact List.forall_mem_cons.mpr ⟨⟨_, rfl, by decide, Or.inl (wm2 18 rfl rfl)⟩, List.forall_mem_cons.mpr ⟨⟨_, rfl, by decide, Or.inl (wm2 20 rfl rfl)⟩, fun _ h => absurd h List.not_mem_nil⟩⟩
set_option maxRecDepth 20000 in
theorem gF1 : ∀ l, pFx[1]? = some l → ∀ e ∈ l, pgF (pCn.getD 1 "") e := by
  intro l h
  cases Option.some.inj h
  exact List.forall_mem_cons.mpr ⟨⟨_, rfl, by decide, Or.inl (wm1 76 rfl rfl)⟩, List.forall_mem_cons.mpr ⟨⟨_, rfl, by decide, Or.inl (wm1 80 rfl rfl)⟩, List.forall_mem_cons.mpr ⟨⟨_, rfl, by decide, Or.inl (wm1 83 rfl rfl)⟩, List.forall_mem_cons.mpr ⟨⟨_, rfl, by decide, Or.inl (wm1 87 rfl rfl)⟩, List.forall_mem_cons.mpr ⟨⟨_, rfl, by decide, Or.inl (wm1 91 rfl rfl)⟩, fun _ h => absurd h List.not_mem_nil⟩⟩⟩⟩⟩
set_option maxRecDepth 20000 in
theorem gF2 : ∀ l, pFx[2]? = some l → ∀ e ∈ l, pgF (pCn.getD 2 "") e := by
  intro l h
  cases Option.some.inj h
  exact List.forall_mem_cons.mpr ⟨⟨_, rfl, by decide, Or.inl (wm1 216 rfl rfl)⟩, List.forall_mem_cons.mpr ⟨⟨_, rfl, by decide, Or.inl (wm1 217 rfl rfl)⟩, List.forall_mem_cons.mpr ⟨⟨_, rfl, by decide, Or.inl (wm1 213 rfl rfl)⟩, List.forall_mem_cons.mpr ⟨⟨_, rfl, by decide, Or.inl (wm1 214 rfl rfl)⟩, List.forall_mem_cons.mpr ⟨⟨_, rfl, by decide, Or.inl (wm1 215 rfl rfl)⟩, List.forall_mem_cons.mpr ⟨⟨_, rfl, by decide, Or.inl (wm1 220 rfl rfl)⟩, List.forall_mem_cons.mpr ⟨⟨_, rfl, by decide, Or.inr ⟨⟨"SubflowBundle", wn1 160 rfl rfl⟩, by decide⟩⟩, List.forall_mem_cons.mpr ⟨⟨_, rfl, by decide, Or.inr ⟨⟨"SubflowBundle", wn1 164 rfl rfl⟩, by decide⟩⟩, List.forall_mem_cons.mpr ⟨⟨_, rfl, by decide, Or.inr ⟨⟨"SubflowBundle", wn1 78 rfl rfl⟩, by decide⟩⟩, List.forall_mem_cons.mpr ⟨⟨_, rfl, by decide, Or.inl (wm1 218 rfl rfl)⟩, List.forall_mem_cons.mpr ⟨⟨_, rfl, by decide, Or.inr ⟨⟨"SubflowBundle", wn1 89 rfl rfl⟩, by decide⟩⟩, List.forall_mem_cons.mpr ⟨⟨_, rfl, by decide, Or.inr ⟨⟨"SubflowBundle", wn1 92 rfl rfl⟩, by decide⟩⟩, List.forall_mem_cons.mpr ⟨⟨_, rfl, by decide, Or.inr ⟨⟨"SubflowBundle", wn1 85 rfl rfl⟩, by decide⟩⟩, List.forall_mem_cons.mpr ⟨⟨_, rfl, by decide, Or.inr ⟨⟨"SubflowBundle", wn1 136 rfl rfl⟩, by decide⟩⟩, List.forall_mem_cons.mpr ⟨⟨_, rfl, by decide, Or.inr ⟨⟨"SubflowBundle", wn1 134 rfl rfl⟩, by decide⟩⟩, List.forall_mem_cons.mpr ⟨⟨_, rfl, by decide, Or.inl (wm1 224 rfl rfl)⟩, List.forall_mem_cons.mpr ⟨⟨_, rfl, by decide, Or.inr ⟨⟨"SubflowBundle", wn1 156 rfl rfl⟩, by decide⟩⟩, List.forall_mem_cons.mpr ⟨⟨_, rfl, by decide, Or.inr ⟨⟨"SubflowBundle", wn1 166 rfl rfl⟩, by decide⟩⟩, List.forall_mem_cons.mpr ⟨⟨_, rfl, by decide, Or.inr ⟨⟨"SubflowBundle", wn1 169 rfl rfl⟩, by decide⟩⟩, List.forall_mem_cons.mpr ⟨⟨_, rfl, by decide, Or.inr ⟨⟨"SubflowBundle", wn1 129 rfl rfl⟩, by decide⟩⟩, List.forall_mem_cons.mpr ⟨⟨_, rfl, by decide, Or.inr ⟨⟨"SubflowBundle", wn1 132 rfl rfl⟩, by decide⟩⟩, List.forall_mem_cons.mpr ⟨⟨_, rfl, by decide, Or.inr ⟨⟨"SubflowBundle", wn1 155 rfl rfl⟩, by decide⟩⟩, List.forall_mem_cons.mpr ⟨⟨_, rfl, by decide, Or.inr ⟨⟨"SubflowBundle", wn1 46 rfl rfl⟩, by decide⟩⟩, List.forall_mem_cons.mpr ⟨⟨_, rfl, by decide, Or.inl (wm1 221 rfl rfl)⟩, List.forall_mem_cons.mpr ⟨⟨_, rfl, by decide, Or.inr ⟨⟨"SubflowBundle", wn1 176 rfl rfl⟩, by decide⟩⟩, List.forall_mem_cons.mpr ⟨⟨_, rfl, by decide, Or.inr ⟨⟨"SubflowBundle", wn1 125 rfl rfl⟩, by decide⟩⟩, fun _ h => absurd h List.not_mem_nil⟩⟩⟩⟩⟩⟩⟩⟩⟩⟩⟩⟩⟩⟩⟩⟩⟩⟩⟩⟩⟩⟩⟩⟩⟩⟩
set_option maxRecDepth 20000 in
theorem gF3 : ∀ l, pFx[3]? = some l → ∀ e ∈ l, pgF (pCn.getD 3 "") e := by
  intro l h
  cases Option.some.inj h
  exact List.forall_mem_cons.mpr ⟨⟨_, rfl, by decide, Or.inl (wm2 29 rfl rfl)⟩, List.forall_mem_cons.mpr ⟨⟨_, rfl, by decide, Or.inl (wm2 30 rfl rfl)⟩, List.forall_mem_cons.mpr ⟨⟨_, rfl, by decide, Or.inl (wm2 26 rfl rfl)⟩, List.forall_mem_cons.mpr ⟨⟨_, rfl, by decide, Or.inl (wm2 27 rfl rfl)⟩, List.forall_mem_cons.mpr ⟨⟨_, rfl, by decide, Or.inl (wm2 28 rfl rfl)⟩, List.forall_mem_cons.mpr ⟨⟨_, rfl, by decide, Or.inr ⟨⟨"SubflowBundle", wn1 77 rfl rfl⟩, by decide⟩⟩, List.forall_mem_cons.mpr ⟨⟨_, rfl, by decide, Or.inr ⟨⟨"SubflowBundle", wn2 19 rfl rfl⟩, by decide⟩⟩, List.forall_mem_cons.mpr ⟨⟨_, rfl, by decide, Or.inl (wm2 34 rfl rfl)⟩, List.forall_mem_cons.mpr ⟨⟨_, rfl, by decide, Or.inr ⟨⟨"SubflowBundle", wn1 88 rfl rfl⟩, by decide⟩⟩, List.forall_mem_cons.mpr ⟨⟨_, rfl, by decide, Or.inr ⟨⟨"SubflowBundle", wn1 81 rfl rfl⟩, by decide⟩⟩, List.forall_mem_cons.mpr ⟨⟨_, rfl, by decide, Or.inr ⟨⟨"SubflowBundle", wn1 84 rfl rfl⟩, by decide⟩⟩, List.forall_mem_cons.mpr ⟨⟨_, rfl, by decide, Or.inl (wm2 31 rfl rfl)⟩, List.forall_mem_cons.mpr ⟨⟨_, rfl, by decide, Or.inl (wm2 33 rfl rfl)⟩, fun _ h => absurd h List.not_mem_nil⟩⟩⟩⟩⟩⟩⟩⟩⟩⟩⟩⟩⟩
set_option maxRecDepth 20000 in
theorem gF4 : ∀ l, pFx[4]? = some l → ∀ e ∈ l, pgF (pCn.getD 4 "") e := by
  intro l h
  cases Option.some.inj h
  exact List.forall_mem_cons.mpr ⟨⟨_, rfl, by decide, Or.inl (wm1 150 rfl rfl)⟩, List.forall_mem_cons.mpr ⟨⟨_, rfl, by decide, Or.inl (wm1 152 rfl rfl)⟩, List.forall_mem_cons.mpr ⟨⟨_, rfl, by decide, Or.inl (wm1 154 rfl rfl)⟩, List.forall_mem_cons.mpr ⟨⟨_, rfl, by decide, Or.inl (wm1 159 rfl rfl)⟩, List.forall_mem_cons.mpr ⟨⟨_, rfl, by decide, Or.inl (wm1 165 rfl rfl)⟩, List.forall_mem_cons.mpr ⟨⟨_, rfl, by decide, Or.inl (wm1 168 rfl rfl)⟩, List.forall_mem_cons.mpr ⟨⟨_, rfl, by decide, Or.inl (wm1 163 rfl rfl)⟩, List.forall_mem_cons.mpr ⟨⟨_, rfl, by decide, Or.inl (wm1 157 rfl rfl)⟩, List.forall_mem_cons.mpr ⟨⟨_, rfl, by decide, Or.inl (wm1 158 rfl rfl)⟩, List.forall_mem_cons.mpr ⟨⟨_, rfl, by decide, Or.inr ⟨⟨"SubflowBundle", wn1 124 rfl rfl⟩, by decide⟩⟩, List.forall_mem_cons.mpr ⟨⟨_, rfl, by decide, Or.inr ⟨⟨"SubflowBundle", wn1 127 rfl rfl⟩, by decide⟩⟩, List.forall_mem_cons.mpr ⟨⟨_, rfl, by decide, Or.inr ⟨⟨"SubflowBundle", wn1 130 rfl rfl⟩, by decide⟩⟩, List.forall_mem_cons.mpr ⟨⟨_, rfl, by decide, Or.inr ⟨⟨"SubflowBundle", wn1 133 rfl rfl⟩, by decide⟩⟩, List.forall_mem_cons.mpr ⟨⟨_, rfl, by decide, Or.inl (wm1 171 rfl rfl)⟩, List.forall_mem_cons.mpr ⟨⟨_, rfl, by decide, Or.inl (wm1 175 rfl rfl)⟩, List.forall_mem_cons.mpr ⟨⟨_, rfl, by decide, Or.inl (wm1 173 rfl rfl)⟩, fun _ h => absurd h List.not_mem_nil⟩⟩⟩⟩⟩⟩⟩⟩⟩⟩⟩⟩⟩⟩⟩⟩
set_option maxRecDepth 20000 in
theorem gF5 : ∀ l, pFx[5]? = some l → ∀ e ∈ l, pgF (pCn.getD 5 "") e := by
  intro l h
  cases Option.some.inj h
  exact List.forall_mem_cons.mpr ⟨⟨_, rfl, by decide, Or.inl (wm1 108 rfl rfl)⟩, List.forall_mem_cons.mpr ⟨⟨_, rfl, by decide, Or.inl (wm1 109 rfl rfl)⟩, List.forall_mem_cons.mpr ⟨⟨_, rfl, by decide, Or.inr ⟨⟨"SubflowBundle", wn1 94 rfl rfl⟩, by decide⟩⟩, fun _ h => absurd h List.not_mem_nil⟩⟩⟩
set_option maxRecDepth 20000 in
theorem gF6 : ∀ l, pFx[6]? = some l → ∀ e ∈ l, pgF (pCn.getD 6 "") e := by
  intro l h
  cases Option.some.inj h
  exact List.forall_mem_cons.mpr ⟨⟨_, rfl, by decide, Or.inl (wm1 123 rfl rfl)⟩, List.forall_mem_cons.mpr ⟨⟨_, rfl, by decide, Or.inl (wm1 126 rfl rfl)⟩, List.forall_mem_cons.mpr ⟨⟨_, rfl, by decide, Or.inl (wm1 128 rfl rfl)⟩, List.forall_mem_cons.mpr ⟨⟨_, rfl, by decide, Or.inl (wm1 131 rfl rfl)⟩, List.forall_mem_cons.mpr ⟨⟨_, rfl, by decide, Or.inl (wm1 135 rfl rfl)⟩, fun _ h => absurd h List.not_mem_nil⟩⟩⟩⟩⟩
set_option maxRecDepth 20000 in
theorem gF7 : ∀ l, pFx[7]? = some l → ∀ e ∈ l, pgF (pCn.getD 7 "") e := by
  intro l h
  cases Option.some.inj h
  exact List.forall_mem_cons.mpr ⟨⟨_, rfl, by decide, Or.inl (wm1 44 rfl rfl)⟩, List.forall_mem_cons.mpr ⟨⟨_, rfl, by decide, Or.inl (wm1 47 rfl rfl)⟩, List.forall_mem_cons.mpr ⟨⟨_, rfl, by decide, Or.inl (wm1 45 rfl rfl)⟩, fun _ h => absurd h List.not_mem_nil⟩⟩⟩
set_option maxRecDepth 20000 in
theorem gF8 : ∀ l, pFx[8]? = some l → ∀ e ∈ l, pgF (pCn.getD 8 "") e := by
  intro l h
  cases Option.some.inj h
  exact List.forall_mem_cons.mpr ⟨⟨_, rfl, by decide, Or.inl (wm2 52 rfl rfl)⟩, List.forall_mem_cons.mpr ⟨⟨_, rfl, by decide, Or.inl (wm2 53 rfl rfl)⟩, List.forall_mem_cons.mpr ⟨⟨_, rfl, by decide, Or.inl (wm2 54 rfl rfl)⟩, List.forall_mem_cons.mpr ⟨⟨_, rfl, by decide, Or.inl (wm2 55 rfl rfl)⟩, List.forall_mem_cons.mpr ⟨⟨_, rfl, by decide, Or.inl (wm2 56 rfl rfl)⟩, List.forall_mem_cons.mpr ⟨⟨_, rfl, by decide, Or.inl (wm2 57 rfl rfl)⟩, List.forall_mem_cons.mpr ⟨⟨_, rfl, by decide, Or.inr ⟨⟨"SubflowBundle", wn1 161 rfl rfl⟩, by decide⟩⟩, List.forall_mem_cons.mpr ⟨⟨_, rfl, by decide, Or.inr ⟨⟨"SubflowBundle", wn1 223 rfl rfl⟩, by decide⟩⟩, List.forall_mem_cons.mpr ⟨⟨_, rfl, by decide, Or.inr ⟨⟨"SubflowBundle", wn1 162 rfl rfl⟩, by decide⟩⟩, List.forall_mem_cons.mpr ⟨⟨_, rfl, by decide, Or.inr ⟨⟨"SubflowBundle", wn1 79 rfl rfl⟩, by decide⟩⟩, List.forall_mem_cons.mpr ⟨⟨_, rfl, by decide, Or.inr ⟨⟨"SubflowBundle", wn1 82 rfl rfl⟩, by decide⟩⟩, List.forall_mem_cons.mpr ⟨⟨_, rfl, by decide, Or.inr ⟨⟨"SubflowBundle", wn1 86 rfl rfl⟩, by decide⟩⟩, List.forall_mem_cons.mpr ⟨⟨_, rfl, by decide, Or.inr ⟨⟨"SubflowBundle", wn1 90 rfl rfl⟩, by decide⟩⟩, List.forall_mem_cons.mpr ⟨⟨_, rfl, by decide, Or.inr ⟨⟨"SubflowBundle", wn1 93 rfl rfl⟩, by decide⟩⟩, List.forall_mem_cons.mpr ⟨⟨_, rfl, by decide, Or.inr ⟨⟨"SubflowBundle", wn1 110 rfl rfl⟩, by decide⟩⟩, List.forall_mem_cons.mpr ⟨⟨_, rfl, by decide, Or.inr ⟨⟨"SubflowBundle", wn1 172 rfl rfl⟩, by decide⟩⟩, List.forall_mem_cons.mpr ⟨⟨_, rfl, by decide, Or.inr ⟨⟨"SubflowBundle", wn1 174 rfl rfl⟩, by decide⟩⟩, List.forall_mem_cons.mpr ⟨⟨_, rfl, by decide, Or.inr ⟨⟨"SubflowBundle", wn1 167 rfl rfl⟩, by decide⟩⟩, List.forall_mem_cons.mpr ⟨⟨_, rfl, by decide, Or.inr ⟨⟨"SubflowBundle", wn1 219 rfl rfl⟩, by decide⟩⟩, List.forall_mem_cons.mpr ⟨⟨_, rfl, by decide, Or.inr ⟨⟨"SubflowBundle", wn2 32 rfl rfl⟩, by decide⟩⟩, List.forall_mem_cons.mpr ⟨⟨_, rfl, by decide, Or.inr ⟨⟨"SubflowBundle", wn1 177 rfl rfl⟩, by decide⟩⟩, List.forall_mem_cons.mpr ⟨⟨_, rfl, by decide, Or.inr ⟨⟨"SubflowBundle", wn1 222 rfl rfl⟩, by decide⟩⟩, List.forall_mem_cons.mpr ⟨⟨_, rfl, by decide, Or.inr ⟨⟨"SubflowBundle", wn1 170 rfl rfl⟩, by decide⟩⟩, List.forall_mem_cons.mpr ⟨⟨_, rfl, by decide, Or.inr ⟨⟨"SubflowBundle", wn1 151 rfl rfl⟩, by decide⟩⟩, List.forall_mem_cons.mpr ⟨⟨_, rfl, by decide, Or.inr ⟨⟨"SubflowBundle", wn1 153 rfl rfl⟩, by decide⟩⟩, fun _ h => absurd h List.not_mem_nil⟩⟩⟩⟩⟩⟩⟩⟩⟩⟩⟩⟩⟩⟩⟩⟩⟩⟩⟩⟩⟩⟩⟩⟩⟩
set_option maxRecDepth 20000 in
theorem gF9 : ∀ l, pFx[9]? = some l → ∀ e ∈ l, pgF (pCn.getD 9 "") e := by
  intro l h
  cases Option.some.inj h
  exact List.forall_mem_cons.mpr ⟨⟨_, rfl, by decide, Or.inl (wm3 136 rfl rfl)⟩, List.forall_mem_cons.mpr ⟨⟨_, rfl, by decide, Or.inl (wm3 139 rfl rfl)⟩, List.forall_mem_cons.mpr ⟨⟨_, rfl, by decide, Or.inl (wm3 140 rfl rfl)⟩, List.forall_mem_cons.mpr ⟨⟨_, rfl, by decide, Or.inl (wm3 143 rfl rfl)⟩, List.forall_mem_cons.mpr ⟨⟨_, rfl, by decide, Or.inl (wm3 144 rfl rfl)⟩, List.forall_mem_cons.mpr ⟨⟨_, rfl, by decide, Or.inl (wm3 145 rfl rfl)⟩, List.forall_mem_cons.mpr ⟨⟨_, rfl, by decide, Or.inl (wm3 146 rfl rfl)⟩, List.forall_mem_cons.mpr ⟨⟨_, rfl, by decide, Or.inl (wm3 147 rfl rfl)⟩, List.forall_mem_cons.mpr ⟨⟨_, rfl, by decide, Or.inl (wm3 148 rfl rfl)⟩, List.forall_mem_cons.mpr ⟨⟨_, rfl, by decide, Or.inl (wm3 149 rfl rfl)⟩, List.forall_mem_cons.mpr ⟨⟨_, rfl, by decide, Or.inl (wm3 150 rfl rfl)⟩, List.forall_mem_cons.mpr ⟨⟨_, rfl, by decide, Or.inl (wm3 151 rfl rfl)⟩, List.forall_mem_cons.mpr ⟨⟨_, rfl, by decide, Or.inl (wm3 152 rfl rfl)⟩, List.forall_mem_cons.mpr ⟨⟨_, rfl, by decide, Or.inl (wm3 153 rfl rfl)⟩, List.forall_mem_cons.mpr ⟨⟨_, rfl, by decide, Or.inl (wm3 158 rfl rfl)⟩, List.forall_mem_cons.mpr ⟨⟨_, rfl, by decide, Or.inl (wm3 159 rfl rfl)⟩, List.forall_mem_cons.mpr ⟨⟨_, rfl, by decide, Or.inl (wm3 160 rfl rfl)⟩, List.forall_mem_cons.mpr ⟨⟨_, rfl, by decide, Or.inl (wm3 161 rfl rfl)⟩, List.forall_mem_cons.mpr ⟨⟨_, rfl, by decide, Or.inl (wm3 162 rfl rfl)⟩, List.forall_mem_cons.mpr ⟨⟨_, rfl, by decide, Or.inl (wm3 163 rfl rfl)⟩, List.forall_mem_cons.mpr ⟨⟨_, rfl, by decide, Or.inl (wm3 164 rfl rfl)⟩, List.forall_mem_cons.mpr ⟨⟨_, rfl, by decide, Or.inl (wm3 165 rfl rfl)⟩, List.forall_mem_cons.mpr ⟨⟨_, rfl, by decide, Or.inl (wm3 166 rfl rfl)⟩, List.forall_mem_cons.mpr ⟨⟨_, rfl, by decide, Or.inl (wm3 167 rfl rfl)⟩, List.forall_mem_cons.mpr ⟨⟨_, rfl, by decide, Or.inl (wm3 168 rfl rfl)⟩, List.forall_mem_cons.mpr ⟨⟨_, rfl, by decide, Or.inl (wm3 169 rfl rfl)⟩, List.forall_mem_cons.mpr ⟨⟨_, rfl, by decide, Or.inl (wm3 170 rfl rfl)⟩, List.forall_mem_cons.mpr ⟨⟨_, rfl, by decide, Or.inl (wm3 132 rfl rfl)⟩, List.forall_mem_cons.mpr ⟨⟨_, rfl, by decide, Or.inl (wm3 133 rfl rfl)⟩, List.forall_mem_cons.mpr ⟨⟨_, rfl, by decide, Or.inl (wm3 134 rfl rfl)⟩, List.forall_mem_cons.mpr ⟨⟨_, rfl, by decide, Or.inl (wm3 155 rfl rfl)⟩, List.forall_mem_cons.mpr ⟨⟨_, rfl, by decide, Or.inl (wm3 135 rfl rfl)⟩, List.forall_mem_cons.mpr ⟨⟨_, rfl, by decide, Or.inl (wm3 138 rfl rfl)⟩, List.forall_mem_cons.mpr ⟨⟨_, rfl, by decide, Or.inl (wm3 137 rfl rfl)⟩, List.forall_mem_cons.mpr ⟨⟨_, rfl, by decide, Or.inl (wm3 157 rfl rfl)⟩, List.forall_mem_cons.mpr ⟨⟨_, rfl, by decide, Or.inl (wm3 156 rfl rfl)⟩, List.forall_mem_cons.mpr ⟨⟨_, rfl, by decide, Or.inl (wm3 142 rfl rfl)⟩, List.forall_mem_cons.mpr ⟨⟨_, rfl, by decide, Or.inl (wm3 141 rfl rfl)⟩, List.forall_mem_cons.mpr ⟨⟨_, rfl, by decide, Or.inl (wm3 154 rfl rfl)⟩, fun _ h => absurd h List.not_mem_nil⟩⟩⟩⟩⟩⟩⟩⟩⟩⟩⟩⟩⟩⟩⟩⟩⟩⟩⟩⟩⟩⟩⟩⟩⟩⟩⟩⟩⟩⟩⟩⟩⟩⟩⟩⟩⟩⟩⟩
set_option maxRecDepth 20000 in
theorem gF10 : ∀ l, pFx[10]? = some l → ∀ e ∈ l, pgF (pCn.getD 10 "") e := by
  intro l h
  cases Option.some.inj h
  exact fun _ h => absurd h List.not_mem_nil
set_option maxRecDepth 20000 in
theorem gF11 : ∀ l, pFx[11]? = some l → ∀ e ∈ l, pgF (pCn.getD 11 "") e := by
  intro l h
  cases Option.some.inj h
  exact fun _ h => absurd h List.not_mem_nil
theorem gFall (q : Nat) : ∀ l, pFx[q]? = some l → ∀ e ∈ l, pgF (pCn.getD q "") e := by
  match q with
  | 0 => exact gF0
  | 1 => exact gF1
  | 2 => exact gF2
  | 3 => exact gF3
  | 4 => exact gF4
  | 5 => exact gF5
  | 6 => exact gF6
  | 7 => exact gF7
  | 8 => exact gF8
  | 9 => exact gF9
  | 10 => exact gF10
  | 11 => exact gF11
  | n + 12 => intro l h; cases h
theorem nkF : pk_F pP pWs pNs := by
  intro y idx ci k h
  obtain ⟨l, hl, hm⟩ := pq_mem (show pq pFx (pp_own pP y) idx = _ from h)
  have g := gFall _ l hl _ hm
  rcases pcls y with e | e
  · rw [e] at hl
    cases hl
  · rw [e]
    obtain ⟨r, h1, h2, h3⟩ := g
    exact ⟨r, h1, h2, h3.elim Or.inl (fun q => Or.inr q.1)⟩
def pgM (c : String) (e : Nat × Nat × Nat × Nat × Nat) : Prop := (e.2.2.2.1 = 6 ∧ Cond.methodLink c e.1 Lib.objectInit ∈ pWs ∧ Cond.instanceMethod Lib.objectInit ∈ pWs ∧ Cond.code Lib.objectInit ⟨#[0xb1]⟩ 1 none ∈ pWs) ∨ (6 < e.2.2.2.1 ∧ pk_math pWs c e.1 e.2.2.2.1) ∨ pk_link pP pWs pNs c e.1 e.2.1 e.2.2.1 e.2.2.2.1 e.2.2.2.2
set_option maxRecDepth 20000 in
theorem gM0 : ∀ l, pMx[0]? = some l → ∀ e ∈ l, pgM (pCn.getD 0 "") e := by
  intro l h
  cases Option.some.inj h
  exact List.forall_mem_cons.mpr ⟨Or.inl ⟨rfl, wm2 17 rfl rfl, wm1 19 rfl rfl, wm1 20 rfl rfl⟩, fun _ h => absurd h List.not_mem_nil⟩
set_option maxRecDepth 20000 in
theorem gM1 : ∀ l, pMx[1]? = some l → ∀ e ∈ l, pgM (pCn.getD 1 "") e := by
  intro l h
  cases Option.some.inj h
  exact List.forall_mem_cons.mpr ⟨Or.inl ⟨rfl, wm1 75 rfl rfl, wm1 19 rfl rfl, wm1 20 rfl rfl⟩, fun _ h => absurd h List.not_mem_nil⟩
set_option maxRecDepth 20000 in
theorem gM2 : ∀ l, pMx[2]? = some l → ∀ e ∈ l, pgM (pCn.getD 2 "") e := by
  intro l h
  cases Option.some.inj h
  exact List.forall_mem_cons.mpr ⟨Or.inl ⟨rfl, wm1 212 rfl rfl, wm1 19 rfl rfl, wm1 20 rfl rfl⟩, List.forall_mem_cons.mpr ⟨Or.inr (Or.inr ⟨⟨3, rfl, by decide +kernel⟩, wm2 86 rfl rfl, wm2 87 rfl rfl, wm2 88 rfl rfl, _, rfl, rfl⟩), List.forall_mem_cons.mpr ⟨Or.inr (Or.inr ⟨⟨3, rfl, by decide +kernel⟩, wm2 98 rfl rfl, wm2 100 rfl rfl, wmS 1 rfl rfl, _, rfl, rfl⟩), List.forall_mem_cons.mpr ⟨Or.inr (Or.inr ⟨⟨0, rfl, by decide +kernel⟩, wm2 226 rfl rfl, wm2 135 rfl rfl, wm2 136 rfl rfl, _, rfl, rfl⟩), List.forall_mem_cons.mpr ⟨Or.inr (Or.inl ⟨by decide, wm1 2 rfl rfl, wm2 227 rfl rfl, wm1 28 rfl rfl, wm1 29 rfl rfl⟩), List.forall_mem_cons.mpr ⟨Or.inr (Or.inr ⟨⟨2, rfl, by decide +kernel⟩, wm2 228 rfl rfl, wm2 230 rfl rfl, wmS 10 rfl rfl, _, rfl, rfl⟩), List.forall_mem_cons.mpr ⟨Or.inr (Or.inr ⟨⟨1, rfl, by decide +kernel⟩, wm2 236 rfl rfl, wm2 237 rfl rfl, wm2 238 rfl rfl, _, rfl, rfl⟩), List.forall_mem_cons.mpr ⟨Or.inr (Or.inr ⟨⟨1, rfl, by decide +kernel⟩, wm2 232 rfl rfl, wm2 233 rfl rfl, wm2 234 rfl rfl, _, rfl, rfl⟩), List.forall_mem_cons.mpr ⟨Or.inr (Or.inl ⟨by decide, wm1 2 rfl rfl, wm3 8 rfl rfl, wm1 25 rfl rfl, wm1 26 rfl rfl⟩), List.forall_mem_cons.mpr ⟨Or.inr (Or.inr ⟨⟨3, rfl, by decide +kernel⟩, wm2 102 rfl rfl, wm2 104 rfl rfl, wmS 2 rfl rfl, _, rfl, rfl⟩), List.forall_mem_cons.mpr ⟨Or.inr (Or.inr ⟨⟨0, rfl, by decide +kernel⟩, wm3 13 rfl rfl, wm3 15 rfl rfl, wmS 11 rfl rfl, _, rfl, rfl⟩), List.forall_mem_cons.mpr ⟨Or.inr (Or.inr ⟨⟨1, rfl, by decide +kernel⟩, wm3 17 rfl rfl, wm3 19 rfl rfl, wmS 12 rfl rfl, _, rfl, rfl⟩), List.forall_mem_cons.mpr ⟨Or.inr (Or.inr ⟨⟨1, rfl, by decide +kernel⟩, wm3 38 rfl rfl, wm3 40 rfl rfl, wmS 15 rfl rfl, _, rfl, rfl⟩), List.forall_mem_cons.mpr ⟨Or.inr (Or.inr ⟨⟨0, rfl, by decide +kernel⟩, wm3 21 rfl rfl, wm2 91 rfl rfl, wm2 92 rfl rfl, _, rfl, rfl⟩), List.forall_mem_cons.mpr ⟨Or.inr (Or.inr ⟨⟨1, rfl, by decide +kernel⟩, wm3 22 rfl rfl, wm3 23 rfl rfl, wm3 24 rfl rfl, _, rfl, rfl⟩), List.forall_mem_cons.mpr ⟨Or.inr (Or.inr ⟨⟨1, rfl, by decide +kernel⟩, wm3 26 rfl rfl, wm3 28 rfl rfl, wmS 13 rfl rfl, _, rfl, rfl⟩), List.forall_mem_cons.mpr ⟨Or.inr (Or.inr ⟨⟨2, rfl, by decide +kernel⟩, wm3 30 rfl rfl, wm3 32 rfl rfl, wmS 14 rfl rfl, _, rfl, rfl⟩), List.forall_mem_cons.mpr ⟨Or.inr (Or.inr ⟨⟨1, rfl, by decide +kernel⟩, wm3 34 rfl rfl, wm3 35 rfl rfl, wm3 36 rfl rfl, _, rfl, rfl⟩), List.forall_mem_cons.mpr ⟨Or.inr (Or.inr ⟨⟨2, rfl, by decide +kernel⟩, wm3 42 rfl rfl, wm3 44 rfl rfl, wmS 16 rfl rfl, _, rfl, rfl⟩), List.forall_mem_cons.mpr ⟨Or.inr (Or.inr ⟨⟨2, rfl, by decide +kernel⟩, wm2 106 rfl rfl, wm2 107 rfl rfl, wm2 108 rfl rfl, _, rfl, rfl⟩), List.forall_mem_cons.mpr ⟨Or.inr (Or.inr ⟨⟨5, rfl, by decide +kernel⟩, wm2 118 rfl rfl, wm2 119 rfl rfl, wm2 120 rfl rfl, _, rfl, rfl⟩), List.forall_mem_cons.mpr ⟨Or.inr (Or.inr ⟨⟨1, rfl, by decide +kernel⟩, wm2 122 rfl rfl, wm2 123 rfl rfl, wm2 124 rfl rfl, _, rfl, rfl⟩), fun _ h => absurd h List.not_mem_nil⟩⟩⟩⟩⟩⟩⟩⟩⟩⟩⟩⟩⟩⟩⟩⟩⟩⟩⟩⟩⟩⟩
set_option maxRecDepth 20000 in
theorem gM3 : ∀ l, pMx[3]? = some l → ∀ e ∈ l, pgM (pCn.getD 3 "") e := by
  intro l h
  cases Option.some.inj h
  exact List.forall_mem_cons.mpr ⟨Or.inl ⟨rfl, wm2 10 rfl rfl, wm1 19 rfl rfl, wm1 20 rfl rfl⟩, List.forall_mem_cons.mpr ⟨Or.inr (Or.inr ⟨⟨0, rfl, by decide +kernel⟩, ⟨"SubflowBundle", wn2 14 rfl rfl⟩, wm2 15 rfl rfl, rfl, rfl⟩), List.forall_mem_cons.mpr ⟨Or.inr (Or.inr ⟨⟨2, rfl, by decide +kernel⟩, wm2 196 rfl rfl, wm2 198 rfl rfl, wmS 6 rfl rfl, _, rfl, rfl⟩), List.forall_mem_cons.mpr ⟨Or.inr (Or.inr ⟨⟨4, rfl, by decide +kernel⟩, wm2 212 rfl rfl, wm2 214 rfl rfl, wmS 8 rfl rfl, _, rfl, rfl⟩), List.forall_mem_cons.mpr ⟨Or.inr (Or.inr ⟨⟨2, rfl, by decide +kernel⟩, wm2 208 rfl rfl, wm2 209 rfl rfl, wm2 210 rfl rfl, _, rfl, rfl⟩), List.forall_mem_cons.mpr ⟨Or.inr (Or.inr ⟨⟨1, rfl, by decide +kernel⟩, wm2 200 rfl rfl, wm2 201 rfl rfl, wm2 202 rfl rfl, _, rfl, rfl⟩), List.forall_mem_cons.mpr ⟨Or.inr (Or.inr ⟨⟨0, rfl, by decide +kernel⟩, wm2 204 rfl rfl, wm2 206 rfl rfl, wmS 7 rfl rfl, _, rfl, rfl⟩), List.forall_mem_cons.mpr ⟨Or.inr (Or.inr ⟨⟨2, rfl, by decide +kernel⟩, wm2 216 rfl rfl, wm2 107 rfl rfl, wm2 108 rfl rfl, _, rfl, rfl⟩), List.forall_mem_cons.mpr ⟨Or.inr (Or.inr ⟨⟨5, rfl, by decide +kernel⟩, wm2 217 rfl rfl, wm2 119 rfl rfl, wm2 120 rfl rfl, _, rfl, rfl⟩), List.forall_mem_cons.mpr ⟨Or.inr (Or.inr ⟨⟨1, rfl, by decide +kernel⟩, wm2 167 rfl rfl, wm2 123 rfl rfl, wm2 124 rfl rfl, _, rfl, rfl⟩), fun _ h => absurd h List.not_mem_nil⟩⟩⟩⟩⟩⟩⟩⟩⟩⟩
set_option maxRecDepth 20000 in
theorem gM4 : ∀ l, pMx[4]? = some l → ∀ e ∈ l, pgM (pCn.getD 4 "") e := by
  intro l h
  cases Option.some.inj h
  exact List.forall_mem_cons.mpr ⟨Or.inl ⟨rfl, wm1 62 rfl rfl, wm1 19 rfl rfl, wm1 20 rfl rfl⟩, List.forall_mem_cons.mpr ⟨Or.inr (Or.inr ⟨⟨0, rfl, by decide +kernel⟩, wm1 65 rfl rfl, wm1 66 rfl rfl, rfl, rfl⟩), List.forall_mem_cons.mpr ⟨Or.inr (Or.inr ⟨⟨0, rfl, by decide +kernel⟩, ⟨"SubflowBundle", wn1 119 rfl rfl⟩, wm1 120 rfl rfl, rfl, rfl⟩), List.forall_mem_cons.mpr ⟨Or.inr (Or.inr ⟨⟨1, rfl, by decide +kernel⟩, wm2 110 rfl rfl, wm2 111 rfl rfl, wm2 112 rfl rfl, _, rfl, rfl⟩), List.forall_mem_cons.mpr ⟨Or.inr (Or.inr ⟨⟨1, rfl, by decide +kernel⟩, wm2 114 rfl rfl, wm2 115 rfl rfl, wm2 116 rfl rfl, _, rfl, rfl⟩), List.forall_mem_cons.mpr ⟨Or.inr (Or.inr ⟨⟨0, rfl, by decide +kernel⟩, wm2 90 rfl rfl, wm2 91 rfl rfl, wm2 92 rfl rfl, _, rfl, rfl⟩), List.forall_mem_cons.mpr ⟨Or.inr (Or.inr ⟨⟨4, rfl, by decide +kernel⟩, wm2 94 rfl rfl, wm2 95 rfl rfl, wm2 96 rfl rfl, _, rfl, rfl⟩), List.forall_mem_cons.mpr ⟨Or.inr (Or.inl ⟨by decide, wm1 2 rfl rfl, wm3 0 rfl rfl, wm3 1 rfl rfl, wm3 2 rfl rfl⟩), List.forall_mem_cons.mpr ⟨Or.inr (Or.inr ⟨by decide +kernel, ⟨"SubflowBundle", wn3 3 rfl rfl⟩, wm1 22 rfl rfl⟩), List.forall_mem_cons.mpr ⟨Or.inr (Or.inr ⟨⟨0, rfl, by decide +kernel⟩, wm2 138 rfl rfl, wm2 139 rfl rfl, wm2 140 rfl rfl, _, rfl, rfl⟩), fun _ h => absurd h List.not_mem_nil⟩⟩⟩⟩⟩⟩⟩⟩⟩⟩
set_option maxRecDepth 20000 in
theorem gM5 : ∀ l, pMx[5]? = some l → ∀ e ∈ l, pgM (pCn.getD 5 "") e := by
  intro l h
  cases Option.some.inj h
  exact List.forall_mem_cons.mpr ⟨Or.inl ⟨rfl, wm1 68 rfl rfl, wm1 19 rfl rfl, wm1 20 rfl rfl⟩, List.forall_mem_cons.mpr ⟨Or.inr (Or.inr ⟨⟨0, rfl, by decide +kernel⟩, ⟨"SubflowBundle", wn1 72 rfl rfl⟩, wm1 73 rfl rfl, rfl, rfl⟩), List.forall_mem_cons.mpr ⟨Or.inr (Or.inr ⟨⟨1, rfl, by decide +kernel⟩, wm2 188 rfl rfl, wm2 189 rfl rfl, wm2 190 rfl rfl, _, rfl, rfl⟩), List.forall_mem_cons.mpr ⟨Or.inr (Or.inr ⟨⟨1, rfl, by decide +kernel⟩, wm2 184 rfl rfl, wm2 185 rfl rfl, wm2 186 rfl rfl, _, rfl, rfl⟩), fun _ h => absurd h List.not_mem_nil⟩⟩⟩⟩
set_option maxRecDepth 20000 in
theorem gM6 : ∀ l, pMx[6]? = some l → ∀ e ∈ l, pgM (pCn.getD 6 "") e := by
  intro l h
  cases Option.some.inj h
  exact List.forall_mem_cons.mpr ⟨Or.inl ⟨rfl, wm1 122 rfl rfl, wm1 19 rfl rfl, wm1 20 rfl rfl⟩, fun _ h => absurd h List.not_mem_nil⟩
set_option maxRecDepth 20000 in
theorem gM7 : ∀ l, pMx[7]? = some l → ∀ e ∈ l, pgM (pCn.getD 7 "") e := by
  intro l h
  cases Option.some.inj h
  exact List.forall_mem_cons.mpr ⟨Or.inl ⟨rfl, wm1 43 rfl rfl, wm1 19 rfl rfl, wm1 20 rfl rfl⟩, List.forall_mem_cons.mpr ⟨Or.inr (Or.inl ⟨by decide, wm1 2 rfl rfl, wm2 150 rfl rfl, wm1 25 rfl rfl, wm1 26 rfl rfl⟩), fun _ h => absurd h List.not_mem_nil⟩⟩
set_option maxRecDepth 20000 in
theorem gM8 : ∀ l, pMx[8]? = some l → ∀ e ∈ l, pgM (pCn.getD 8 "") e := by
  intro l h
  cases Option.some.inj h
  exact List.forall_mem_cons.mpr ⟨Or.inl ⟨rfl, wm1 18 rfl rfl, wm1 19 rfl rfl, wm1 20 rfl rfl⟩, List.forall_mem_cons.mpr ⟨Or.inr (Or.inr ⟨by decide +kernel, wm1 21 rfl rfl, wm1 22 rfl rfl⟩), List.forall_mem_cons.mpr ⟨Or.inr (Or.inr ⟨by decide +kernel, wm1 30 rfl rfl, wm1 31 rfl rfl⟩), List.forall_mem_cons.mpr ⟨Or.inr (Or.inr ⟨⟨0, rfl, by decide +kernel⟩, ⟨"SubflowBundle", wn1 40 rfl rfl⟩, wm1 41 rfl rfl, rfl, rfl⟩), List.forall_mem_cons.mpr ⟨Or.inr (Or.inr ⟨⟨0, rfl, by decide +kernel⟩, wm1 59 rfl rfl, wm1 60 rfl rfl, rfl, rfl⟩), List.forall_mem_cons.mpr ⟨Or.inr (Or.inr ⟨⟨4, rfl, by decide +kernel⟩, wm1 209 rfl rfl, wm1 210 rfl rfl, rfl, rfl⟩), List.forall_mem_cons.mpr ⟨Or.inr (Or.inr ⟨⟨3, rfl, by decide +kernel⟩, wm2 7 rfl rfl, wm2 8 rfl rfl, rfl, rfl⟩), List.forall_mem_cons.mpr ⟨Or.inr (Or.inr ⟨by decide +kernel, wm2 75 rfl rfl, wm2 76 rfl rfl⟩), List.forall_mem_cons.mpr ⟨Or.inr (Or.inr ⟨⟨1, rfl, by decide +kernel⟩, wm2 78 rfl rfl, wm2 80 rfl rfl, wmS 0 rfl rfl, _, rfl, rfl⟩), List.forall_mem_cons.mpr ⟨Or.inr (Or.inr ⟨⟨3, rfl, by decide +kernel⟩, wm2 82 rfl rfl, wm2 83 rfl rfl, wm2 84 rfl rfl, _, rfl, rfl⟩), List.forall_mem_cons.mpr ⟨Or.inr (Or.inr ⟨⟨1, rfl, by decide +kernel⟩, wm2 130 rfl rfl, wm2 132 rfl rfl, wmS 3 rfl rfl, _, rfl, rfl⟩), List.forall_mem_cons.mpr ⟨Or.inr (Or.inr ⟨⟨0, rfl, by decide +kernel⟩, wm2 134 rfl rfl, wm2 135 rfl rfl, wm2 136 rfl rfl, _, rfl, rfl⟩), List.forall_mem_cons.mpr ⟨Or.inr (Or.inr ⟨⟨2, rfl, by decide +kernel⟩, wm2 146 rfl rfl, wm2 147 rfl rfl, wm2 148 rfl rfl, _, rfl, rfl⟩), List.forall_mem_cons.mpr ⟨Or.inr (Or.inr ⟨⟨0, rfl, by decide +kernel⟩, wm2 155 rfl rfl, wm2 156 rfl rfl, wm2 157 rfl rfl, _, rfl, rfl⟩), List.forall_mem_cons.mpr ⟨Or.inr (Or.inr ⟨⟨0, rfl, by decide +kernel⟩, wm2 163 rfl rfl, wm2 164 rfl rfl, wm2 165 rfl rfl, _, rfl, rfl⟩), List.forall_mem_cons.mpr ⟨Or.inr (Or.inr ⟨⟨0, rfl, by decide +kernel⟩, wm2 172 rfl rfl, wm2 174 rfl rfl, wmS 4 rfl rfl, _, rfl, rfl⟩), List.forall_mem_cons.mpr ⟨Or.inr (Or.inr ⟨⟨1, rfl, by decide +kernel⟩, wm3 54 rfl rfl, wm2 111 rfl rfl, wm2 112 rfl rfl, _, rfl, rfl⟩), List.forall_mem_cons.mpr ⟨Or.inr (Or.inr ⟨⟨1, rfl, by decide +kernel⟩, wm3 55 rfl rfl, wm2 185 rfl rfl, wm2 186 rfl rfl, _, rfl, rfl⟩), List.forall_mem_cons.mpr ⟨Or.inr (Or.inr ⟨⟨1, rfl, by decide +kernel⟩, wm3 60 rfl rfl, wm2 189 rfl rfl, wm2 190 rfl rfl, _, rfl, rfl⟩), List.forall_mem_cons.mpr ⟨Or.inr (Or.inr ⟨⟨1, rfl, by decide +kernel⟩, wm3 61 rfl rfl, wm2 115 rfl rfl, wm2 116 rfl rfl, _, rfl, rfl⟩), List.forall_mem_cons.mpr ⟨Or.inr (Or.inr ⟨⟨5, rfl, by decide +kernel⟩, wm3 62 rfl rfl, wm2 119 rfl rfl, wm2 120 rfl rfl, _, rfl, rfl⟩), List.forall_mem_cons.mpr ⟨Or.inr (Or.inr ⟨⟨2, rfl, by decide +kernel⟩, wm3 71 rfl rfl, wm3 73 rfl rfl, wmS 17 rfl rfl, _, rfl, rfl⟩), List.forall_mem_cons.mpr ⟨Or.inr (Or.inr ⟨⟨0, rfl, by decide +kernel⟩, wm3 97 rfl rfl, wm3 98 rfl rfl, wm3 99 rfl rfl, _, rfl, rfl⟩), List.forall_mem_cons.mpr ⟨Or.inr (Or.inl ⟨by decide, wm1 2 rfl rfl, wm1 24 rfl rfl, wm1 25 rfl rfl, wm1 26 rfl rfl⟩), List.forall_mem_cons.mpr ⟨Or.inr (Or.inl ⟨by decide, wm1 2 rfl rfl, wm1 27 rfl rfl, wm1 28 rfl rfl, wm1 29 rfl rfl⟩), List.forall_mem_cons.mpr ⟨Or.inr (Or.inr ⟨by decide +kernel, wm1 33 rfl rfl, wm1 34 rfl rfl⟩), List.forall_mem_cons.mpr ⟨Or.inr (Or.inr ⟨⟨1, rfl, by decide +kernel⟩, wm2 176 rfl rfl, wm2 178 rfl rfl, wmS 5 rfl rfl, _, rfl, rfl⟩), List.forall_mem_cons.mpr ⟨Or.inr (Or.inr ⟨⟨1, rfl, by decide +kernel⟩, wm2 218 rfl rfl, wm2 220 rfl rfl, wmS 9 rfl rfl, _, rfl, rfl⟩), List.forall_mem_cons.mpr ⟨Or.inr (Or.inr ⟨⟨2, rfl, by decide +kernel⟩, wm3 4 rfl rfl, wm3 5 rfl rfl, wm3 6 rfl rfl, _, rfl, rfl⟩), List.forall_mem_cons.mpr ⟨Or.inr (Or.inr ⟨⟨1, rfl, by decide +kernel⟩, wm3 9 rfl rfl, wm3 10 rfl rfl, wm3 11 rfl rfl, _, rfl, rfl⟩), List.forall_mem_cons.mpr ⟨Or.inr (Or.inr ⟨⟨1, rfl, by decide +kernel⟩, wm2 180 rfl rfl, wm2 181 rfl rfl, wm2 182 rfl rfl, _, rfl, rfl⟩), List.forall_mem_cons.mpr ⟨Or.inr (Or.inr ⟨⟨4, rfl, by decide +kernel⟩, wm2 192 rfl rfl, wm2 193 rfl rfl, wm2 194 rfl rfl, _, rfl, rfl⟩), List.forall_mem_cons.mpr ⟨Or.inr (Or.inr ⟨⟨3, rfl, by decide +kernel⟩, wm2 222 rfl rfl, wm2 223 rfl rfl, wm2 224 rfl rfl, _, rfl, rfl⟩), List.forall_mem_cons.mpr ⟨Or.inr (Or.inr ⟨by decide +kernel, wm3 75 rfl rfl, wm3 76 rfl rfl⟩), List.forall_mem_cons.mpr ⟨Or.inr (Or.inr ⟨⟨1, rfl, by decide +kernel⟩, wm3 79 rfl rfl, wm2 123 rfl rfl, wm2 124 rfl rfl, _, rfl, rfl⟩), fun _ h => absurd h List.not_mem_nil⟩⟩⟩⟩⟩⟩⟩⟩⟩⟩⟩⟩⟩⟩⟩⟩⟩⟩⟩⟩⟩⟩⟩⟩⟩⟩⟩⟩⟩⟩⟩⟩⟩⟩⟩
set_option maxRecDepth 20000 in
theorem gM9 : ∀ l, pMx[9]? = some l → ∀ e ∈ l, pgM (pCn.getD 9 "") e := by
  intro l h
  cases Option.some.inj h
  exact List.forall_mem_cons.mpr ⟨Or.inl ⟨rfl, wm3 129 rfl rfl, wm1 19 rfl rfl, wm1 20 rfl rfl⟩, List.forall_mem_cons.mpr ⟨Or.inr (Or.inr ⟨⟨7, rfl, by decide +kernel⟩, wm4 29 rfl rfl, wm4 31 rfl rfl, wmS 21 rfl rfl, _, rfl, rfl⟩), List.forall_mem_cons.mpr ⟨Or.inr (Or.inr ⟨by decide +kernel, wm4 14 rfl rfl, wm4 15 rfl rfl⟩), List.forall_mem_cons.mpr ⟨Or.inr (Or.inr ⟨⟨6, rfl, by decide +kernel⟩, wm4 25 rfl rfl, wm4 27 rfl rfl, wmS 20 rfl rfl, _, rfl, rfl⟩), List.forall_mem_cons.mpr ⟨Or.inr (Or.inr ⟨⟨3, rfl, by decide +kernel⟩, wm4 17 rfl rfl, wm4 19 rfl rfl, wmS 18 rfl rfl, _, rfl, rfl⟩), List.forall_mem_cons.mpr ⟨Or.inr (Or.inr ⟨⟨2, rfl, by decide +kernel⟩, wm4 21 rfl rfl, wm4 23 rfl rfl, wmS 19 rfl rfl, _, rfl, rfl⟩), List.forall_mem_cons.mpr ⟨Or.inr (Or.inr ⟨⟨1, rfl, by decide +kernel⟩, wm4 37 rfl rfl, wm4 39 rfl rfl, wmS 22 rfl rfl, _, rfl, rfl⟩), List.forall_mem_cons.mpr ⟨Or.inr (Or.inr ⟨⟨1, rfl, by decide +kernel⟩, wm4 57 rfl rfl, wm4 59 rfl rfl, wmS 23 rfl rfl, _, rfl, rfl⟩), List.forall_mem_cons.mpr ⟨Or.inr (Or.inr ⟨⟨1, rfl, by decide +kernel⟩, wm4 81 rfl rfl, wm4 83 rfl rfl, wmS 28 rfl rfl, _, rfl, rfl⟩), List.forall_mem_cons.mpr ⟨Or.inr (Or.inr ⟨⟨0, rfl, by decide +kernel⟩, wm4 85 rfl rfl, wm4 87 rfl rfl, wmS 29 rfl rfl, _, rfl, rfl⟩), List.forall_mem_cons.mpr ⟨Or.inr (Or.inr ⟨⟨2, rfl, by decide +kernel⟩, wm4 61 rfl rfl, wm4 63 rfl rfl, wmS 24 rfl rfl, _, rfl, rfl⟩), List.forall_mem_cons.mpr ⟨Or.inr (Or.inr ⟨⟨5, rfl, by decide +kernel⟩, wm4 65 rfl rfl, wm4 67 rfl rfl, wmS 25 rfl rfl, _, rfl, rfl⟩), List.forall_mem_cons.mpr ⟨Or.inr (Or.inr ⟨⟨5, rfl, by decide +kernel⟩, wm4 73 rfl rfl, wm4 75 rfl rfl, wmS 26 rfl rfl, _, rfl, rfl⟩), List.forall_mem_cons.mpr ⟨Or.inr (Or.inr ⟨⟨0, rfl, by decide +kernel⟩, wm4 69 rfl rfl, wm4 70 rfl rfl, wm4 71 rfl rfl, _, rfl, rfl⟩), List.forall_mem_cons.mpr ⟨Or.inr (Or.inr ⟨⟨2, rfl, by decide +kernel⟩, wm4 77 rfl rfl, wm4 79 rfl rfl, wmS 27 rfl rfl, _, rfl, rfl⟩), List.forall_mem_cons.mpr ⟨Or.inr (Or.inr ⟨⟨0, rfl, by decide +kernel⟩, wm4 97 rfl rfl, wm4 99 rfl rfl, wmS 32 rfl rfl, _, rfl, rfl⟩), List.forall_mem_cons.mpr ⟨Or.inr (Or.inr ⟨⟨1, rfl, by decide +kernel⟩, wm4 89 rfl rfl, wm4 91 rfl rfl, wmS 30 rfl rfl, _, rfl, rfl⟩), List.forall_mem_cons.mpr ⟨Or.inr (Or.inr ⟨⟨1, rfl, by decide +kernel⟩, wm4 93 rfl rfl, wm4 95 rfl rfl, wmS 31 rfl rfl, _, rfl, rfl⟩), List.forall_mem_cons.mpr ⟨Or.inr (Or.inr ⟨⟨2, rfl, by decide +kernel⟩, wm4 101 rfl rfl, wm4 103 rfl rfl, wmS 33 rfl rfl, _, rfl, rfl⟩), List.forall_mem_cons.mpr ⟨Or.inr (Or.inr ⟨⟨3, rfl, by decide +kernel⟩, wm4 113 rfl rfl, wm4 115 rfl rfl, wmS 34 rfl rfl, _, rfl, rfl⟩), List.forall_mem_cons.mpr ⟨Or.inr (Or.inr ⟨⟨2, rfl, by decide +kernel⟩, wm4 129 rfl rfl, wm4 131 rfl rfl, wmS 35 rfl rfl, _, rfl, rfl⟩), fun _ h => absurd h List.not_mem_nil⟩⟩⟩⟩⟩⟩⟩⟩⟩⟩⟩⟩⟩⟩⟩⟩⟩⟩⟩⟩⟩
set_option maxRecDepth 20000 in
theorem gM10 : ∀ l, pMx[10]? = some l → ∀ e ∈ l, pgM (pCn.getD 10 "") e := by
  intro l h
  cases Option.some.inj h
  exact List.forall_mem_cons.mpr ⟨Or.inr (Or.inr ⟨by decide +kernel, wm3 121 rfl rfl, wm3 122 rfl rfl⟩), List.forall_mem_cons.mpr ⟨Or.inr (Or.inr ⟨⟨3, rfl, by decide +kernel⟩, wm1 15 rfl rfl, wm1 16 rfl rfl, rfl, rfl⟩), List.forall_mem_cons.mpr ⟨Or.inr (Or.inr ⟨⟨3, rfl, by decide +kernel⟩, wm3 126 rfl rfl, wm3 127 rfl rfl, rfl, rfl⟩), List.forall_mem_cons.mpr ⟨Or.inr (Or.inr ⟨⟨3, rfl, by decide +kernel⟩, wm2 71 rfl rfl, wm2 72 rfl rfl, wm2 73 rfl rfl, _, rfl, rfl⟩), List.forall_mem_cons.mpr ⟨Or.inr (Or.inr ⟨⟨3, rfl, by decide +kernel⟩, wm4 10 rfl rfl, wm4 11 rfl rfl, wm4 12 rfl rfl, _, rfl, rfl⟩), List.forall_mem_cons.mpr ⟨Or.inr (Or.inr ⟨⟨1, rfl, by decide +kernel⟩, wm2 126 rfl rfl, wm2 127 rfl rfl, wm2 128 rfl rfl, _, rfl, rfl⟩), List.forall_mem_cons.mpr ⟨Or.inr (Or.inr ⟨⟨1, rfl, by decide +kernel⟩, wm4 33 rfl rfl, wm4 34 rfl rfl, wm4 35 rfl rfl, _, rfl, rfl⟩), List.forall_mem_cons.mpr ⟨Or.inr (Or.inr ⟨⟨2, rfl, by decide +kernel⟩, wm2 142 rfl rfl, wm2 143 rfl rfl, wm2 144 rfl rfl, _, rfl, rfl⟩), List.forall_mem_cons.mpr ⟨Or.inr (Or.inr ⟨⟨2, rfl, by decide +kernel⟩, wm4 41 rfl rfl, wm4 42 rfl rfl, wm4 43 rfl rfl, _, rfl, rfl⟩), List.forall_mem_cons.mpr ⟨Or.inr (Or.inr ⟨⟨0, rfl, by decide +kernel⟩, wm2 151 rfl rfl, wm2 152 rfl rfl, wm2 153 rfl rfl, _, rfl, rfl⟩), List.forall_mem_cons.mpr ⟨Or.inr (Or.inr ⟨⟨0, rfl, by decide +kernel⟩, wm4 45 rfl rfl, wm4 46 rfl rfl, wm4 47 rfl rfl, _, rfl, rfl⟩), List.forall_mem_cons.mpr ⟨Or.inr (Or.inr ⟨⟨0, rfl, by decide +kernel⟩, wm2 159 rfl rfl, wm2 160 rfl rfl, wm2 161 rfl rfl, _, rfl, rfl⟩), List.forall_mem_cons.mpr ⟨Or.inr (Or.inr ⟨⟨0, rfl, by decide +kernel⟩, wm4 49 rfl rfl, wm4 50 rfl rfl, wm4 51 rfl rfl, _, rfl, rfl⟩), List.forall_mem_cons.mpr ⟨Or.inr (Or.inr ⟨⟨1, rfl, by decide +kernel⟩, wm2 168 rfl rfl, wm2 169 rfl rfl, wm2 170 rfl rfl, _, rfl, rfl⟩), List.forall_mem_cons.mpr ⟨Or.inr (Or.inr ⟨⟨1, rfl, by decide +kernel⟩, wm4 53 rfl rfl, wm4 54 rfl rfl, wm4 55 rfl rfl, _, rfl, rfl⟩), List.forall_mem_cons.mpr ⟨Or.inr (Or.inr ⟨⟨2, rfl, by decide +kernel⟩, wm3 46 rfl rfl, wm3 47 rfl rfl, wm3 48 rfl rfl, _, rfl, rfl⟩), List.forall_mem_cons.mpr ⟨Or.inr (Or.inr ⟨⟨2, rfl, by decide +kernel⟩, wm4 105 rfl rfl, wm4 106 rfl rfl, wm4 107 rfl rfl, _, rfl, rfl⟩), List.forall_mem_cons.mpr ⟨Or.inr (Or.inr ⟨⟨3, rfl, by decide +kernel⟩, wm3 50 rfl rfl, wm3 51 rfl rfl, wm3 52 rfl rfl, _, rfl, rfl⟩), List.forall_mem_cons.mpr ⟨Or.inr (Or.inr ⟨⟨3, rfl, by decide +kernel⟩, wm4 109 rfl rfl, wm4 110 rfl rfl, wm4 111 rfl rfl, _, rfl, rfl⟩), List.forall_mem_cons.mpr ⟨Or.inr (Or.inr ⟨⟨4, rfl, by decide +kernel⟩, wm3 56 rfl rfl, wm3 57 rfl rfl, wm3 58 rfl rfl, _, rfl, rfl⟩), List.forall_mem_cons.mpr ⟨Or.inr (Or.inr ⟨⟨4, rfl, by decide +kernel⟩, wm4 117 rfl rfl, wm4 118 rfl rfl, wm4 119 rfl rfl, _, rfl, rfl⟩), List.forall_mem_cons.mpr ⟨Or.inr (Or.inr ⟨⟨2, rfl, by decide +kernel⟩, wm3 63 rfl rfl, wm3 64 rfl rfl, wm3 65 rfl rfl, _, rfl, rfl⟩), List.forall_mem_cons.mpr ⟨Or.inr (Or.inr ⟨⟨2, rfl, by decide +kernel⟩, wm4 121 rfl rfl, wm4 122 rfl rfl, wm4 123 rfl rfl, _, rfl, rfl⟩), List.forall_mem_cons.mpr ⟨Or.inr (Or.inr ⟨⟨4, rfl, by decide +kernel⟩, wm3 67 rfl rfl, wm3 68 rfl rfl, wm3 69 rfl rfl, _, rfl, rfl⟩), List.forall_mem_cons.mpr ⟨Or.inr (Or.inr ⟨⟨4, rfl, by decide +kernel⟩, wm4 125 rfl rfl, wm4 126 rfl rfl, wm4 127 rfl rfl, _, rfl, rfl⟩), List.forall_mem_cons.mpr ⟨Or.inr (Or.inr ⟨⟨1, rfl, by decide +kernel⟩, wm3 81 rfl rfl, wm3 82 rfl rfl, wm3 83 rfl rfl, _, rfl, rfl⟩), List.forall_mem_cons.mpr ⟨Or.inr (Or.inr ⟨⟨1, rfl, by decide +kernel⟩, wm4 135 rfl rfl, wm4 136 rfl rfl, wm4 137 rfl rfl, _, rfl, rfl⟩), List.forall_mem_cons.mpr ⟨Or.inr (Or.inr ⟨⟨1, rfl, by decide +kernel⟩, wm3 85 rfl rfl, wm3 86 rfl rfl, wm3 87 rfl rfl, _, rfl, rfl⟩), List.forall_mem_cons.mpr ⟨Or.inr (Or.inr ⟨⟨1, rfl, by decide +kernel⟩, wm4 139 rfl rfl, wm4 140 rfl rfl, wm4 141 rfl rfl, _, rfl, rfl⟩), List.forall_mem_cons.mpr ⟨Or.inr (Or.inr ⟨⟨1, rfl, by decide +kernel⟩, wm3 89 rfl rfl, wm3 90 rfl rfl, wm3 91 rfl rfl, _, rfl, rfl⟩), List.forall_mem_cons.mpr ⟨Or.inr (Or.inr ⟨⟨1, rfl, by decide +kernel⟩, wm4 143 rfl rfl, wm4 144 rfl rfl, wm4 145 rfl rfl, _, rfl, rfl⟩), List.forall_mem_cons.mpr ⟨Or.inr (Or.inr ⟨⟨1, rfl, by decide +kernel⟩, wm3 93 rfl rfl, wm3 94 rfl rfl, wm3 95 rfl rfl, _, rfl, rfl⟩), List.forall_mem_cons.mpr ⟨Or.inr (Or.inr ⟨⟨1, rfl, by decide +kernel⟩, wm4 147 rfl rfl, wm4 148 rfl rfl, wm4 149 rfl rfl, _, rfl, rfl⟩), List.forall_mem_cons.mpr ⟨Or.inr (Or.inr ⟨⟨0, rfl, by decide +kernel⟩, wm3 101 rfl rfl, wm3 102 rfl rfl, wm3 103 rfl rfl, _, rfl, rfl⟩), List.forall_mem_cons.mpr ⟨Or.inr (Or.inr ⟨⟨0, rfl, by decide +kernel⟩, wm4 151 rfl rfl, wm4 152 rfl rfl, wm4 153 rfl rfl, _, rfl, rfl⟩), List.forall_mem_cons.mpr ⟨Or.inr (Or.inr ⟨⟨0, rfl, by decide +kernel⟩, wm3 105 rfl rfl, wm3 106 rfl rfl, wm3 107 rfl rfl, _, rfl, rfl⟩), List.forall_mem_cons.mpr ⟨Or.inr (Or.inr ⟨⟨0, rfl, by decide +kernel⟩, wm4 155 rfl rfl, wm4 70 rfl rfl, wm4 71 rfl rfl, _, rfl, rfl⟩), List.forall_mem_cons.mpr ⟨Or.inr (Or.inr ⟨⟨1, rfl, by decide +kernel⟩, wm3 109 rfl rfl, wm3 110 rfl rfl, wm3 111 rfl rfl, _, rfl, rfl⟩), List.forall_mem_cons.mpr ⟨Or.inr (Or.inr ⟨⟨1, rfl, by decide +kernel⟩, wm4 156 rfl rfl, wm4 157 rfl rfl, wm4 158 rfl rfl, _, rfl, rfl⟩), List.forall_mem_cons.mpr ⟨Or.inr (Or.inr ⟨⟨0, rfl, by decide +kernel⟩, wm3 113 rfl rfl, wm3 114 rfl rfl, wm3 115 rfl rfl, _, rfl, rfl⟩), List.forall_mem_cons.mpr ⟨Or.inr (Or.inr ⟨⟨0, rfl, by decide +kernel⟩, wm4 160 rfl rfl, wm4 161 rfl rfl, wm4 162 rfl rfl, _, rfl, rfl⟩), List.forall_mem_cons.mpr ⟨Or.inr (Or.inr ⟨⟨0, rfl, by decide +kernel⟩, wm3 117 rfl rfl, wm3 118 rfl rfl, wm3 119 rfl rfl, _, rfl, rfl⟩), List.forall_mem_cons.mpr ⟨Or.inr (Or.inr ⟨⟨0, rfl, by decide +kernel⟩, wm4 164 rfl rfl, wm4 165 rfl rfl, wm4 166 rfl rfl, _, rfl, rfl⟩), fun _ h => absurd h List.not_mem_nil⟩⟩⟩⟩⟩⟩⟩⟩⟩⟩⟩⟩⟩⟩⟩⟩⟩⟩⟩⟩⟩⟩⟩⟩⟩⟩⟩⟩⟩⟩⟩⟩⟩⟩⟩⟩⟩⟩⟩⟩⟩⟩⟩
set_option maxRecDepth 20000 in
theorem gM11 : ∀ l, pMx[11]? = some l → ∀ e ∈ l, pgM (pCn.getD 11 "") e := by
  intro l h
  cases Option.some.inj h
  exact fun _ h => absurd h List.not_mem_nil
theorem gMall (q : Nat) : ∀ l, pMx[q]? = some l → ∀ e ∈ l, pgM (pCn.getD q "") e := by
  match q with
  | 0 => exact gM0
  | 1 => exact gM1
  | 2 => exact gM2
  | 3 => exact gM3
  | 4 => exact gM4
  | 5 => exact gM5
  | 6 => exact gM6
  | 7 => exact gM7
  | 8 => exact gM8
  | 9 => exact gM9
  | 10 => exact gM10
  | 11 => exact gM11
  | n + 12 => intro l h; cases h
theorem nkM : pk_M pP pWs pNs := by
  intro y idx z n kd ci h
  obtain ⟨l, hl, hm⟩ := pq_mem (show pq pMx (pp_own pP y) idx = _ from h)
  have g := gMall _ l hl _ hm
  rcases pcls y with e | e
  · rw [e] at hl
    cases hl
  · rw [e]
    exact g
def pgZ (z : Nat) : Prop := Cond.code (pp_nm pP z) (pp_by pP z) (pp_ml pP z) (pp_ret pP z) ∈ pWs ∧ Cond.initialized (pp_nm pP z).cls ∈ pWs ∧ (pp_nm pP z).cls ≠ "java/lang/invoke/MethodHandle" ∧ (pp_nm pP z).cls ≠ "java/lang/invoke/VarHandle" ∧ plainName (pp_nm pP z).cls = true
theorem gZ0 : pgZ 0 := ⟨wm1 17 rfl rfl, wm1 1 rfl rfl, by decide +kernel, by decide +kernel, by decide +kernel⟩
theorem gZ1 : pgZ 1 := ⟨wm1 23 rfl rfl, wm1 1 rfl rfl, by decide +kernel, by decide +kernel, by decide +kernel⟩
theorem gZ2 : pgZ 2 := ⟨wm1 32 rfl rfl, wm1 1 rfl rfl, by decide +kernel, by decide +kernel, by decide +kernel⟩
theorem gZ3 : pgZ 3 := ⟨wm1 35 rfl rfl, wm1 3 rfl rfl, by decide +kernel, by decide +kernel, by decide +kernel⟩
theorem gZ4 : pgZ 4 := ⟨wm1 42 rfl rfl, wm1 4 rfl rfl, by decide +kernel, by decide +kernel, by decide +kernel⟩
theorem gZ5 : pgZ 5 := ⟨wm1 61 rfl rfl, wm1 5 rfl rfl, by decide +kernel, by decide +kernel, by decide +kernel⟩
theorem gZ6 : pgZ 6 := ⟨wm1 67 rfl rfl, wm1 6 rfl rfl, by decide +kernel, by decide +kernel, by decide +kernel⟩
theorem gZ7 : pgZ 7 := ⟨wm1 74 rfl rfl, wm1 7 rfl rfl, by decide +kernel, by decide +kernel, by decide +kernel⟩
theorem gZ8 : pgZ 8 := ⟨wm1 121 rfl rfl, wm1 8 rfl rfl, by decide +kernel, by decide +kernel, by decide +kernel⟩
theorem gZ9 : pgZ 9 := ⟨wm1 211 rfl rfl, wm1 9 rfl rfl, by decide +kernel, by decide +kernel, by decide +kernel⟩
theorem gZ10 : pgZ 10 := ⟨wm2 9 rfl rfl, wm1 10 rfl rfl, by decide +kernel, by decide +kernel, by decide +kernel⟩
theorem gZ11 : pgZ 11 := ⟨wm2 16 rfl rfl, wm1 11 rfl rfl, by decide +kernel, by decide +kernel, by decide +kernel⟩
theorem gZ12 : pgZ 12 := ⟨wm2 74 rfl rfl, wm1 1 rfl rfl, by decide +kernel, by decide +kernel, by decide +kernel⟩
theorem gZ13 : pgZ 13 := ⟨wm2 77 rfl rfl, wm1 1 rfl rfl, by decide +kernel, by decide +kernel, by decide +kernel⟩
theorem gZ14 : pgZ 14 := ⟨wm2 81 rfl rfl, wm1 1 rfl rfl, by decide +kernel, by decide +kernel, by decide +kernel⟩
theorem gZ15 : pgZ 15 := ⟨wm2 85 rfl rfl, wm1 9 rfl rfl, by decide +kernel, by decide +kernel, by decide +kernel⟩
theorem gZ16 : pgZ 16 := ⟨wm2 89 rfl rfl, wm1 5 rfl rfl, by decide +kernel, by decide +kernel, by decide +kernel⟩
theorem gZ17 : pgZ 17 := ⟨wm2 93 rfl rfl, wm1 5 rfl rfl, by decide +kernel, by decide +kernel, by decide +kernel⟩
theorem gZ18 : pgZ 18 := ⟨wm2 97 rfl rfl, wm1 8 rfl rfl, by decide +kernel, by decide +kernel, by decide +kernel⟩
theorem gZ19 : pgZ 19 := ⟨wm2 101 rfl rfl, wm1 9 rfl rfl, by decide +kernel, by decide +kernel, by decide +kernel⟩
theorem gZ20 : pgZ 20 := ⟨wm2 105 rfl rfl, wm1 9 rfl rfl, by decide +kernel, by decide +kernel, by decide +kernel⟩
theorem gZ21 : pgZ 21 := ⟨wm2 109 rfl rfl, wm1 5 rfl rfl, by decide +kernel, by decide +kernel, by decide +kernel⟩
theorem gZ22 : pgZ 22 := ⟨wm2 113 rfl rfl, wm1 5 rfl rfl, by decide +kernel, by decide +kernel, by decide +kernel⟩
theorem gZ23 : pgZ 23 := ⟨wm2 117 rfl rfl, wm1 6 rfl rfl, by decide +kernel, by decide +kernel, by decide +kernel⟩
theorem gZ24 : pgZ 24 := ⟨wm2 121 rfl rfl, wm1 7 rfl rfl, by decide +kernel, by decide +kernel, by decide +kernel⟩
theorem gZ25 : pgZ 25 := ⟨wm2 125 rfl rfl, wm1 4 rfl rfl, by decide +kernel, by decide +kernel, by decide +kernel⟩
theorem gZ26 : pgZ 26 := ⟨wm2 129 rfl rfl, wm1 1 rfl rfl, by decide +kernel, by decide +kernel, by decide +kernel⟩
theorem gZ27 : pgZ 27 := ⟨wm2 133 rfl rfl, wm1 1 rfl rfl, by decide +kernel, by decide +kernel, by decide +kernel⟩
theorem gZ28 : pgZ 28 := ⟨wm2 137 rfl rfl, wm1 5 rfl rfl, by decide +kernel, by decide +kernel, by decide +kernel⟩
theorem gZ29 : pgZ 29 := ⟨wm2 141 rfl rfl, wm1 6 rfl rfl, by decide +kernel, by decide +kernel, by decide +kernel⟩
theorem gZ30 : pgZ 30 := ⟨wm2 145 rfl rfl, wm1 1 rfl rfl, by decide +kernel, by decide +kernel, by decide +kernel⟩
theorem gZ31 : pgZ 31 := ⟨wm2 149 rfl rfl, wm1 4 rfl rfl, by decide +kernel, by decide +kernel, by decide +kernel⟩
theorem gZ32 : pgZ 32 := ⟨wm2 154 rfl rfl, wm1 1 rfl rfl, by decide +kernel, by decide +kernel, by decide +kernel⟩
theorem gZ33 : pgZ 33 := ⟨wm2 158 rfl rfl, wm1 4 rfl rfl, by decide +kernel, by decide +kernel, by decide +kernel⟩
theorem gZ34 : pgZ 34 := ⟨wm2 162 rfl rfl, wm1 1 rfl rfl, by decide +kernel, by decide +kernel, by decide +kernel⟩
theorem gZ35 : pgZ 35 := ⟨wm2 166 rfl rfl, wm1 10 rfl rfl, by decide +kernel, by decide +kernel, by decide +kernel⟩
theorem gZ36 : pgZ 36 := ⟨wm2 171 rfl rfl, wm1 1 rfl rfl, by decide +kernel, by decide +kernel, by decide +kernel⟩
theorem gZ37 : pgZ 37 := ⟨wm2 175 rfl rfl, wm1 1 rfl rfl, by decide +kernel, by decide +kernel, by decide +kernel⟩
theorem gZ38 : pgZ 38 := ⟨wm2 179 rfl rfl, wm1 1 rfl rfl, by decide +kernel, by decide +kernel, by decide +kernel⟩
theorem gZ39 : pgZ 39 := ⟨wm2 183 rfl rfl, wm1 6 rfl rfl, by decide +kernel, by decide +kernel, by decide +kernel⟩
theorem gZ40 : pgZ 40 := ⟨wm2 187 rfl rfl, wm1 6 rfl rfl, by decide +kernel, by decide +kernel, by decide +kernel⟩
theorem gZ41 : pgZ 41 := ⟨wm2 191 rfl rfl, wm1 6 rfl rfl, by decide +kernel, by decide +kernel, by decide +kernel⟩
theorem gZ42 : pgZ 42 := ⟨wm2 195 rfl rfl, wm1 10 rfl rfl, by decide +kernel, by decide +kernel, by decide +kernel⟩
theorem gZ43 : pgZ 43 := ⟨wm2 199 rfl rfl, wm1 10 rfl rfl, by decide +kernel, by decide +kernel, by decide +kernel⟩
theorem gZ44 : pgZ 44 := ⟨wm2 203 rfl rfl, wm1 11 rfl rfl, by decide +kernel, by decide +kernel, by decide +kernel⟩
theorem gZ45 : pgZ 45 := ⟨wm2 207 rfl rfl, wm1 10 rfl rfl, by decide +kernel, by decide +kernel, by decide +kernel⟩
theorem gZ46 : pgZ 46 := ⟨wm2 211 rfl rfl, wm1 11 rfl rfl, by decide +kernel, by decide +kernel, by decide +kernel⟩
theorem gZ47 : pgZ 47 := ⟨wm2 215 rfl rfl, wm1 10 rfl rfl, by decide +kernel, by decide +kernel, by decide +kernel⟩
theorem gZ48 : pgZ 48 := ⟨wm2 221 rfl rfl, wm1 1 rfl rfl, by decide +kernel, by decide +kernel, by decide +kernel⟩
theorem gZ49 : pgZ 49 := ⟨wm2 225 rfl rfl, wm1 9 rfl rfl, by decide +kernel, by decide +kernel, by decide +kernel⟩
theorem gZ50 : pgZ 50 := ⟨wm2 231 rfl rfl, wm1 9 rfl rfl, by decide +kernel, by decide +kernel, by decide +kernel⟩
theorem gZ51 : pgZ 51 := ⟨wm2 235 rfl rfl, wm1 5 rfl rfl, by decide +kernel, by decide +kernel, by decide +kernel⟩
theorem gZ52 : pgZ 52 := ⟨wm2 239 rfl rfl, wm1 5 rfl rfl, by decide +kernel, by decide +kernel, by decide +kernel⟩
theorem gZ53 : pgZ 53 := ⟨wm3 7 rfl rfl, wm1 9 rfl rfl, by decide +kernel, by decide +kernel, by decide +kernel⟩
theorem gZ54 : pgZ 54 := ⟨wm3 12 rfl rfl, wm1 9 rfl rfl, by decide +kernel, by decide +kernel, by decide +kernel⟩
theorem gZ55 : pgZ 55 := ⟨wm3 16 rfl rfl, wm1 9 rfl rfl, by decide +kernel, by decide +kernel, by decide +kernel⟩
theorem gZ56 : pgZ 56 := ⟨wm3 20 rfl rfl, wm1 9 rfl rfl, by decide +kernel, by decide +kernel, by decide +kernel⟩
theorem gZ57 : pgZ 57 := ⟨wm3 25 rfl rfl, wm1 5 rfl rfl, by decide +kernel, by decide +kernel, by decide +kernel⟩
theorem gZ58 : pgZ 58 := ⟨wm3 29 rfl rfl, wm1 9 rfl rfl, by decide +kernel, by decide +kernel, by decide +kernel⟩
theorem gZ59 : pgZ 59 := ⟨wm3 33 rfl rfl, wm1 9 rfl rfl, by decide +kernel, by decide +kernel, by decide +kernel⟩
theorem gZ60 : pgZ 60 := ⟨wm3 37 rfl rfl, wm1 5 rfl rfl, by decide +kernel, by decide +kernel, by decide +kernel⟩
theorem gZ61 : pgZ 61 := ⟨wm3 41 rfl rfl, wm1 9 rfl rfl, by decide +kernel, by decide +kernel, by decide +kernel⟩
theorem gZ62 : pgZ 62 := ⟨wm3 45 rfl rfl, wm1 9 rfl rfl, by decide +kernel, by decide +kernel, by decide +kernel⟩
theorem gZ63 : pgZ 63 := ⟨wm3 49 rfl rfl, wm1 1 rfl rfl, by decide +kernel, by decide +kernel, by decide +kernel⟩
theorem gZ64 : pgZ 64 := ⟨wm3 53 rfl rfl, wm1 1 rfl rfl, by decide +kernel, by decide +kernel, by decide +kernel⟩
theorem gZ65 : pgZ 65 := ⟨wm3 59 rfl rfl, wm1 1 rfl rfl, by decide +kernel, by decide +kernel, by decide +kernel⟩
theorem gZ66 : pgZ 66 := ⟨wm3 66 rfl rfl, wm1 1 rfl rfl, by decide +kernel, by decide +kernel, by decide +kernel⟩
theorem gZ67 : pgZ 67 := ⟨wm3 70 rfl rfl, wm1 1 rfl rfl, by decide +kernel, by decide +kernel, by decide +kernel⟩
theorem gZ68 : pgZ 68 := ⟨wm3 74 rfl rfl, wm1 1 rfl rfl, by decide +kernel, by decide +kernel, by decide +kernel⟩
theorem gZ69 : pgZ 69 := ⟨wm3 77 rfl rfl, wm1 1 rfl rfl, by decide +kernel, by decide +kernel, by decide +kernel⟩
theorem gZ70 : pgZ 70 := ⟨wm3 84 rfl rfl, wm1 1 rfl rfl, by decide +kernel, by decide +kernel, by decide +kernel⟩
theorem gZ71 : pgZ 71 := ⟨wm3 88 rfl rfl, wm1 1 rfl rfl, by decide +kernel, by decide +kernel, by decide +kernel⟩
theorem gZ72 : pgZ 72 := ⟨wm3 92 rfl rfl, wm1 1 rfl rfl, by decide +kernel, by decide +kernel, by decide +kernel⟩
theorem gZ73 : pgZ 73 := ⟨wm3 96 rfl rfl, wm1 1 rfl rfl, by decide +kernel, by decide +kernel, by decide +kernel⟩
theorem gZ74 : pgZ 74 := ⟨wm3 100 rfl rfl, wm1 5 rfl rfl, by decide +kernel, by decide +kernel, by decide +kernel⟩
theorem gZ75 : pgZ 75 := ⟨wm3 104 rfl rfl, wm1 1 rfl rfl, by decide +kernel, by decide +kernel, by decide +kernel⟩
theorem gZ76 : pgZ 76 := ⟨wm3 108 rfl rfl, wm1 1 rfl rfl, by decide +kernel, by decide +kernel, by decide +kernel⟩
theorem gZ77 : pgZ 77 := ⟨wm3 112 rfl rfl, wm1 1 rfl rfl, by decide +kernel, by decide +kernel, by decide +kernel⟩
theorem gZ78 : pgZ 78 := ⟨wm3 116 rfl rfl, wm1 1 rfl rfl, by decide +kernel, by decide +kernel, by decide +kernel⟩
theorem gZ79 : pgZ 79 := ⟨wm3 120 rfl rfl, wm1 1 rfl rfl, by decide +kernel, by decide +kernel, by decide +kernel⟩
theorem gZ80 : pgZ 80 := ⟨wm3 123 rfl rfl, wm1 0 rfl rfl, by decide +kernel, by decide +kernel, by decide +kernel⟩
theorem gZ81 : pgZ 81 := ⟨wm3 128 rfl rfl, wm1 12 rfl rfl, by decide +kernel, by decide +kernel, by decide +kernel⟩
theorem gZ82 : pgZ 82 := ⟨wm4 13 rfl rfl, wm1 12 rfl rfl, by decide +kernel, by decide +kernel, by decide +kernel⟩
theorem gZ83 : pgZ 83 := ⟨wm4 16 rfl rfl, wm1 12 rfl rfl, by decide +kernel, by decide +kernel, by decide +kernel⟩
theorem gZ84 : pgZ 84 := ⟨wm4 20 rfl rfl, wm1 12 rfl rfl, by decide +kernel, by decide +kernel, by decide +kernel⟩
theorem gZ85 : pgZ 85 := ⟨wm4 24 rfl rfl, wm1 12 rfl rfl, by decide +kernel, by decide +kernel, by decide +kernel⟩
theorem gZ86 : pgZ 86 := ⟨wm4 28 rfl rfl, wm1 12 rfl rfl, by decide +kernel, by decide +kernel, by decide +kernel⟩
theorem gZ87 : pgZ 87 := ⟨wm4 32 rfl rfl, wm1 12 rfl rfl, by decide +kernel, by decide +kernel, by decide +kernel⟩
theorem gZ88 : pgZ 88 := ⟨wm4 36 rfl rfl, wm1 12 rfl rfl, by decide +kernel, by decide +kernel, by decide +kernel⟩
theorem gZ89 : pgZ 89 := ⟨wm4 40 rfl rfl, wm1 12 rfl rfl, by decide +kernel, by decide +kernel, by decide +kernel⟩
theorem gZ90 : pgZ 90 := ⟨wm4 44 rfl rfl, wm1 12 rfl rfl, by decide +kernel, by decide +kernel, by decide +kernel⟩
theorem gZ91 : pgZ 91 := ⟨wm4 48 rfl rfl, wm1 12 rfl rfl, by decide +kernel, by decide +kernel, by decide +kernel⟩
theorem gZ92 : pgZ 92 := ⟨wm4 52 rfl rfl, wm1 12 rfl rfl, by decide +kernel, by decide +kernel, by decide +kernel⟩
theorem gZ93 : pgZ 93 := ⟨wm4 56 rfl rfl, wm1 12 rfl rfl, by decide +kernel, by decide +kernel, by decide +kernel⟩
theorem gZ94 : pgZ 94 := ⟨wm4 60 rfl rfl, wm1 12 rfl rfl, by decide +kernel, by decide +kernel, by decide +kernel⟩
theorem gZ95 : pgZ 95 := ⟨wm4 64 rfl rfl, wm1 12 rfl rfl, by decide +kernel, by decide +kernel, by decide +kernel⟩
theorem gZ96 : pgZ 96 := ⟨wm4 68 rfl rfl, wm1 12 rfl rfl, by decide +kernel, by decide +kernel, by decide +kernel⟩
theorem gZ97 : pgZ 97 := ⟨wm4 72 rfl rfl, wm1 12 rfl rfl, by decide +kernel, by decide +kernel, by decide +kernel⟩
theorem gZ98 : pgZ 98 := ⟨wm4 76 rfl rfl, wm1 12 rfl rfl, by decide +kernel, by decide +kernel, by decide +kernel⟩
theorem gZ99 : pgZ 99 := ⟨wm4 80 rfl rfl, wm1 12 rfl rfl, by decide +kernel, by decide +kernel, by decide +kernel⟩
theorem gZ100 : pgZ 100 := ⟨wm4 84 rfl rfl, wm1 12 rfl rfl, by decide +kernel, by decide +kernel, by decide +kernel⟩
theorem gZ101 : pgZ 101 := ⟨wm4 88 rfl rfl, wm1 12 rfl rfl, by decide +kernel, by decide +kernel, by decide +kernel⟩
theorem gZ102 : pgZ 102 := ⟨wm4 92 rfl rfl, wm1 12 rfl rfl, by decide +kernel, by decide +kernel, by decide +kernel⟩
theorem gZ103 : pgZ 103 := ⟨wm4 96 rfl rfl, wm1 12 rfl rfl, by decide +kernel, by decide +kernel, by decide +kernel⟩
theorem gZ104 : pgZ 104 := ⟨wm4 100 rfl rfl, wm1 12 rfl rfl, by decide +kernel, by decide +kernel, by decide +kernel⟩
theorem gZ105 : pgZ 105 := ⟨wm4 104 rfl rfl, wm1 12 rfl rfl, by decide +kernel, by decide +kernel, by decide +kernel⟩
theorem gZ106 : pgZ 106 := ⟨wm4 108 rfl rfl, wm1 12 rfl rfl, by decide +kernel, by decide +kernel, by decide +kernel⟩
theorem gZ107 : pgZ 107 := ⟨wm4 112 rfl rfl, wm1 12 rfl rfl, by decide +kernel, by decide +kernel, by decide +kernel⟩
theorem gZ108 : pgZ 108 := ⟨wm4 116 rfl rfl, wm1 12 rfl rfl, by decide +kernel, by decide +kernel, by decide +kernel⟩
theorem gZ109 : pgZ 109 := ⟨wm4 120 rfl rfl, wm1 12 rfl rfl, by decide +kernel, by decide +kernel, by decide +kernel⟩
theorem gZ110 : pgZ 110 := ⟨wm4 124 rfl rfl, wm1 12 rfl rfl, by decide +kernel, by decide +kernel, by decide +kernel⟩
theorem gZ111 : pgZ 111 := ⟨wm4 128 rfl rfl, wm1 12 rfl rfl, by decide +kernel, by decide +kernel, by decide +kernel⟩
theorem gZ112 : pgZ 112 := ⟨wm4 132 rfl rfl, wm1 12 rfl rfl, by decide +kernel, by decide +kernel, by decide +kernel⟩
theorem gZ113 : pgZ 113 := ⟨wm4 138 rfl rfl, wm1 12 rfl rfl, by decide +kernel, by decide +kernel, by decide +kernel⟩
theorem gZ114 : pgZ 114 := ⟨wm4 142 rfl rfl, wm1 12 rfl rfl, by decide +kernel, by decide +kernel, by decide +kernel⟩
theorem gZ115 : pgZ 115 := ⟨wm4 146 rfl rfl, wm1 12 rfl rfl, by decide +kernel, by decide +kernel, by decide +kernel⟩
theorem gZ116 : pgZ 116 := ⟨wm4 150 rfl rfl, wm1 12 rfl rfl, by decide +kernel, by decide +kernel, by decide +kernel⟩
theorem gZ117 : pgZ 117 := ⟨wm4 154 rfl rfl, wm1 12 rfl rfl, by decide +kernel, by decide +kernel, by decide +kernel⟩
theorem gZ118 : pgZ 118 := ⟨wm4 159 rfl rfl, wm1 12 rfl rfl, by decide +kernel, by decide +kernel, by decide +kernel⟩
theorem gZ119 : pgZ 119 := ⟨wm4 163 rfl rfl, wm1 12 rfl rfl, by decide +kernel, by decide +kernel, by decide +kernel⟩
theorem gZ120 : pgZ 120 := ⟨wm4 167 rfl rfl, wm1 12 rfl rfl, by decide +kernel, by decide +kernel, by decide +kernel⟩
def pgY (c : String) (e : Nat × Nat × Nat × Nat × Nat) : Prop := e.2.2.2.1 < 6 → e.2.2.1 ≤ pp_ml pP e.2.1 ∧ pgZ e.2.1
set_option maxRecDepth 20000 in
theorem gY0 : ∀ l, pMx[0]? = some l → ∀ e ∈ l, pgY (pCn.getD 0 "") e := by
  intro l h
  cases Option.some.inj h
  exact List.forall_mem_cons.mpr ⟨fun h => absurd h (by decide), fun _ h => absurd h List.not_mem_nil⟩
set_option maxRecDepth 20000 in
theorem gY1 : ∀ l, pMx[1]? = some l → ∀ e ∈ l, pgY (pCn.getD 1 "") e := by
  intro l h
  cases Option.some.inj h
  exact List.forall_mem_cons.mpr ⟨fun h => absurd h (by decide), fun _ h => absurd h List.not_mem_nil⟩
set_option maxRecDepth 20000 in
theorem gY2 : ∀ l, pMx[2]? = some l → ∀ e ∈ l, pgY (pCn.getD 2 "") e := by
  intro l h
  cases Option.some.inj h
  exact List.forall_mem_cons.mpr ⟨fun h => absurd h (by decide), List.forall_mem_cons.mpr ⟨fun _ => ⟨by decide, gZ16⟩, List.forall_mem_cons.mpr ⟨fun _ => ⟨by decide, gZ19⟩, List.forall_mem_cons.mpr ⟨fun _ => ⟨by decide, gZ28⟩, List.forall_mem_cons.mpr ⟨fun h => absurd h (by decide), List.forall_mem_cons.mpr ⟨fun _ => ⟨by decide, gZ50⟩, List.forall_mem_cons.mpr ⟨fun _ => ⟨by decide, gZ52⟩, List.forall_mem_cons.mpr ⟨fun _ => ⟨by decide, gZ51⟩, List.forall_mem_cons.mpr ⟨fun h => absurd h (by decide), List.forall_mem_cons.mpr ⟨fun _ => ⟨by decide, gZ20⟩, List.forall_mem_cons.mpr ⟨fun _ => ⟨by decide, gZ55⟩, List.forall_mem_cons.mpr ⟨fun _ => ⟨by decide, gZ56⟩, List.forall_mem_cons.mpr ⟨fun _ => ⟨by decide, gZ61⟩, List.forall_mem_cons.mpr ⟨fun _ => ⟨by decide, gZ17⟩, List.forall_mem_cons.mpr ⟨fun _ => ⟨by decide, gZ57⟩, List.forall_mem_cons.mpr ⟨fun _ => ⟨by decide, gZ58⟩, List.forall_mem_cons.mpr ⟨fun _ => ⟨by decide, gZ59⟩, List.forall_mem_cons.mpr ⟨fun _ => ⟨by decide, gZ60⟩, List.forall_mem_cons.mpr ⟨fun _ => ⟨by decide, gZ62⟩, List.forall_mem_cons.mpr ⟨fun _ => ⟨by decide, gZ21⟩, List.forall_mem_cons.mpr ⟨fun _ => ⟨by decide, gZ24⟩, List.forall_mem_cons.mpr ⟨fun _ => ⟨by decide, gZ25⟩, fun _ h => absurd h List.not_mem_nil⟩⟩⟩⟩⟩⟩⟩⟩⟩⟩⟩⟩⟩⟩⟩⟩⟩⟩⟩⟩⟩⟩
set_option maxRecDepth 20000 in
theorem gY3 : ∀ l, pMx[3]? = some l → ∀ e ∈ l, pgY (pCn.getD 3 "") e := by
  intro l h
  cases Option.some.inj h
  exact List.forall_mem_cons.mpr ⟨fun h => absurd h (by decide), List.forall_mem_cons.mpr ⟨fun _ => ⟨by decide, gZ11⟩, List.forall_mem_cons.mpr ⟨fun _ => ⟨by decide, gZ43⟩, List.forall_mem_cons.mpr ⟨fun _ => ⟨by decide, gZ47⟩, List.forall_mem_cons.mpr ⟨fun _ => ⟨by decide, gZ46⟩, List.forall_mem_cons.mpr ⟨fun _ => ⟨by decide, gZ44⟩, List.forall_mem_cons.mpr ⟨fun _ => ⟨by decide, gZ45⟩, List.forall_mem_cons.mpr ⟨fun _ => ⟨by decide, gZ21⟩, List.forall_mem_cons.mpr ⟨fun _ => ⟨by decide, gZ24⟩, List.forall_mem_cons.mpr ⟨fun _ => ⟨by decide, gZ25⟩, fun _ h => absurd h List.not_mem_nil⟩⟩⟩⟩⟩⟩⟩⟩⟩⟩
set_option maxRecDepth 20000 in
theorem gY4 : ∀ l, pMx[4]? = some l → ∀ e ∈ l, pgY (pCn.getD 4 "") e := by
  intro l h
  cases Option.some.inj h
  exact List.forall_mem_cons.mpr ⟨fun h => absurd h (by decide), List.forall_mem_cons.mpr ⟨fun _ => ⟨by decide, gZ6⟩, List.forall_mem_cons.mpr ⟨fun _ => ⟨by decide, gZ8⟩, List.forall_mem_cons.mpr ⟨fun _ => ⟨by decide, gZ22⟩, List.forall_mem_cons.mpr ⟨fun _ => ⟨by decide, gZ23⟩, List.forall_mem_cons.mpr ⟨fun _ => ⟨by decide, gZ17⟩, List.forall_mem_cons.mpr ⟨fun _ => ⟨by decide, gZ18⟩, List.forall_mem_cons.mpr ⟨fun h => absurd h (by decide), List.forall_mem_cons.mpr ⟨fun _ => ⟨by decide, gZ1⟩, List.forall_mem_cons.mpr ⟨fun _ => ⟨by decide, gZ29⟩, fun _ h => absurd h List.not_mem_nil⟩⟩⟩⟩⟩⟩⟩⟩⟩⟩
set_option maxRecDepth 20000 in
theorem gY5 : ∀ l, pMx[5]? = some l → ∀ e ∈ l, pgY (pCn.getD 5 "") e := by
  intro l h
  cases Option.some.inj h
  exact List.forall_mem_cons.mpr ⟨fun h => absurd h (by decide), List.forall_mem_cons.mpr ⟨fun _ => ⟨by decide, gZ7⟩, List.forall_mem_cons.mpr ⟨fun _ => ⟨by decide, gZ41⟩, List.forall_mem_cons.mpr ⟨fun _ => ⟨by decide, gZ40⟩, fun _ h => absurd h List.not_mem_nil⟩⟩⟩⟩
set_option maxRecDepth 20000 in
theorem gY6 : ∀ l, pMx[6]? = some l → ∀ e ∈ l, pgY (pCn.getD 6 "") e := by
  intro l h
  cases Option.some.inj h
  exact List.forall_mem_cons.mpr ⟨fun h => absurd h (by decide), fun _ h => absurd h List.not_mem_nil⟩
set_option maxRecDepth 20000 in
theorem gY7 : ∀ l, pMx[7]? = some l → ∀ e ∈ l, pgY (pCn.getD 7 "") e := by
  intro l h
  cases Option.some.inj h
  exact List.forall_mem_cons.mpr ⟨fun h => absurd h (by decide), List.forall_mem_cons.mpr ⟨fun h => absurd h (by decide), fun _ h => absurd h List.not_mem_nil⟩⟩
set_option maxRecDepth 20000 in
theorem gY8 : ∀ l, pMx[8]? = some l → ∀ e ∈ l, pgY (pCn.getD 8 "") e := by
  intro l h
  cases Option.some.inj h
  exact List.forall_mem_cons.mpr ⟨fun h => absurd h (by decide), List.forall_mem_cons.mpr ⟨fun _ => ⟨by decide, gZ1⟩, List.forall_mem_cons.mpr ⟨fun _ => ⟨by decide, gZ2⟩, List.forall_mem_cons.mpr ⟨fun _ => ⟨by decide, gZ4⟩, List.forall_mem_cons.mpr ⟨fun _ => ⟨by decide, gZ5⟩, List.forall_mem_cons.mpr ⟨fun _ => ⟨by decide, gZ9⟩, List.forall_mem_cons.mpr ⟨fun _ => ⟨by decide, gZ10⟩, List.forall_mem_cons.mpr ⟨fun _ => ⟨by decide, gZ13⟩, List.forall_mem_cons.mpr ⟨fun _ => ⟨by decide, gZ14⟩, List.forall_mem_cons.mpr ⟨fun _ => ⟨by decide, gZ15⟩, List.forall_mem_cons.mpr ⟨fun _ => ⟨by decide, gZ27⟩, List.forall_mem_cons.mpr ⟨fun _ => ⟨by decide, gZ28⟩, List.forall_mem_cons.mpr ⟨fun _ => ⟨by decide, gZ31⟩, List.forall_mem_cons.mpr ⟨fun _ => ⟨by decide, gZ33⟩, List.forall_mem_cons.mpr ⟨fun _ => ⟨by decide, gZ35⟩, List.forall_mem_cons.mpr ⟨fun _ => ⟨by decide, gZ37⟩, List.forall_mem_cons.mpr ⟨fun _ => ⟨by decide, gZ22⟩, List.forall_mem_cons.mpr ⟨fun _ => ⟨by decide, gZ40⟩, List.forall_mem_cons.mpr ⟨fun _ => ⟨by decide, gZ41⟩, List.forall_mem_cons.mpr ⟨fun _ => ⟨by decide, gZ23⟩, List.forall_mem_cons.mpr ⟨fun _ => ⟨by decide, gZ24⟩, List.forall_mem_cons.mpr ⟨fun _ => ⟨by decide, gZ68⟩, List.forall_mem_cons.mpr ⟨fun _ => ⟨by decide, gZ74⟩, List.forall_mem_cons.mpr ⟨fun h => absurd h (by decide), List.forall_mem_cons.mpr ⟨fun h => absurd h (by decide), List.forall_mem_cons.mpr ⟨fun _ => ⟨by decide, gZ3⟩, List.forall_mem_cons.mpr ⟨fun _ => ⟨by decide, gZ38⟩, List.forall_mem_cons.mpr ⟨fun _ => ⟨by decide, gZ48⟩, List.forall_mem_cons.mpr ⟨fun _ => ⟨by decide, gZ53⟩, List.forall_mem_cons.mpr ⟨fun _ => ⟨by decide, gZ54⟩, List.forall_mem_cons.mpr ⟨fun _ => ⟨by decide, gZ39⟩, List.forall_mem_cons.mpr ⟨fun _ => ⟨by decide, gZ42⟩, List.forall_mem_cons.mpr ⟨fun _ => ⟨by decide, gZ49⟩, List.forall_mem_cons.mpr ⟨fun _ => ⟨by decide, gZ69⟩, List.forall_mem_cons.mpr ⟨fun _ => ⟨by decide, gZ25⟩, fun _ h => absurd h List.not_mem_nil⟩⟩⟩⟩⟩⟩⟩⟩⟩⟩⟩⟩⟩⟩⟩⟩⟩⟩⟩⟩⟩⟩⟩⟩⟩⟩⟩⟩⟩⟩⟩⟩⟩⟩⟩
set_option maxRecDepth 20000 in
theorem gY9 : ∀ l, pMx[9]? = some l → ∀ e ∈ l, pgY (pCn.getD 9 "") e := by
  intro l h
  cases Option.some.inj h
  exact List.forall_mem_cons.mpr ⟨fun h => absurd h (by decide), List.forall_mem_cons.mpr ⟨fun _ => ⟨by decide, gZ87⟩, List.forall_mem_cons.mpr ⟨fun _ => ⟨by decide, gZ83⟩, List.forall_mem_cons.mpr ⟨fun _ => ⟨by decide, gZ86⟩, List.forall_mem_cons.mpr ⟨fun _ => ⟨by decide, gZ84⟩, List.forall_mem_cons.mpr ⟨fun _ => ⟨by decide, gZ85⟩, List.forall_mem_cons.mpr ⟨fun _ => ⟨by decide, gZ89⟩, List.forall_mem_cons.mpr ⟨fun _ => ⟨by decide, gZ94⟩, List.forall_mem_cons.mpr ⟨fun _ => ⟨by decide, gZ100⟩, List.forall_mem_cons.mpr ⟨fun _ => ⟨by decide, gZ101⟩, List.forall_mem_cons.mpr ⟨fun _ => ⟨by decide, gZ95⟩, List.forall_mem_cons.mpr ⟨fun _ => ⟨by decide, gZ96⟩, List.forall_mem_cons.mpr ⟨fun _ => ⟨by decide, gZ98⟩, List.forall_mem_cons.mpr ⟨fun _ => ⟨by decide, gZ97⟩, List.forall_mem_cons.mpr ⟨fun _ => ⟨by decide, gZ99⟩, List.forall_mem_cons.mpr ⟨fun _ => ⟨by decide, gZ104⟩, List.forall_mem_cons.mpr ⟨fun _ => ⟨by decide, gZ102⟩, List.forall_mem_cons.mpr ⟨fun _ => ⟨by decide, gZ103⟩, List.forall_mem_cons.mpr ⟨fun _ => ⟨by decide, gZ105⟩, List.forall_mem_cons.mpr ⟨fun _ => ⟨by decide, gZ108⟩, List.forall_mem_cons.mpr ⟨fun _ => ⟨by decide, gZ112⟩, fun _ h => absurd h List.not_mem_nil⟩⟩⟩⟩⟩⟩⟩⟩⟩⟩⟩⟩⟩⟩⟩⟩⟩⟩⟩⟩⟩
set_option maxRecDepth 20000 in
theorem gY10 : ∀ l, pMx[10]? = some l → ∀ e ∈ l, pgY (pCn.getD 10 "") e := by
  intro l h
  cases Option.some.inj h
  exact List.forall_mem_cons.mpr ⟨fun _ => ⟨by decide, gZ80⟩, List.forall_mem_cons.mpr ⟨fun _ => ⟨by decide, gZ0⟩, List.forall_mem_cons.mpr ⟨fun _ => ⟨by decide, gZ81⟩, List.forall_mem_cons.mpr ⟨fun _ => ⟨by decide, gZ12⟩, List.forall_mem_cons.mpr ⟨fun _ => ⟨by decide, gZ82⟩, List.forall_mem_cons.mpr ⟨fun _ => ⟨by decide, gZ26⟩, List.forall_mem_cons.mpr ⟨fun _ => ⟨by decide, gZ88⟩, List.forall_mem_cons.mpr ⟨fun _ => ⟨by decide, gZ30⟩, List.forall_mem_cons.mpr ⟨fun _ => ⟨by decide, gZ90⟩, List.forall_mem_cons.mpr ⟨fun _ => ⟨by decide, gZ32⟩, List.forall_mem_cons.mpr ⟨fun _ => ⟨by decide, gZ91⟩, List.forall_mem_cons.mpr ⟨fun _ => ⟨by decide, gZ34⟩, List.forall_mem_cons.mpr ⟨fun _ => ⟨by decide, gZ92⟩, List.forall_mem_cons.mpr ⟨fun _ => ⟨by decide, gZ36⟩, List.forall_mem_cons.mpr ⟨fun _ => ⟨by decide, gZ93⟩, List.forall_mem_cons.mpr ⟨fun _ => ⟨by decide, gZ63⟩, List.forall_mem_cons.mpr ⟨fun _ => ⟨by decide, gZ106⟩, List.forall_mem_cons.mpr ⟨fun _ => ⟨by decide, gZ64⟩, List.forall_mem_cons.mpr ⟨fun _ => ⟨by decide, gZ107⟩, List.forall_mem_cons.mpr ⟨fun _ => ⟨by decide, gZ65⟩, List.forall_mem_cons.mpr ⟨fun _ => ⟨by decide, gZ109⟩, List.forall_mem_cons.mpr ⟨fun _ => ⟨by decide, gZ66⟩, List.forall_mem_cons.mpr ⟨fun _ => ⟨by decide, gZ110⟩, List.forall_mem_cons.mpr ⟨fun _ => ⟨by decide, gZ67⟩, List.forall_mem_cons.mpr ⟨fun _ => ⟨by decide, gZ111⟩, List.forall_mem_cons.mpr ⟨fun _ => ⟨by decide, gZ70⟩, List.forall_mem_cons.mpr ⟨fun _ => ⟨by decide, gZ113⟩, List.forall_mem_cons.mpr ⟨fun _ => ⟨by decide, gZ71⟩, List.forall_mem_cons.mpr ⟨fun _ => ⟨by decide, gZ114⟩, List.forall_mem_cons.mpr ⟨fun _ => ⟨by decide, gZ72⟩, List.forall_mem_cons.mpr ⟨fun _ => ⟨by decide, gZ115⟩, List.forall_mem_cons.mpr ⟨fun _ => ⟨by decide, gZ73⟩, List.forall_mem_cons.mpr ⟨fun _ => ⟨by decide, gZ116⟩, List.forall_mem_cons.mpr ⟨fun _ => ⟨by decide, gZ75⟩, List.forall_mem_cons.mpr ⟨fun _ => ⟨by decide, gZ117⟩, List.forall_mem_cons.mpr ⟨fun _ => ⟨by decide, gZ76⟩, List.forall_mem_cons.mpr ⟨fun _ => ⟨by decide, gZ97⟩, List.forall_mem_cons.mpr ⟨fun _ => ⟨by decide, gZ77⟩, List.forall_mem_cons.mpr ⟨fun _ => ⟨by decide, gZ118⟩, List.forall_mem_cons.mpr ⟨fun _ => ⟨by decide, gZ78⟩, List.forall_mem_cons.mpr ⟨fun _ => ⟨by decide, gZ119⟩, List.forall_mem_cons.mpr ⟨fun _ => ⟨by decide, gZ79⟩, List.forall_mem_cons.mpr ⟨fun _ => ⟨by decide, gZ120⟩, fun _ h => absurd h List.not_mem_nil⟩⟩⟩⟩⟩⟩⟩⟩⟩⟩⟩⟩⟩⟩⟩⟩⟩⟩⟩⟩⟩⟩⟩⟩⟩⟩⟩⟩⟩⟩⟩⟩⟩⟩⟩⟩⟩⟩⟩⟩⟩⟩⟩
set_option maxRecDepth 20000 in
theorem gY11 : ∀ l, pMx[11]? = some l → ∀ e ∈ l, pgY (pCn.getD 11 "") e := by
  intro l h
  cases Option.some.inj h
  exact fun _ h => absurd h List.not_mem_nil
theorem gYall (q : Nat) : ∀ l, pMx[q]? = some l → ∀ e ∈ l, pgY (pCn.getD q "") e := by
  match q with
  | 0 => exact gY0
  | 1 => exact gY1
  | 2 => exact gY2
  | 3 => exact gY3
  | 4 => exact gY4
  | 5 => exact gY5
  | 6 => exact gY6
  | 7 => exact gY7
  | 8 => exact gY8
  | 9 => exact gY9
  | 10 => exact gY10
  | 11 => exact gY11
  | n + 12 => intro l h; cases h
theorem nkZ : pk_Z pP pWs := by
  intro y idx z n kd ci h h6
  obtain ⟨l, hl, hm⟩ := pq_mem (show pq pMx (pp_own pP y) idx = _ from h)
  exact gYall _ l hl _ hm h6
def pgV (c : String) (e : Nat × Int32) : Prop := Cond.constant c e.1 e.2 ∈ pWs
set_option maxRecDepth 20000 in
theorem gV0 : ∀ l, pVx[0]? = some l → ∀ e ∈ l, pgV (pCn.getD 0 "") e := by
  intro l h
  cases Option.some.inj h
  exact fun _ h => absurd h List.not_mem_nil
set_option maxRecDepth 20000 in
theorem gV1 : ∀ l, pVx[1]? = some l → ∀ e ∈ l, pgV (pCn.getD 1 "") e := by
  intro l h
  cases Option.some.inj h
  exact fun _ h => absurd h List.not_mem_nil
set_option maxRecDepth 20000 in
theorem gV2 : ∀ l, pVx[2]? = some l → ∀ e ∈ l, pgV (pCn.getD 2 "") e := by
  intro l h
  cases Option.some.inj h
  exact fun _ h => absurd h List.not_mem_nil
set_option maxRecDepth 20000 in
theorem gV3 : ∀ l, pVx[3]? = some l → ∀ e ∈ l, pgV (pCn.getD 3 "") e := by
  intro l h
  cases Option.some.inj h
  exact fun _ h => absurd h List.not_mem_nil
set_option maxRecDepth 20000 in
theorem gV4 : ∀ l, pVx[4]? = some l → ∀ e ∈ l, pgV (pCn.getD 4 "") e := by
  intro l h
  cases Option.some.inj h
  exact fun _ h => absurd h List.not_mem_nil
set_option maxRecDepth 20000 in
theorem gV5 : ∀ l, pVx[5]? = some l → ∀ e ∈ l, pgV (pCn.getD 5 "") e := by
  intro l h
  cases Option.some.inj h
  exact fun _ h => absurd h List.not_mem_nil
set_option maxRecDepth 20000 in
theorem gV6 : ∀ l, pVx[6]? = some l → ∀ e ∈ l, pgV (pCn.getD 6 "") e := by
  intro l h
  cases Option.some.inj h
  exact fun _ h => absurd h List.not_mem_nil
set_option maxRecDepth 20000 in
theorem gV7 : ∀ l, pVx[7]? = some l → ∀ e ∈ l, pgV (pCn.getD 7 "") e := by
  intro l h
  cases Option.some.inj h
  exact fun _ h => absurd h List.not_mem_nil
set_option maxRecDepth 20000 in
theorem gV8 : ∀ l, pVx[8]? = some l → ∀ e ∈ l, pgV (pCn.getD 8 "") e := by
  intro l h
  cases Option.some.inj h
  exact List.forall_mem_cons.mpr ⟨wm1 36 rfl rfl, List.forall_mem_cons.mpr ⟨wm1 37 rfl rfl, List.forall_mem_cons.mpr ⟨wm3 78 rfl rfl, List.forall_mem_cons.mpr ⟨wm3 80 rfl rfl, fun _ h => absurd h List.not_mem_nil⟩⟩⟩⟩
set_option maxRecDepth 20000 in
theorem gV9 : ∀ l, pVx[9]? = some l → ∀ e ∈ l, pgV (pCn.getD 9 "") e := by
  intro l h
  cases Option.some.inj h
  exact List.forall_mem_cons.mpr ⟨wm3 130 rfl rfl, List.forall_mem_cons.mpr ⟨wm3 131 rfl rfl, List.forall_mem_cons.mpr ⟨wm4 133 rfl rfl, List.forall_mem_cons.mpr ⟨wm4 134 rfl rfl, fun _ h => absurd h List.not_mem_nil⟩⟩⟩⟩
set_option maxRecDepth 20000 in
theorem gV10 : ∀ l, pVx[10]? = some l → ∀ e ∈ l, pgV (pCn.getD 10 "") e := by
  intro l h
  cases Option.some.inj h
  exact fun _ h => absurd h List.not_mem_nil
set_option maxRecDepth 20000 in
theorem gV11 : ∀ l, pVx[11]? = some l → ∀ e ∈ l, pgV (pCn.getD 11 "") e := by
  intro l h
  cases Option.some.inj h
  exact fun _ h => absurd h List.not_mem_nil
theorem gVall (q : Nat) : ∀ l, pVx[q]? = some l → ∀ e ∈ l, pgV (pCn.getD q "") e := by
  match q with
  | 0 => exact gV0
  | 1 => exact gV1
  | 2 => exact gV2
  | 3 => exact gV3
  | 4 => exact gV4
  | 5 => exact gV5
  | 6 => exact gV6
  | 7 => exact gV7
  | 8 => exact gV8
  | 9 => exact gV9
  | 10 => exact gV10
  | 11 => exact gV11
  | n + 12 => intro l h; cases h
theorem nkV : pk_V pP pWs := by
  intro y idx v h
  obtain ⟨l, hl, hm⟩ := pq_mem (show pq pVx (pp_own pP y) idx = _ from h)
  have g := gVall _ l hl _ hm
  rcases pcls y with e | e
  · rw [e] at hl
    cases hl
  · rw [e]
    exact g
def pgN (c : String) (e : Nat × Nat) : Prop := ∃ r : vw_C × List FieldType × Bool, pCl[e.2]? = some r ∧ Cond.classLink c e.1 r.1.1 ∈ pWs
set_option maxRecDepth 20000 in
theorem gN0 : ∀ l, pNx[0]? = some l → ∀ e ∈ l, pgN (pCn.getD 0 "") e := by
  intro l h
  cases Option.some.inj h
  exact fun _ h => absurd h List.not_mem_nil
set_option maxRecDepth 20000 in
theorem gN1 : ∀ l, pNx[1]? = some l → ∀ e ∈ l, pgN (pCn.getD 1 "") e := by
  intro l h
  cases Option.some.inj h
  exact fun _ h => absurd h List.not_mem_nil
set_option maxRecDepth 20000 in
theorem gN2 : ∀ l, pNx[2]? = some l → ∀ e ∈ l, pgN (pCn.getD 2 "") e := by
  intro l h
  cases Option.some.inj h
  exact fun _ h => absurd h List.not_mem_nil
set_option maxRecDepth 20000 in
theorem gN3 : ∀ l, pNx[3]? = some l → ∀ e ∈ l, pgN (pCn.getD 3 "") e := by
  intro l h
  cases Option.some.inj h
  exact List.forall_mem_cons.mpr ⟨⟨_, rfl, wm2 11 rfl rfl⟩, fun _ h => absurd h List.not_mem_nil⟩
set_option maxRecDepth 20000 in
theorem gN4 : ∀ l, pNx[4]? = some l → ∀ e ∈ l, pgN (pCn.getD 4 "") e := by
  intro l h
  cases Option.some.inj h
  exact List.forall_mem_cons.mpr ⟨⟨_, rfl, wm1 63 rfl rfl⟩, List.forall_mem_cons.mpr ⟨⟨_, rfl, wm1 116 rfl rfl⟩, fun _ h => absurd h List.not_mem_nil⟩⟩
set_option maxRecDepth 20000 in
theorem gN5 : ∀ l, pNx[5]? = some l → ∀ e ∈ l, pgN (pCn.getD 5 "") e := by
  intro l h
  cases Option.some.inj h
  exact List.forall_mem_cons.mpr ⟨⟨_, rfl, wm1 69 rfl rfl⟩, fun _ h => absurd h List.not_mem_nil⟩
set_option maxRecDepth 20000 in
theorem gN6 : ∀ l, pNx[6]? = some l → ∀ e ∈ l, pgN (pCn.getD 6 "") e := by
  intro l h
  cases Option.some.inj h
  exact fun _ h => absurd h List.not_mem_nil
set_option maxRecDepth 20000 in
theorem gN7 : ∀ l, pNx[7]? = some l → ∀ e ∈ l, pgN (pCn.getD 7 "") e := by
  intro l h
  cases Option.some.inj h
  exact fun _ h => absurd h List.not_mem_nil
set_option maxRecDepth 20000 in
theorem gN8 : ∀ l, pNx[8]? = some l → ∀ e ∈ l, pgN (pCn.getD 8 "") e := by
  intro l h
  cases Option.some.inj h
  exact List.forall_mem_cons.mpr ⟨⟨_, rfl, wm1 38 rfl rfl⟩, List.forall_mem_cons.mpr ⟨⟨_, rfl, wm1 56 rfl rfl⟩, List.forall_mem_cons.mpr ⟨⟨_, rfl, wm1 207 rfl rfl⟩, List.forall_mem_cons.mpr ⟨⟨_, rfl, wm2 5 rfl rfl⟩, fun _ h => absurd h List.not_mem_nil⟩⟩⟩⟩
set_option maxRecDepth 20000 in
theorem gN9 : ∀ l, pNx[9]? = some l → ∀ e ∈ l, pgN (pCn.getD 9 "") e := by
  intro l h
  cases Option.some.inj h
  exact fun _ h => absurd h List.not_mem_nil
set_option maxRecDepth 20000 in
theorem gN10 : ∀ l, pNx[10]? = some l → ∀ e ∈ l, pgN (pCn.getD 10 "") e := by
  intro l h
  cases Option.some.inj h
  exact List.forall_mem_cons.mpr ⟨⟨_, rfl, wm1 13 rfl rfl⟩, List.forall_mem_cons.mpr ⟨⟨_, rfl, wm3 124 rfl rfl⟩, fun _ h => absurd h List.not_mem_nil⟩⟩
set_option maxRecDepth 20000 in
theorem gN11 : ∀ l, pNx[11]? = some l → ∀ e ∈ l, pgN (pCn.getD 11 "") e := by
  intro l h
  cases Option.some.inj h
  exact fun _ h => absurd h List.not_mem_nil
theorem gNall (q : Nat) : ∀ l, pNx[q]? = some l → ∀ e ∈ l, pgN (pCn.getD q "") e := by
  match q with
  | 0 => exact gN0
  | 1 => exact gN1
  | 2 => exact gN2
  | 3 => exact gN3
  | 4 => exact gN4
  | 5 => exact gN5
  | 6 => exact gN6
  | 7 => exact gN7
  | 8 => exact gN8
  | 9 => exact gN9
  | 10 => exact gN10
  | 11 => exact gN11
  | n + 12 => intro l h; cases h
theorem nkN : pk_N pP pWs := by
  intro y idx ci h
  obtain ⟨l, hl, hm⟩ := pq_mem (show pq pNx (pp_own pP y) idx = _ from h)
  have g := gNall _ l hl _ hm
  rcases pcls y with e | e
  · rw [e] at hl
    cases hl
  · rw [e]
    exact g
def pfin (m : PMt) : Bool := m.1.all (fun o => match o with
  | some (.putfield idx) => (match pq pFx m.2.2.1 idx with
    | some (ci, k) => (match pCl[ci]? with
      | some r => !(r.1.2.1 k).2.2.2 || (decide (m.2.2.2.2.2.2.name = "<init>") && decide ((r.1.2.1 k).1 = m.2.2.2.2.2.2.cls))
      | none => true)
    | none => true)
  | _ => true)
theorem pfin_ok : pM.all pfin = true := by decide +kernel
theorem pCode_in {y pc : Nat} {ins : Instr} (h : pp_code pP y pc = some ins) : pMg y ∈ pM ∧ some ins ∈ (pMg y).1 := by
  have h : ((pMg y).1[pc]?).join = some ins := h
  have h2 : (pMg y).1[pc]? = some (some ins) := by
    cases e : (pMg y).1[pc]? with
    | none => rw [e] at h; cases h
    | some x => rw [e] at h; exact congrArg some h
  rcases pMg_or y with q | q
  · rw [q] at h2
    cases h2
  · exact ⟨q, List.mem_of_getElem? h2⟩
theorem nkP : pk_P pP pWs := by
  intro y pc idx ci k r hc hf hr
  obtain ⟨q1, q2⟩ := pCode_in hc
  have g := List.all_eq_true.mp (List.all_eq_true.mp pfin_ok _ q1) _ q2
  have hf2 : pq pFx (pMg y).2.2.1 idx = some (ci, k) := hf
  have hr2 : pCl[ci]? = some r := hr
  simp only [hf2, hr2] at g
  cases hfin : (r.1.2.1 k).2.2.2 with
  | false => exact Or.inl rfl
  | true =>
    right
    rw [hfin] at g
    simp only [Bool.not_true, Bool.false_or, Bool.and_eq_true, decide_eq_true_eq] at g
    refine ⟨rfl, g.1, g.2, ?_⟩
    obtain ⟨l, hl, hm⟩ := pq_mem (show pq pFx (pp_own pP y) idx = _ from hf)
    obtain ⟨r2, h1, h2, h3⟩ := gFall _ l hl _ hm
    cases hr2.symm.trans h1
    rcases pcls y with e | e
    · rw [e] at hl
      cases hl
    · rw [e]
      rcases h3 with h3 | ⟨-, h3⟩
      · exact h3
      · rw [← e] at h3
        exact absurd g.2 h3
def prm1 (m : PMt) (idx : Nat) : Bool := match pq pMx m.2.2.1 idx with
  | some (z, _, kd, _) => if 6 ≤ kd then decide (1 ≤ m.2.2.2.1.frames) && decide (22 ≤ m.2.2.2.1.locals) else decide ((pMg z).2.2.2.1.frames + 1 ≤ m.2.2.2.1.frames) && decide (8 + ((pMg z).2.2.2.2.2.1 + 11) + (pMg z).2.2.2.1.locals ≤ m.2.2.2.1.locals)
  | none => true
def prm (m : PMt) : Bool := m.1.all (fun o => match o with
  | some (.invokestatic idx) => prm1 m idx
  | some (.invokevirtual idx) => prm1 m idx
  | some (.invokespecial idx) => prm1 m idx
  | _ => true)
theorem prm_ok : pM.all prm = true := by decide +kernel
theorem nkR : pk_R pP := by
  intro y pc idx z n kd ci hc hm
  have hm2 : pq pMx (pMg y).2.2.1 idx = some (z, n, kd, ci) := hm
  have g : prm1 (pMg y) idx = true := by
    rcases hc with hc | hc | hc
    · obtain ⟨q1, q2⟩ := pCode_in hc
      exact List.all_eq_true.mp (List.all_eq_true.mp prm_ok _ q1) _ q2
    · obtain ⟨q1, q2⟩ := pCode_in hc
      exact List.all_eq_true.mp (List.all_eq_true.mp prm_ok _ q1) _ q2
    · obtain ⟨q1, q2⟩ := pCode_in hc
      exact List.all_eq_true.mp (List.all_eq_true.mp prm_ok _ q1) _ q2
  unfold prm1 at g
  rw [hm2] at g
  constructor
  · intro h6
    simp only [h6, if_true, Bool.and_eq_true, decide_eq_true_eq] at g
    exact g
  · intro h6
    simp only [Nat.not_le.mpr h6, if_false, Bool.and_eq_true, decide_eq_true_eq] at g
    exact g
