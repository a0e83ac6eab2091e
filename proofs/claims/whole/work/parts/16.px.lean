/-! rows for numbers: an int that is a small natural number is nI n -/
theorem cn_lt {a b : Nat} (ha : a < 2 ^ 31) (hb : b < 2 ^ 31) : pm_cnd .lt (nI a) (nI b) = decide (a < b) := decide_eq_decide.mpr (nI_ltI ha hb)
theorem cn_ge {a b : Nat} (ha : a < 2 ^ 31) (hb : b < 2 ^ 31) : pm_cnd .ge (nI a) (nI b) = decide (b ≤ a) := decide_eq_decide.mpr (nI_leI hb ha)
theorem cn_gt {a b : Nat} (ha : a < 2 ^ 31) (hb : b < 2 ^ 31) : pm_cnd .gt (nI a) (nI b) = decide (b < a) := decide_eq_decide.mpr (nI_ltI hb ha)
theorem cn_le {a b : Nat} (ha : a < 2 ^ 31) (hb : b < 2 ^ 31) : pm_cnd .le (nI a) (nI b) = decide (a ≤ b) := decide_eq_decide.mpr (nI_leI ha hb)
theorem cn_eq {a b : Nat} (ha : a < 2 ^ 31) (hb : b < 2 ^ 31) : pm_cnd .eq (nI a) (nI b) = decide (a = b) := decide_eq_decide.mpr (nI_eq ha hb)
theorem cn_ne {a b : Nat} (ha : a < 2 ^ 31) (hb : b < 2 ^ 31) : pm_cnd .ne (nI a) (nI b) = decide (¬ a = b) := decide_eq_decide.mpr (not_congr (nI_eq ha hb))
theorem pin_n {j n : Nat} (h : j < n) (hn : n < 2 ^ 31) : pm_in (nI j) n = true := by
  have h1 : ¬ nI j < 0 := nI_pos (by omega)
  have h2 : (nI j).toNatClampNeg = j := nI_clamp (by omega)
  simp [pm_in, h1, h2, h]
theorem iinc_n (a : Nat) : nI a + Int32.ofInt 1 = nI (a + 1) := by
  rw [show Int32.ofInt 1 = 1 by decide]
  exact nI_1 a
section PNS
variable {P : PP} {y pc kc ks : Nat} {ls : List (Option PV)} {st : List PV} {h : PH} {Q : Option PV → PH → Prop}
/-- two numbers are compared: the condition as a proposition -/
theorem pw_if2p {c : Jvm.ClassFile.Cond} {off : Int} {t : Nat} {x z : Int32} {A : Prop} [Decidable A] (e : pm_cnd c x z = decide A) (hc : pp_code P y pc = some (.if_icmp c off)) (ht : pm_tg pc off = some t) (kt : A → pw P y (t, ls, st, kc, ks, h) Q) (kf : ¬ A → pw P y (pc + 3, ls, st, kc, ks, h) Q) : pw P y (pc, ls, .inl z :: .inl x :: st, kc, ks, h) Q :=
  pw_if2 hc ht (fun q => kt (of_decide_eq_true (e.symm.trans q))) (fun q => kf (of_decide_eq_false (e.symm.trans q)))
theorem pw_if1p {c : Jvm.ClassFile.Cond} {off : Int} {t : Nat} {x : Int32} {A : Prop} [Decidable A] (e : pm_cnd c x 0 = decide A) (hc : pp_code P y pc = some (.ifCond c off)) (ht : pm_tg pc off = some t) (kt : A → pw P y (t, ls, st, kc, ks, h) Q) (kf : ¬ A → pw P y (pc + 3, ls, st, kc, ks, h) Q) : pw P y (pc, ls, .inl x :: st, kc, ks, h) Q :=
  pw_if1 hc ht (fun q => kt (of_decide_eq_true (e.symm.trans q))) (fun q => kf (of_decide_eq_false (e.symm.trans q)))
end PNS
section PXN
variable {P : PP} {y pc kc ks : Nat} {ls : List (Option PV)} {st : List PV} {Q : Option PV → PH → Prop} {L : List SK} {F G : FN} {R O : RN}
theorem px_getv {idx ci fk i : Nat} {tg : List Nat} {x : Int32} (hc : pp_code P y pc = some (.getfield idx)) (hf : pp_fld P (pp_own P y) idx = some (ci, fk)) (hs : L[i]? = some (2, ci, tg, 0)) (ht : tg[fk]? = some 0) (hx : F i fk = x) (k : pw P y (pc + 3, ls, .inl x :: st, kc, ks, hb L F G R O) Q) : pw P y (pc, ls, .inr (some i) :: st, kc, ks, hb L F G R O) Q := by
  subst hx
  exact px_get hc hf hs ht k
theorem px_ialdn {i n j : Nat} {x : Int32} (hc : pp_code P y pc = some .iaload) (hs : L[i]? = some (0, 0, [], n)) (hj : j < n) (hn : n < 2 ^ 31) (hx : G i j = x) (k : pw P y (pc + 1, ls, .inl x :: st, kc, ks, hb L F G R O) Q) : pw P y (pc, ls, .inl (nI j) :: .inr (some i) :: st, kc, ks, hb L F G R O) Q := by
  subst hx
  exact px_iald hc hs (pin_n hj hn) (nI_clamp (by omega)) k
theorem px_saldn {i n j : Nat} {x : Int32} (hc : pp_code P y pc = some .iaload) (hs : L[i]? = some (0, 2, [], n)) (hj : j < n) (hn : n < 2 ^ 31) (hx : G i j = x) (k : pw P y (pc + 1, ls, .inl x :: st, kc, ks, hb L F G R O) Q) : pw P y (pc, ls, .inl (nI j) :: .inr (some i) :: st, kc, ks, hb L F G R O) Q := by
  subst hx
  exact px_sald hc hs (pin_n hj hn) (nI_clamp (by omega)) k
theorem px_zaldn {i n j : Nat} {x : Int32} (hc : pp_code P y pc = some .baload) (hs : L[i]? = some (0, 1, [], n)) (hj : j < n) (hn : n < 2 ^ 31) (hx : G i j = x) (k : pw P y (pc + 1, ls, .inl x :: st, kc, ks, hb L F G R O) Q) : pw P y (pc, ls, .inl (nI j) :: .inr (some i) :: st, kc, ks, hb L F G R O) Q := by
  subst hx
  exact px_zald hc hs (pin_n hj hn) (nI_clamp (by omega)) k
theorem px_aaldn {i ci n j : Nat} {r : Option Nat} (hc : pp_code P y pc = some .aaload) (hs : L[i]? = some (1, ci, [], n)) (ha : ((pp_cl P)[ci]?.map (fun q => q.2.2)) = some true) (hj : j < n) (hn : n < 2 ^ 31) (hr : R i j = r) (k : pw P y (pc + 1, ls, .inr r :: st, kc, ks, hb L F G R O) Q) : pw P y (pc, ls, .inl (nI j) :: .inr (some i) :: st, kc, ks, hb L F G R O) Q :=
  px_aald hc hs ha (pin_n hj hn) (nI_clamp (by omega)) hr k
theorem px_iastn {i n j : Nat} {x : Int32} (hc : pp_code P y pc = some .iastore) (hs : L[i]? = some (0, 0, [], n)) (hj : j < n) (hn : n < 2 ^ 31) (k : pw P y (pc + 1, ls, st, kc, ks, hb L F (up2 G i j x) R O) Q) : pw P y (pc, ls, .inl x :: .inl (nI j) :: .inr (some i) :: st, kc, ks, hb L F G R O) Q :=
  px_iast hc hs (pin_n hj hn) (nI_clamp (by omega)) k
theorem px_zastn {i n j : Nat} {x x1 : Int32} (hc : pp_code P y pc = some .bastore) (hs : L[i]? = some (0, 1, [], n)) (hj : j < n) (hn : n < 2 ^ 31) (hx : x &&& 1 = x1) (k : pw P y (pc + 1, ls, st, kc, ks, hb L F (up2 G i j x1) R O) Q) : pw P y (pc, ls, .inl x :: .inl (nI j) :: .inr (some i) :: st, kc, ks, hb L F G R O) Q :=
  px_zast hc hs (pin_n hj hn) (nI_clamp (by omega)) hx k
theorem px_aastn {i ci n v j : Nat} {tg : List Nat} (hc : pp_code P y pc = some .aastore) (hs : L[i]? = some (1, ci, [], n)) (hv : L[v]? = some (2, ci, tg, 0)) (ha : ((pp_cl P)[ci]?.map (fun q => q.2.2)) = some true) (hj : j < n) (hn : n < 2 ^ 31) (k : pw P y (pc + 1, ls, st, kc, ks, hb L F G (up2 R i j (some v)) O) Q) : pw P y (pc, ls, .inr (some v) :: .inl (nI j) :: .inr (some i) :: st, kc, ks, hb L F G R O) Q :=
  px_aast hc hs hv ha (pin_n hj hn) (nI_clamp (by omega)) k
end PXN
/-! THE SHAPE of the whole heap: 0 the script, 1 the bundle, 2 the stream, 4 the paths' array, path p at 5 + 21 p (its pipes at 6, 14, its segments at 22), 89 host A, 92 host B, 103 the reference -/
def slCopy : SK := (2, 1, [0, 0, 0, 0, 0, 0], 0)
def slSeg : SK := (2, 6, [0, 0, 0, 0, 0, 0], 0)
def slPipe : List SK := [(2, 5, [1, 0], 0), (1, 1, [], 6), slCopy, slCopy, slCopy, slCopy, slCopy, slCopy]
def slPath : List SK := (2, 4, [1, 1, 1, 0, 0, 0, 0, 0, 0, 0, 0, 0, 0, 0], 0) :: (slPipe ++ (slPipe ++ [(1, 6, [], 3), slSeg, slSeg, slSeg]))
def slArr : List SK := [(2, 0, [1, 0], 0), (0, 1, [], 402)]
def slModel : List SK := [(2, 9, [0, 0, 0, 0, 1, 0, 0, 1, 1, 0, 0, 1, 1, 1, 1, 1, 1, 1, 1, 1, 1, 1, 0, 0, 0, 0, 1, 1, 1, 1, 1, 1, 1, 1, 1, 1, 1, 1, 1], 0),
  (0, 0, [], 400), (0, 1, [], 1608), (0, 1, [], 401), (0, 0, [], 4), (0, 0, [], 4), (0, 0, [], 4), (0, 0, [], 4), (0, 0, [], 4), (0, 1, [], 4), (0, 0, [], 4), (0, 0, [], 4), (0, 0, [], 4), (0, 0, [], 4), (0, 0, [], 4),
  (0, 0, [], 1608), (0, 0, [], 1608), (0, 0, [], 1608), (0, 0, [], 1608), (0, 0, [], 1608), (0, 1, [], 401), (0, 0, [], 8), (0, 0, [], 48), (0, 0, [], 48), (0, 0, [], 48), (0, 0, [], 48), (0, 0, [], 48), (0, 0, [], 48)]
def sL (n : Nat) : List SK := [(0, 2, [], n), (2, 8, [0, 1, 1, 1, 1, 0], 0), (2, 7, [1, 0, 0], 0), (0, 0, [], 401), (1, 4, [], 4)] ++ (slPath ++ (slPath ++ (slPath ++ (slPath ++ ([(2, 2, [1, 1, 0, 1, 1, 0, 0, 0, 0], 0), (0, 1, [], 401), (0, 1, [], 401), (2, 3, [1, 0, 0, 1, 1, 0, 0, 0], 0), (1, 0, [], 4), (0, 1, [], 401)] ++ (slArr ++ (slArr ++ (slArr ++ (slArr ++ slModel)))))))))
/-- the reference fields, once all is made -/
def sOm (k : Nat) : Option Nat := ([none, none, none, none, some 104, none, none, some 105, some 106, none, none, some 107, some 108, some 109, some 110, some 111, some 112, some 113, some 114, some 115, some 116, some 117, none, none, none, none, some 118, some 119, some 120, some 121, some 122, some 123, some 124, some 125, some 126, some 127, some 128, some 129, some 130][k]?).join
def sOp (r : Nat) (i k : Nat) : Option Nat := match r, k with
  | 0, 0 => some (i + 1)
  | 0, 1 => some (i + 9)
  | 0, 2 => some (i + 17)
  | 1, 0 => some (i + 1)
  | 9, 0 => some (i + 1)
  | _, _ => none
def sO (i k : Nat) : Option Nat := match Nat.beq i 103 with
  | true => sOm k
  | false => match Nat.ble 5 i && Nat.blt i 89 with
    | true => sOp ((i - 5) % 21) i k
    | false => match i, k with
      | 1, 1 => some 2
      | 1, 2 => some 4
      | 1, 3 => some 89
      | 1, 4 => some 92
      | 2, 0 => some 3
      | 89, 0 => some 2
      | 89, 1 => some 4
      | 89, 3 => some 90
      | 89, 4 => some 91
      | 92, 0 => some 2
      | 92, 3 => some 93
      | 92, 4 => some 94
      | 95, 0 => some 96
      | 97, 0 => some 98
      | 99, 0 => some 100
      | 101, 0 => some 102
      | _, _ => none
set_option maxRecDepth 8000 in
theorem sL_len (n : Nat) : (sL n).length = 131 := rfl
theorem sl_path {n p : Nat} (hp : p < 4) : (sL n)[5 + 21 * p]? = some (2, 4, [1, 1, 1, 0, 0, 0, 0, 0, 0, 0, 0, 0, 0, 0], 0) := by
  have h : p = 0 ∨ p = 1 ∨ p = 2 ∨ p = 3 := by omega
  rcases h with rfl | rfl | rfl | rfl <;> rfl
theorem test_model (n : Nat) : (sL n)[103]? = some (2, 9, [0, 0, 0, 0, 1, 0, 0, 1, 1, 0, 0, 1, 1, 1, 1, 1, 1, 1, 1, 1, 1, 1, 0, 0, 0, 0, 1, 1, 1, 1, 1, 1, 1, 1, 1, 1, 1, 1, 1], 0) := rfl
theorem test_due (n : Nat) : (sL n)[130]? = some (0, 0, [], 48) := rfl
theorem test_o : sO 103 38 = some 130 ∧ sO 26 0 = some 27 ∧ sO 47 2 = some 64 ∧ sO 14 0 = some 15 := ⟨rfl, rfl, rfl, rfl⟩
