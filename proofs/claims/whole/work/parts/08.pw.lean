/-! REASONING about the pure machine, goal first: pw P y X Q: from X the method y comes to its end, and there Q. pz: from its entry. -/
theorem pm_more (P : PP) : ∀ (n : Nat) (y : Nat) (X : PX) (o : Option PV × PH), pm_run P n y X = some o → pm_run P (n + 1) y X = some o := by
  intro n
  induction n with
  | zero =>
    intro y X o e
    cases e
  | succ n ih =>
    intro y X o e
    rw [pm_run] at e
    rw [pm_run]
    split at e
    · cases e
    · rename_i X1 hX
      exact ih y X1 o e
    · rename_i z as rest hX
      split at e
      · cases e
      · rename_i r1 h2 hrun1
        rw [ih _ _ _ hrun1]
        exact ih _ _ _ e
    · rename_i r1 hX
      exact e
theorem pm_mono (P : PP) {n m : Nat} (h : n ≤ m) {y : Nat} {X : PX} {o : Option PV × PH} (e : pm_run P n y X = some o) : pm_run P m y X = some o := by
  induction h with
  | refl => exact e
  | step _ ih => exact pm_more P _ _ _ _ ih
def pw (P : PP) (y : Nat) (X : PX) (Q : Option PV → PH → Prop) : Prop := ∃ (n : Nat) (r : Option PV) (h1 : PH), pm_run P n y X = some (r, h1) ∧ Q r h1
def pz (P : PP) (z : Nat) (as : List PV) (h : PH) (Q : Option PV → PH → Prop) : Prop := pw P z (pm_en P z as h) Q
theorem pw_mono {P : PP} {y : Nat} {X : PX} {Q Q1 : Option PV → PH → Prop} (w : pw P y X Q) (k : ∀ r h1, Q r h1 → Q1 r h1) : pw P y X Q1 := by
  obtain ⟨n, r, h1, e, q⟩ := w
  exact ⟨n, r, h1, e, k r h1 q⟩
theorem pz_mono {P : PP} {z : Nat} {as : List PV} {h : PH} {Q Q1 : Option PV → PH → Prop} (w : pz P z as h Q) (k : ∀ r h1, Q r h1 → Q1 r h1) : pz P z as h Q1 := pw_mono w k
theorem pw_next {P : PP} {y : Nat} {X X1 : PX} {Q : Option PV → PH → Prop} (hs : pm_s P y X = some (.inl X1)) (k : pw P y X1 Q) : pw P y X Q := by
  obtain ⟨n, r, h1, e, q⟩ := k
  refine ⟨n + 1, r, h1, ?_, q⟩
  rw [pm_run, hs]
  exact e
theorem pw_ret {P : PP} {y : Nat} {X : PX} {r : Option PV} {Q : Option PV → PH → Prop} (hs : pm_s P y X = some (.inr (.inr r))) (q : Q r X.2.2.2.2.2) : pw P y X Q := by
  refine ⟨1, r, X.2.2.2.2.2, ?_, q⟩
  rw [pm_run, hs]
theorem pw_call {P : PP} {y z : Nat} {X : PX} {as rest : List PV} {Q : Option PV → PH → Prop} (hs : pm_s P y X = some (.inr (.inl (z, as, rest))))
    (k : pz P z as X.2.2.2.2.2 (fun r h1 => pw P y (X.1 + 3, X.2.1, r.toList ++ rest, X.2.2.2.1 + (pp_rm P z).cells, X.2.2.2.2.1 + (pp_rm P z).slots, h1) Q)) : pw P y X Q := by
  obtain ⟨n, r, h1, e, n2, r2, h2, e2, q⟩ := k
  refine ⟨(n + n2) + 1, r2, h2, ?_, q⟩
  rw [pm_run, hs]
  simp only
  rw [pm_mono P (Nat.le_add_right n n2) e]
  exact pm_mono P (Nat.le_add_left n2 n) e2
section PWS
variable {P : PP} {y pc kc ks : Nat} {ls : List (Option PV)} {st : List PV} {h : PH} {Q : Option PV → PH → Prop}
theorem pw_i {ins : Instr} {X1 : PX} (hc : pp_code P y pc = some ins) (hi : pm_i P y ins pc ls st kc ks h = some (.inl X1)) (k : pw P y X1 Q) : pw P y (pc, ls, st, kc, ks, h) Q := by
  refine pw_next ?_ k
  unfold pm_s
  rw [hc]
  exact hi
theorem pw_iconst {n : Int} {v : Int32} (hc : pp_code P y pc = some (.iconst n)) (hv : Int32.ofInt n = v) (k : pw P y (pc + 1, ls, .inl v :: st, kc, ks, h) Q) : pw P y (pc, ls, st, kc, ks, h) Q := by
  subst hv; exact pw_i hc rfl k
theorem pw_bipush {n : Int} {v : Int32} (hc : pp_code P y pc = some (.bipush n)) (hv : (Int8.ofInt n).toInt32 = v) (k : pw P y (pc + 2, ls, .inl v :: st, kc, ks, h) Q) : pw P y (pc, ls, st, kc, ks, h) Q := by
  subst hv; exact pw_i hc rfl k
theorem pw_sipush {n : Int} {v : Int32} (hc : pp_code P y pc = some (.sipush n)) (hv : (Int16.ofInt n).toInt32 = v) (k : pw P y (pc + 3, ls, .inl v :: st, kc, ks, h) Q) : pw P y (pc, ls, st, kc, ks, h) Q := by
  subst hv; exact pw_i hc rfl k
theorem pw_ldc {idx : Nat} {v : Int32} (hc : pp_code P y pc = some (.ldc idx)) (hv : pp_cst P (pp_own P y) idx = some v) (k : pw P y (pc + 2, ls, .inl v :: st, kc, ks, h) Q) : pw P y (pc, ls, st, kc, ks, h) Q := by
  refine pw_i hc (?_ : Option.map Sum.inl (pm_ldc P y idx pc ls st kc ks h) = _) k
  simp only [pm_ldc, hv, pm_nx, Option.map_some]
theorem pw_null (hc : pp_code P y pc = some .aconst_null) (k : pw P y (pc + 1, ls, .inr none :: st, kc, ks, h) Q) : pw P y (pc, ls, st, kc, ks, h) Q := pw_i hc rfl k
theorem pw_iload_n {i : Fin 4} {x : Int32} (hc : pp_code P y pc = some (.iload_n i)) (hl : ls[i.val]? = some (some (.inl x))) (k : pw P y (pc + 1, ls, .inl x :: st, kc, ks, h) Q) : pw P y (pc, ls, st, kc, ks, h) Q := by
  refine pw_i hc (?_ : Option.map Sum.inl (pm_iload i.val 1 pc ls st kc ks h) = _) k
  simp only [pm_iload, hl, pm_nx, Option.map_some]
theorem pw_iload {i : Nat} {x : Int32} (hc : pp_code P y pc = some (.iload i)) (hl : ls[i]? = some (some (.inl x))) (k : pw P y (pc + 2, ls, .inl x :: st, kc, ks, h) Q) : pw P y (pc, ls, st, kc, ks, h) Q := by
  refine pw_i hc (?_ : Option.map Sum.inl (pm_iload i 2 pc ls st kc ks h) = _) k
  simp only [pm_iload, hl, pm_nx, Option.map_some]
theorem pw_aload_n {i : Fin 4} {x : Option Nat} (hc : pp_code P y pc = some (.aload_n i)) (hl : ls[i.val]? = some (some (.inr x))) (k : pw P y (pc + 1, ls, .inr x :: st, kc, ks, h) Q) : pw P y (pc, ls, st, kc, ks, h) Q := by
  refine pw_i hc (?_ : Option.map Sum.inl (pm_aload i.val 1 pc ls st kc ks h) = _) k
  simp only [pm_aload, hl, pm_nx, Option.map_some]
theorem pw_aload {i : Nat} {x : Option Nat} (hc : pp_code P y pc = some (.aload i)) (hl : ls[i]? = some (some (.inr x))) (k : pw P y (pc + 2, ls, .inr x :: st, kc, ks, h) Q) : pw P y (pc, ls, st, kc, ks, h) Q := by
  refine pw_i hc (?_ : Option.map Sum.inl (pm_aload i 2 pc ls st kc ks h) = _) k
  simp only [pm_aload, hl, pm_nx, Option.map_some]
theorem pw_istore_n {i : Fin 4} {x : Int32} {ls1 : List (Option PV)} (hc : pp_code P y pc = some (.istore_n i)) (hi : i.val < ls.length) (hl : ls.set i.val (some (.inl x)) = ls1) (k : pw P y (pc + 1, ls1, st, kc, ks, h) Q) : pw P y (pc, ls, .inl x :: st, kc, ks, h) Q := by
  subst hl
  refine pw_i hc (?_ : Option.map Sum.inl (pm_istore i.val 1 pc ls (.inl x :: st) kc ks h) = _) k
  simp only [pm_istore, if_pos hi, pm_nx, Option.map_some]
theorem pw_istore {i : Nat} {x : Int32} {ls1 : List (Option PV)} (hc : pp_code P y pc = some (.istore i)) (hi : i < ls.length) (hl : ls.set i (some (.inl x)) = ls1) (k : pw P y (pc + 2, ls1, st, kc, ks, h) Q) : pw P y (pc, ls, .inl x :: st, kc, ks, h) Q := by
  subst hl
  refine pw_i hc (?_ : Option.map Sum.inl (pm_istore i 2 pc ls (.inl x :: st) kc ks h) = _) k
  simp only [pm_istore, if_pos hi, pm_nx, Option.map_some]
theorem pw_astore_n {i : Fin 4} {x : Option Nat} {ls1 : List (Option PV)} (hc : pp_code P y pc = some (.astore_n i)) (hi : i.val < ls.length) (hl : ls.set i.val (some (.inr x)) = ls1) (k : pw P y (pc + 1, ls1, st, kc, ks, h) Q) : pw P y (pc, ls, .inr x :: st, kc, ks, h) Q := by
  subst hl
  refine pw_i hc (?_ : Option.map Sum.inl (pm_astore i.val 1 pc ls (.inr x :: st) kc ks h) = _) k
  simp only [pm_astore, if_pos hi, pm_nx, Option.map_some]
theorem pw_astore {i : Nat} {x : Option Nat} {ls1 : List (Option PV)} (hc : pp_code P y pc = some (.astore i)) (hi : i < ls.length) (hl : ls.set i (some (.inr x)) = ls1) (k : pw P y (pc + 2, ls1, st, kc, ks, h) Q) : pw P y (pc, ls, .inr x :: st, kc, ks, h) Q := by
  subst hl
  refine pw_i hc (?_ : Option.map Sum.inl (pm_astore i 2 pc ls (.inr x :: st) kc ks h) = _) k
  simp only [pm_astore, if_pos hi, pm_nx, Option.map_some]
theorem pw_iinc {i : Nat} {d : Int} {x v : Int32} {ls1 : List (Option PV)} (hc : pp_code P y pc = some (.iinc i d)) (hl : ls[i]? = some (some (.inl x))) (hv : x + Int32.ofInt d = v) (hl1 : ls.set i (some (.inl v)) = ls1) (k : pw P y (pc + 3, ls1, st, kc, ks, h) Q) : pw P y (pc, ls, st, kc, ks, h) Q := by
  subst hl1
  subst hv
  refine pw_i hc (?_ : Option.map Sum.inl (pm_iinc i d pc ls st kc ks h) = _) k
  simp only [pm_iinc, hl, pm_nx, Option.map_some]
theorem pw_iadd {u v z : Int32} (hc : pp_code P y pc = some .iadd) (hz : u + v = z) (k : pw P y (pc + 1, ls, .inl z :: st, kc, ks, h) Q) : pw P y (pc, ls, .inl v :: .inl u :: st, kc, ks, h) Q := by
  subst hz; exact pw_i hc rfl k
theorem pw_isub {u v z : Int32} (hc : pp_code P y pc = some .isub) (hz : u - v = z) (k : pw P y (pc + 1, ls, .inl z :: st, kc, ks, h) Q) : pw P y (pc, ls, .inl v :: .inl u :: st, kc, ks, h) Q := by
  subst hz; exact pw_i hc rfl k
theorem pw_imul {u v z : Int32} (hc : pp_code P y pc = some .imul) (hz : u * v = z) (k : pw P y (pc + 1, ls, .inl z :: st, kc, ks, h) Q) : pw P y (pc, ls, .inl v :: .inl u :: st, kc, ks, h) Q := by
  subst hz; exact pw_i hc rfl k
theorem pw_iand {u v z : Int32} (hc : pp_code P y pc = some .iand) (hz : u &&& v = z) (k : pw P y (pc + 1, ls, .inl z :: st, kc, ks, h) Q) : pw P y (pc, ls, .inl v :: .inl u :: st, kc, ks, h) Q := by
  subst hz; exact pw_i hc rfl k
theorem pw_ior {u v z : Int32} (hc : pp_code P y pc = some .ior) (hz : u ||| v = z) (k : pw P y (pc + 1, ls, .inl z :: st, kc, ks, h) Q) : pw P y (pc, ls, .inl v :: .inl u :: st, kc, ks, h) Q := by
  subst hz; exact pw_i hc rfl k
theorem pw_ixor {u v z : Int32} (hc : pp_code P y pc = some .ixor) (hz : u ^^^ v = z) (k : pw P y (pc + 1, ls, .inl z :: st, kc, ks, h) Q) : pw P y (pc, ls, .inl v :: .inl u :: st, kc, ks, h) Q := by
  subst hz; exact pw_i hc rfl k
theorem pw_ishl {u v z : Int32} (hc : pp_code P y pc = some .ishl) (hz : u <<< (v &&& 31) = z) (k : pw P y (pc + 1, ls, .inl z :: st, kc, ks, h) Q) : pw P y (pc, ls, .inl v :: .inl u :: st, kc, ks, h) Q := by
  subst hz; exact pw_i hc rfl k
theorem pw_ishr {u v z : Int32} (hc : pp_code P y pc = some .ishr) (hz : u >>> (v &&& 31) = z) (k : pw P y (pc + 1, ls, .inl z :: st, kc, ks, h) Q) : pw P y (pc, ls, .inl v :: .inl u :: st, kc, ks, h) Q := by
  subst hz; exact pw_i hc rfl k
theorem pw_iushr {u v z : Int32} (hc : pp_code P y pc = some .iushr) (hz : (u.toUInt32 >>> (v.toUInt32 &&& Int32.toUInt32 31)).toInt32 = z) (k : pw P y (pc + 1, ls, .inl z :: st, kc, ks, h) Q) : pw P y (pc, ls, .inl v :: .inl u :: st, kc, ks, h) Q := by
  subst hz; exact pw_i hc rfl k
theorem pw_idiv {u v z : Int32} (hc : pp_code P y pc = some .idiv) (hv : ¬ v = 0) (hz : u / v = z) (k : pw P y (pc + 1, ls, .inl z :: st, kc, ks, h) Q) : pw P y (pc, ls, .inl v :: .inl u :: st, kc, ks, h) Q := by
  subst hz
  refine pw_i hc (?_ : Option.map Sum.inl (pm_op2 .idiv pc ls (.inl v :: .inl u :: st) kc ks h) = _) k
  simp only [pm_op2, pm_bin, if_neg hv, pm_nx, Option.map_some]
theorem pw_irem {u v z : Int32} (hc : pp_code P y pc = some .irem) (hv : ¬ v = 0) (hz : u - u / v * v = z) (k : pw P y (pc + 1, ls, .inl z :: st, kc, ks, h) Q) : pw P y (pc, ls, .inl v :: .inl u :: st, kc, ks, h) Q := by
  subst hz
  refine pw_i hc (?_ : Option.map Sum.inl (pm_op2 .irem pc ls (.inl v :: .inl u :: st) kc ks h) = _) k
  simp only [pm_op2, pm_bin, if_neg hv, pm_nx, Option.map_some]
theorem pw_ineg {u z : Int32} (hc : pp_code P y pc = some .ineg) (hz : -u = z) (k : pw P y (pc + 1, ls, .inl z :: st, kc, ks, h) Q) : pw P y (pc, ls, .inl u :: st, kc, ks, h) Q := by
  subst hz; exact pw_i hc rfl k
theorem pw_dup {v : PV} (hc : pp_code P y pc = some .dup) (k : pw P y (pc + 1, ls, v :: v :: st, kc, ks, h) Q) : pw P y (pc, ls, v :: st, kc, ks, h) Q := pw_i hc rfl k
theorem pw_pop {v : PV} (hc : pp_code P y pc = some .pop) (k : pw P y (pc + 1, ls, st, kc, ks, h) Q) : pw P y (pc, ls, v :: st, kc, ks, h) Q := pw_i hc rfl k
theorem pw_dup_x1 {v w : PV} (hc : pp_code P y pc = some .dup_x1) (k : pw P y (pc + 1, ls, v :: w :: v :: st, kc, ks, h) Q) : pw P y (pc, ls, v :: w :: st, kc, ks, h) Q := pw_i hc rfl k
theorem pw_dup_x2 {v w u : PV} (hc : pp_code P y pc = some .dup_x2) (k : pw P y (pc + 1, ls, v :: w :: u :: v :: st, kc, ks, h) Q) : pw P y (pc, ls, v :: w :: u :: st, kc, ks, h) Q := pw_i hc rfl k
theorem pw_dup2 {v w : PV} (hc : pp_code P y pc = some .dup2) (k : pw P y (pc + 1, ls, v :: w :: v :: w :: st, kc, ks, h) Q) : pw P y (pc, ls, v :: w :: st, kc, ks, h) Q := pw_i hc rfl k
theorem pw_goto {off : Int} {t : Nat} (hc : pp_code P y pc = some (.goto off)) (ht : pm_tg pc off = some t) (k : pw P y (t, ls, st, kc, ks, h) Q) : pw P y (pc, ls, st, kc, ks, h) Q := by
  refine pw_i hc (?_ : Option.map Sum.inl (pm_goto off pc ls st kc ks h) = _) k
  simp only [pm_goto, ht, pm_nx, Option.map_some]
theorem pw_if1 {c : Jvm.ClassFile.Cond} {off : Int} {t : Nat} {x : Int32} (hc : pp_code P y pc = some (.ifCond c off)) (ht : pm_tg pc off = some t) (kt : pm_cnd c x 0 = true → pw P y (t, ls, st, kc, ks, h) Q) (kf : pm_cnd c x 0 = false → pw P y (pc + 3, ls, st, kc, ks, h) Q) : pw P y (pc, ls, .inl x :: st, kc, ks, h) Q := by
  cases hb : pm_cnd c x 0 with
  | true =>
    refine pw_i hc (?_ : Option.map Sum.inl (pm_if1 c off pc ls (.inl x :: st) kc ks h) = _) (kt hb)
    simp only [pm_if1, ht, hb, pm_br, pm_nx, Option.map_some]
  | false =>
    refine pw_i hc (?_ : Option.map Sum.inl (pm_if1 c off pc ls (.inl x :: st) kc ks h) = _) (kf hb)
    simp only [pm_if1, ht, hb, pm_br, pm_nx, Option.map_some]
theorem pw_if2 {c : Jvm.ClassFile.Cond} {off : Int} {t : Nat} {x z : Int32} (hc : pp_code P y pc = some (.if_icmp c off)) (ht : pm_tg pc off = some t) (kt : pm_cnd c x z = true → pw P y (t, ls, st, kc, ks, h) Q) (kf : pm_cnd c x z = false → pw P y (pc + 3, ls, st, kc, ks, h) Q) : pw P y (pc, ls, .inl z :: .inl x :: st, kc, ks, h) Q := by
  cases hb : pm_cnd c x z with
  | true =>
    refine pw_i hc (?_ : Option.map Sum.inl (pm_if2 c off pc ls (.inl z :: .inl x :: st) kc ks h) = _) (kt hb)
    simp only [pm_if2, ht, hb, pm_br, pm_nx, Option.map_some]
  | false =>
    refine pw_i hc (?_ : Option.map Sum.inl (pm_if2 c off pc ls (.inl z :: .inl x :: st) kc ks h) = _) (kf hb)
    simp only [pm_if2, ht, hb, pm_br, pm_nx, Option.map_some]
theorem pw_aeq {off : Int} {t : Nat} {x z : Option Nat} (hc : pp_code P y pc = some (.if_acmp .eq off)) (ht : pm_tg pc off = some t) (kt : x = z → pw P y (t, ls, st, kc, ks, h) Q) (kf : ¬ x = z → pw P y (pc + 3, ls, st, kc, ks, h) Q) : pw P y (pc, ls, .inr z :: .inr x :: st, kc, ks, h) Q := by
  by_cases hb : x = z
  · refine pw_i hc (?_ : Option.map Sum.inl (pm_ifa .eq off pc ls (.inr z :: .inr x :: st) kc ks h) = _) (kt hb)
    simp only [pm_ifa, pm_ac, ht, decide_eq_true hb, pm_br, pm_nx, Option.map_some]
  · refine pw_i hc (?_ : Option.map Sum.inl (pm_ifa .eq off pc ls (.inr z :: .inr x :: st) kc ks h) = _) (kf hb)
    simp only [pm_ifa, pm_ac, ht, decide_eq_false hb, pm_br, pm_nx, Option.map_some]
theorem pw_ane {off : Int} {t : Nat} {x z : Option Nat} (hc : pp_code P y pc = some (.if_acmp .ne off)) (ht : pm_tg pc off = some t) (kt : ¬ x = z → pw P y (t, ls, st, kc, ks, h) Q) (kf : x = z → pw P y (pc + 3, ls, st, kc, ks, h) Q) : pw P y (pc, ls, .inr z :: .inr x :: st, kc, ks, h) Q := by
  by_cases hb : x = z
  · refine pw_i hc (?_ : Option.map Sum.inl (pm_ifa .ne off pc ls (.inr z :: .inr x :: st) kc ks h) = _) (kf hb)
    have e : decide (¬ x = z) = false := decide_eq_false (fun q => q hb)
    simp only [pm_ifa, pm_ac, ht, e, pm_br, pm_nx, Option.map_some]
  · refine pw_i hc (?_ : Option.map Sum.inl (pm_ifa .ne off pc ls (.inr z :: .inr x :: st) kc ks h) = _) (kt hb)
    have e : decide (¬ x = z) = true := decide_eq_true hb
    simp only [pm_ifa, pm_ac, ht, e, pm_br, pm_nx, Option.map_some]
theorem pw_ifnullN {off : Int} {t : Nat} (hc : pp_code P y pc = some (.ifnull off)) (ht : pm_tg pc off = some t) (k : pw P y (t, ls, st, kc, ks, h) Q) : pw P y (pc, ls, .inr none :: st, kc, ks, h) Q := by
  refine pw_i hc (?_ : Option.map Sum.inl (pm_ifn false off pc ls (.inr none :: st) kc ks h) = _) k
  simp only [pm_ifn, ht, Bool.not_false, pm_br, pm_nx, Option.map_some]
theorem pw_ifnull {off : Int} {t i : Nat} (hc : pp_code P y pc = some (.ifnull off)) (ht : pm_tg pc off = some t) (k : pw P y (pc + 3, ls, st, kc, ks, h) Q) : pw P y (pc, ls, .inr (some i) :: st, kc, ks, h) Q := by
  refine pw_i hc (?_ : Option.map Sum.inl (pm_ifn false off pc ls (.inr (some i) :: st) kc ks h) = _) k
  simp only [pm_ifn, ht, pm_br, pm_nx, Option.map_some]
theorem pw_ifnonnullN {off : Int} {t : Nat} (hc : pp_code P y pc = some (.ifnonnull off)) (ht : pm_tg pc off = some t) (k : pw P y (pc + 3, ls, st, kc, ks, h) Q) : pw P y (pc, ls, .inr none :: st, kc, ks, h) Q := by
  refine pw_i hc (?_ : Option.map Sum.inl (pm_ifn true off pc ls (.inr none :: st) kc ks h) = _) k
  simp only [pm_ifn, ht, Bool.not_true, pm_br, pm_nx, Option.map_some]
theorem pw_ifnonnull {off : Int} {t i : Nat} (hc : pp_code P y pc = some (.ifnonnull off)) (ht : pm_tg pc off = some t) (k : pw P y (t, ls, st, kc, ks, h) Q) : pw P y (pc, ls, .inr (some i) :: st, kc, ks, h) Q := by
  refine pw_i hc (?_ : Option.map Sum.inl (pm_ifn true off pc ls (.inr (some i) :: st) kc ks h) = _) k
  simp only [pm_ifn, ht, pm_br, pm_nx, Option.map_some]
/-! cells of the pure heap -/
theorem pw_get {idx ci fk i : Nat} {fs : List PV} {v : PV} (hc : pp_code P y pc = some (.getfield idx)) (hf : pp_fld P (pp_own P y) idx = some (ci, fk)) (ho : h[i]? = some (.inr (.inr (ci, fs)))) (hv : fs[fk]? = some v) (k : pw P y (pc + 3, ls, v :: st, kc, ks, h) Q) : pw P y (pc, ls, .inr (some i) :: st, kc, ks, h) Q := by
  refine pw_i hc (?_ : Option.map Sum.inl (pm_get P y idx pc ls (.inr (some i) :: st) kc ks h) = _) k
  simp only [pm_get, hf, ho, hv, if_true, pm_nx, Option.map_some]
theorem pw_put {idx ci fk i : Nat} {fs fs1 : List PV} {v : PV} (hc : pp_code P y pc = some (.putfield idx)) (hf : pp_fld P (pp_own P y) idx = some (ci, fk)) (ho : h[i]? = some (.inr (.inr (ci, fs)))) (hl : fk < fs.length) (hv : pm_fit (pm_fty P ci fk) v = true) (e : fs.set fk v = fs1)
    (k : ∀ h1 : PH, h1 = h.set i (.inr (.inr (ci, fs1))) → pw P y (pc + 3, ls, st, kc, ks, h1) Q) : pw P y (pc, ls, v :: .inr (some i) :: st, kc, ks, h) Q := by
  subst e
  refine pw_i hc (?_ : Option.map Sum.inl (pm_put P y idx pc ls (v :: .inr (some i) :: st) kc ks h) = _) (k _ rfl)
  simp only [pm_put, hf, ho, hl, hv, and_self, if_true, pm_nx, Option.map_some]
theorem pw_iald {i n : Nat} {f : Nat → Int32} {j x : Int32} (hc : pp_code P y pc = some .iaload) (ho : h[i]? = some (.inl (0, n, f))) (hj : pm_in j n = true) (hx : f j.toNatClampNeg = x) (k : pw P y (pc + 1, ls, .inl x :: st, kc, ks, h) Q) : pw P y (pc, ls, .inl j :: .inr (some i) :: st, kc, ks, h) Q := by
  subst hx
  refine pw_i hc (?_ : Option.map Sum.inl (pm_iald pc ls (.inl j :: .inr (some i) :: st) kc ks h) = _) k
  simp only [pm_iald, ho, hj, true_or, and_self, if_true, pm_nx, Option.map_some]
theorem pw_sald {i n : Nat} {f : Nat → Int32} {j x : Int32} (hc : pp_code P y pc = some .iaload) (ho : h[i]? = some (.inl (2, n, f))) (hj : pm_in j n = true) (hx : f j.toNatClampNeg = x) (k : pw P y (pc + 1, ls, .inl x :: st, kc, ks, h) Q) : pw P y (pc, ls, .inl j :: .inr (some i) :: st, kc, ks, h) Q := by
  subst hx
  refine pw_i hc (?_ : Option.map Sum.inl (pm_iald pc ls (.inl j :: .inr (some i) :: st) kc ks h) = _) k
  simp only [pm_iald, ho, hj, or_true, and_self, if_true, pm_nx, Option.map_some]
theorem pw_zald {i n : Nat} {f : Nat → Int32} {j x : Int32} (hc : pp_code P y pc = some .baload) (ho : h[i]? = some (.inl (1, n, f))) (hj : pm_in j n = true) (hx : f j.toNatClampNeg = x) (k : pw P y (pc + 1, ls, .inl x :: st, kc, ks, h) Q) : pw P y (pc, ls, .inl j :: .inr (some i) :: st, kc, ks, h) Q := by
  subst hx
  refine pw_i hc (?_ : Option.map Sum.inl (pm_zald pc ls (.inl j :: .inr (some i) :: st) kc ks h) = _) k
  simp only [pm_zald, ho, hj, and_self, if_true, pm_nx, Option.map_some]
theorem pw_aald {i ci n : Nat} {f : Nat → Option Nat} {j : Int32} {x : Option Nat} (hc : pp_code P y pc = some .aaload) (ho : h[i]? = some (.inr (.inl (ci, n, f)))) (ha : ((pp_cl P)[ci]?.map (fun q => q.2.2)) = some true) (hj : pm_in j n = true) (hx : f j.toNatClampNeg = x) (k : pw P y (pc + 1, ls, .inr x :: st, kc, ks, h) Q) : pw P y (pc, ls, .inl j :: .inr (some i) :: st, kc, ks, h) Q := by
  subst hx
  refine pw_i hc (?_ : Option.map Sum.inl (pm_aald P pc ls (.inl j :: .inr (some i) :: st) kc ks h) = _) k
  simp only [pm_aald, ho]
  rw [if_pos ⟨ha, hj⟩]
  rfl
theorem pw_iast {i n : Nat} {f : Nat → Int32} {j x : Int32} (hc : pp_code P y pc = some .iastore) (ho : h[i]? = some (.inl (0, n, f))) (hj : pm_in j n = true)
    (k : ∀ h1 : PH, h1 = h.set i (.inl (0, n, upd f j.toNatClampNeg x)) → pw P y (pc + 1, ls, st, kc, ks, h1) Q) : pw P y (pc, ls, .inl x :: .inl j :: .inr (some i) :: st, kc, ks, h) Q := by
  refine pw_i hc (?_ : Option.map Sum.inl (pm_iast pc ls (.inl x :: .inl j :: .inr (some i) :: st) kc ks h) = _) (k _ rfl)
  simp only [pm_iast, ho, hj, and_self, if_true, pm_nx, Option.map_some]
theorem pw_zast {i n : Nat} {f : Nat → Int32} {j x : Int32} (hc : pp_code P y pc = some .bastore) (ho : h[i]? = some (.inl (1, n, f))) (hj : pm_in j n = true)
    (k : ∀ h1 : PH, h1 = h.set i (.inl (1, n, upd f j.toNatClampNeg (x &&& 1))) → pw P y (pc + 1, ls, st, kc, ks, h1) Q) : pw P y (pc, ls, .inl x :: .inl j :: .inr (some i) :: st, kc, ks, h) Q := by
  refine pw_i hc (?_ : Option.map Sum.inl (pm_zast pc ls (.inl x :: .inl j :: .inr (some i) :: st) kc ks h) = _) (k _ rfl)
  simp only [pm_zast, ho, hj, and_self, if_true, pm_nx, Option.map_some]
theorem pw_aast {i ci n v : Nat} {f : Nat → Option Nat} {fs : List PV} {j : Int32} (hc : pp_code P y pc = some .aastore) (ho : h[i]? = some (.inr (.inl (ci, n, f)))) (hv : h[v]? = some (.inr (.inr (ci, fs)))) (ha : ((pp_cl P)[ci]?.map (fun q => q.2.2)) = some true) (hj : pm_in j n = true)
    (k : ∀ h1 : PH, h1 = h.set i (.inr (.inl (ci, n, va_up f j.toNatClampNeg (some v)))) → pw P y (pc + 1, ls, st, kc, ks, h1) Q) : pw P y (pc, ls, .inr (some v) :: .inl j :: .inr (some i) :: st, kc, ks, h) Q := by
  refine pw_i hc (?_ : Option.map Sum.inl (pm_aast P pc ls (.inr (some v) :: .inl j :: .inr (some i) :: st) kc ks h) = _) (k _ rfl)
  simp only [pm_aast, ho, hv]
  rw [if_pos ⟨trivial, ha, hj⟩]
  rfl
theorem pw_alen {i kd n : Nat} {f : Nat → Int32} {v : Int32} (hc : pp_code P y pc = some .arraylength) (ho : h[i]? = some (.inl (kd, n, f))) (hk : kd < 3) (hv : Int32.ofNat n = v) (k : pw P y (pc + 1, ls, .inl v :: st, kc, ks, h) Q) : pw P y (pc, ls, .inr (some i) :: st, kc, ks, h) Q := by
  subst hv
  refine pw_i hc (?_ : Option.map Sum.inl (pm_alen pc ls (.inr (some i) :: st) kc ks h) = _) k
  simp only [pm_alen, ho, hk, if_true, pm_nx, Option.map_some]
theorem pw_new {idx ci q : Nat} {r : vw_C × List FieldType × Bool} (hc : pp_code P y pc = some (.new idx)) (hn : pp_cls P (pp_own P y) idx = some ci) (hr : (pp_cl P)[ci]? = some r) (h1 : kc + 1 ≤ (pp_rm P y).cells) (h2 : ks + r.1.2.2 ≤ (pp_rm P y).slots) (hq : h.length = q)
    (k : pw P y (pc + 3, ls, .inr (some q) :: st, kc + 1, ks + r.1.2.2, h ++ [.inr (.inr (ci, r.2.1.map pm_dfl))]) Q) : pw P y (pc, ls, st, kc, ks, h) Q := by
  subst hq
  refine pw_i hc (?_ : Option.map Sum.inl (pm_new P y idx pc ls st kc ks h) = _) k
  simp only [pm_new, hn, hr]
  rw [if_pos ⟨h1, h2⟩]
  rfl
theorem pw_newa {t : ArrayType} {kd q n1 : Nat} {n : Int32} (hc : pp_code P y pc = some (.newarray t)) (hk : pm_ak t = some kd) (hn : ¬ n < 0) (hn1 : n.toNatClampNeg = n1) (hz : n1 ≤ 100000) (h1 : kc + 1 ≤ (pp_rm P y).cells) (h2 : ks + n1 ≤ (pp_rm P y).slots) (hq : h.length = q)
    (k : pw P y (pc + 2, ls, .inr (some q) :: st, kc + 1, ks + n1, h ++ [.inl (kd, n1, fun _ => 0)]) Q) : pw P y (pc, ls, .inl n :: st, kc, ks, h) Q := by
  subst hq
  subst hn1
  refine pw_i hc (?_ : Option.map Sum.inl (pm_newa P y t pc ls (.inl n :: st) kc ks h) = _) k
  simp only [pm_newa, hk]
  rw [if_pos ⟨hn, hz, h1, h2⟩]
  rfl
theorem pw_newq {idx ci q n1 : Nat} {n : Int32} (hc : pp_code P y pc = some (.anewarray idx)) (hcl : pp_cls P (pp_own P y) idx = some ci) (ha : ((pp_cl P)[ci]?.map (fun q => q.2.2)) = some true) (hn : ¬ n < 0) (hn1 : n.toNatClampNeg = n1) (hz : n1 ≤ 100000) (h1 : kc + 1 ≤ (pp_rm P y).cells) (h2 : ks + n1 ≤ (pp_rm P y).slots) (hq : h.length = q)
    (k : pw P y (pc + 3, ls, .inr (some q) :: st, kc + 1, ks + n1, h ++ [.inr (.inl (ci, n1, fun _ => none))]) Q) : pw P y (pc, ls, .inl n :: st, kc, ks, h) Q := by
  subst hq
  subst hn1
  refine pw_i hc (?_ : Option.map Sum.inl (pm_newq P y idx pc ls (.inl n :: st) kc ks h) = _) k
  simp only [pm_newq, hcl]
  rw [if_pos ⟨ha, hn, hz, h1, h2⟩]
  rfl
theorem pw_sw {d lo hi off : Int} {offs : Array Int} {t : Nat} {x : Int32} (hc : pp_code P y pc = some (.tableswitch d lo hi offs)) (ho : (if x.toInt < lo ∨ hi < x.toInt then some d else offs[(x.toInt - lo).toNat]?) = some off) (ht : pm_tg pc off = some t) (k : pw P y (t, ls, st, kc, ks, h) Q) : pw P y (pc, ls, .inl x :: st, kc, ks, h) Q := by
  refine pw_i hc (?_ : Option.map Sum.inl (pm_sw d lo hi offs pc ls (.inl x :: st) kc ks h) = _) k
  simp only [pm_sw, ho, ht, pm_nx, Option.map_some]
/-! calls and ends -/
theorem pw_calls {idx z n kd ci : Nat} {as rest : List PV} (hc : pp_code P y pc = some (.invokestatic idx)) (hm : pp_mth P (pp_own P y) idx = some (z, n, kd, ci)) (h6 : kd < 6) (hw : kd / 2 = 0) (hn : n ≤ st.length) (h8 : (st.drop n).length ≤ 8) (h1 : kc + (pp_rm P z).cells ≤ (pp_rm P y).cells) (h2 : ks + (pp_rm P z).slots ≤ (pp_rm P y).slots) (has : (st.take n).reverse = as) (hrest : st.drop n = rest)
    (k : pz P z as h (fun r h1 => pw P y (pc + 3, ls, r.toList ++ rest, kc + (pp_rm P z).cells, ks + (pp_rm P z).slots, h1) Q)) : pw P y (pc, ls, st, kc, ks, h) Q := by
  subst has
  subst hrest
  refine pw_call (X := (pc, ls, st, kc, ks, h)) ?_ k
  have hr : pm_rcv kd ci st n h = true := by
    have h3 : kd = 0 ∨ kd = 1 := by omega
    rcases h3 with rfl | rfl <;> rfl
  unfold pm_s
  simp only [hc]
  show pm_call P y 0 idx pc ls st kc ks h = _
  unfold pm_call
  simp only [hm]
  rw [if_neg (by omega), if_neg (by omega), if_pos ⟨hw, hn, h8, h1, h2, hr⟩]
theorem pw_callv {idx z n kd ci i : Nat} {as rest fs : List PV} (hc : pp_code P y pc = some (.invokevirtual idx)) (hm : pp_mth P (pp_own P y) idx = some (z, n, kd, ci)) (h6 : kd < 6) (hw : kd / 2 = 1) (hn : n ≤ st.length) (h8 : (st.drop n).length ≤ 8) (h1 : kc + (pp_rm P z).cells ≤ (pp_rm P y).cells) (h2 : ks + (pp_rm P z).slots ≤ (pp_rm P y).slots) (hv : st[n - 1]? = some (.inr (some i))) (ho : h[i]? = some (.inr (.inr (ci, fs)))) (has : (st.take n).reverse = as) (hrest : st.drop n = rest)
    (k : pz P z as h (fun r h1 => pw P y (pc + 3, ls, r.toList ++ rest, kc + (pp_rm P z).cells, ks + (pp_rm P z).slots, h1) Q)) : pw P y (pc, ls, st, kc, ks, h) Q := by
  subst has
  subst hrest
  refine pw_call (X := (pc, ls, st, kc, ks, h)) ?_ k
  have hr : pm_rcv kd ci st n h = true := by
    have h3 : kd = 2 ∨ kd = 3 := by omega
    rcases h3 with rfl | rfl <;> simp only [pm_rcv, hv, ho, beq_self_eq_true]
  unfold pm_s
  simp only [hc]
  show pm_call P y 1 idx pc ls st kc ks h = _
  unfold pm_call
  simp only [hm]
  rw [if_neg (by omega), if_neg (by omega), if_pos ⟨hw, hn, h8, h1, h2, hr⟩]
theorem pw_calli {idx z n kd ci i : Nat} {as rest : List PV} (hc : pp_code P y pc = some (.invokespecial idx)) (hm : pp_mth P (pp_own P y) idx = some (z, n, kd, ci)) (h6 : kd = 4 ∨ kd = 5) (hn : n ≤ st.length) (h8 : (st.drop n).length ≤ 8) (h1 : kc + (pp_rm P z).cells ≤ (pp_rm P y).cells) (h2 : ks + (pp_rm P z).slots ≤ (pp_rm P y).slots) (hv : st[n - 1]? = some (.inr (some i))) (has : (st.take n).reverse = as) (hrest : st.drop n = rest)
    (k : pz P z as h (fun r h1 => pw P y (pc + 3, ls, r.toList ++ rest, kc + (pp_rm P z).cells, ks + (pp_rm P z).slots, h1) Q)) : pw P y (pc, ls, st, kc, ks, h) Q := by
  subst has
  subst hrest
  refine pw_call (X := (pc, ls, st, kc, ks, h)) ?_ k
  have hr : pm_rcv kd ci st n h = true := by
    rcases h6 with rfl | rfl <;> simp only [pm_rcv, hv]
  unfold pm_s
  simp only [hc]
  show pm_call P y 2 idx pc ls st kc ks h = _
  unfold pm_call
  simp only [hm]
  rw [if_neg (by omega), if_neg (by omega), if_pos ⟨by omega, hn, h8, h1, h2, hr⟩]
theorem pw_obj {idx z n ci i : Nat} (hc : pp_code P y pc = some (.invokespecial idx)) (hm : pp_mth P (pp_own P y) idx = some (z, n, 6, ci)) (h8 : st.length ≤ 8) (k : pw P y (pc + 3, ls, st, kc, ks, h) Q) : pw P y (pc, ls, .inr (some i) :: st, kc, ks, h) Q := by
  refine pw_i hc (?_ : pm_call P y 2 idx pc ls (.inr (some i) :: st) kc ks h = _) k
  unfold pm_call
  simp only [hm, if_true]
  rw [if_pos ⟨trivial, by simpa using h8⟩]
theorem pw_math {idx z n kd ci : Nat} {st1 : List PV} (hc : pp_code P y pc = some (.invokestatic idx)) (hm : pp_mth P (pp_own P y) idx = some (z, n, kd, ci)) (h6 : 6 < kd) (h1 : kc ≤ (pp_rm P y).cells) (h2 : ks ≤ (pp_rm P y).slots) (hst : pm_math kd st = some st1) (h9 : st1.length ≤ 9) (k : pw P y (pc + 3, ls, st1, kc, ks, h) Q) : pw P y (pc, ls, st, kc, ks, h) Q := by
  refine pw_i hc (?_ : pm_call P y 0 idx pc ls st kc ks h = _) k
  unfold pm_call
  simp only [hm]
  rw [if_neg (by omega), if_pos h6, if_pos ⟨trivial, h1, h2⟩]
  simp only [hst]
  rw [if_pos h9]
theorem pw_s {ins : Instr} {r : Option PV} (hc : pp_code P y pc = some ins) (hi : pm_i P y ins pc ls st kc ks h = some (.inr (.inr r))) (q : Q r h) : pw P y (pc, ls, st, kc, ks, h) Q := by
  refine pw_ret (X := (pc, ls, st, kc, ks, h)) (r := r) ?_ q
  unfold pm_s
  simp only [hc]
  exact hi
theorem pw_iret {x : Int32} {ty : FieldType} (hc : pp_code P y pc = some .ireturn) (hty : pp_ret P y = some ty) (h1 : kc ≤ (pp_rm P y).cells) (h2 : ks ≤ (pp_rm P y).slots) (hf : pm_fit ty (.inl x) = true) (q : Q (some (.inl x)) h) : pw P y (pc, ls, [.inl x], kc, ks, h) Q := by
  refine pw_s hc (?_ : pm_ret P y .ireturn [.inl x] kc ks = _) q
  unfold pm_ret
  rw [if_pos ⟨h1, h2⟩]
  simp only [hty, hf, if_true]
theorem pw_aret {x : Option Nat} {ty : FieldType} (hc : pp_code P y pc = some .areturn) (hty : pp_ret P y = some ty) (h1 : kc ≤ (pp_rm P y).cells) (h2 : ks ≤ (pp_rm P y).slots) (hf : pm_fit ty (.inr x) = true) (q : Q (some (.inr x)) h) : pw P y (pc, ls, [.inr x], kc, ks, h) Q := by
  refine pw_s hc (?_ : pm_ret P y .areturn [.inr x] kc ks = _) q
  unfold pm_ret
  rw [if_pos ⟨h1, h2⟩]
  simp only [hty, hf, if_true]
theorem pw_vret (hc : pp_code P y pc = some .return_) (hty : pp_ret P y = none) (h1 : kc ≤ (pp_rm P y).cells) (h2 : ks ≤ (pp_rm P y).slots) (q : Q none h) : pw P y (pc, ls, [], kc, ks, h) Q := by
  refine pw_s hc (?_ : pm_ret P y .return_ [] kc ks = _) q
  unfold pm_ret
  rw [if_pos ⟨h1, h2⟩]
  simp only [hty]
end PWS
