/-! ONE STEP of the pure machine is what the model does, an instruction a row. -/
/-- the machine's side of a frame: program, launch, environment, room, state at the method's start, method, arguments, what is below, code, goal -/
abbrev MC := Program × Launch × Env × Room × State × MethodId × Array Value × List Frame × Method × Code × (State → Prop)
abbrev mc_R (M : MC) : Room := M.2.2.2.1
abbrev mc_s (M : MC) : State := M.2.2.2.2.1
abbrev mc_m (M : MC) : MethodId := M.2.2.2.2.2.1
abbrev mc_a (M : MC) : Array Value := M.2.2.2.2.2.2.1
abbrev mc_meth (M : MC) : Method := M.2.2.2.2.2.2.2.2.1
abbrev mc_c (M : MC) : Code := M.2.2.2.2.2.2.2.2.2.1
abbrev pm_W (M : MC) (H : Heap) (locs : List Loc) (kc ks : Nat) (g : JFrame) : Prop :=
  W M.1 M.2.1 M.2.2.1 M.2.2.2.1 M.2.2.2.2.1 M.2.2.2.2.2.1 M.2.2.2.2.2.2.1 M.2.2.2.2.2.2.2.1 M.2.2.2.2.2.2.2.2.1 M.2.2.2.2.2.2.2.2.2.1 H locs kc ks M.2.2.2.2.2.2.2.2.2.2 g
/-- the frame's picture: heap, locals, what was written, what is old stays -/
def ps_J (P : PP) (D : va_G) (dA : Nat → ClassId) (b B y : Nat) (s : State) (ls : List (Option PV)) (h : PH) (H : Heap) (locs : List Loc) (a : Array Slot) : Prop :=
  pr_R P s D dA b B h H ∧ pr_L b B ls a (pp_ml P y) ∧ (∀ q ∈ locs, B ≤ q.base) ∧ ∀ q : Nat, q < B → H[q]? = s.heap[q]?
def ps_T (M : MC) (P : PP) (D : va_G) (dA : Nat → ClassId) (b B y : Nat) (pc : Nat) (ls : List (Option PV)) (st : List PV) (kc ks : Nat) (h : PH) : Prop :=
  ∀ (H : Heap) (locs : List Loc) (a : Array Slot), ps_J P D dA b B y (mc_s M) ls h H locs a → pm_W M H locs kc ks (F0 (mc_m M) pc a (st.map (pr_v b B)))
def ps_C (M : MC) (P : PP) (D : va_G) (dA : Nat → ClassId) (b B y : Nat) (ws ns : List Cond) : Prop :=
  M.1.tables.exec = Jvm.exec ∧ (mc_c M).code = pp_by P y ∧ (mc_c M).maxLocals = pp_ml P y ∧ (mc_s M).vm.findClass (pp_nm P y).cls = some (mc_m M).cls ∧ (∀ w ∈ ws, w.before (mc_a M) (mc_s M) = true) ∧
  (∀ w ∈ ns, va_Nw w (mc_s M)) ∧ pr_K P D dA (mc_s M) ∧ mc_R M = pp_rm P y ∧ ((pp_nm P y).name = "<init>" → (mc_meth M).name = "<init>") ∧ b < B
/-! what the tables of a program must be: each row is decided for the program at hand -/
def pk_C (P : PP) : Prop := ∀ (y pc : Nat) (ins : Instr), pp_code P y pc = some ins → ∃ len, decode (pp_by P y) pc = .ok (ins, len) ∧ ∀ n, pm_len ins = some n → len = n
def pk_K (P : PP) (ws : List Cond) : Prop := ∀ (ci : Nat) (r : vw_C × List FieldType × Bool), (pp_cl P)[ci]? = some r → (∀ w ∈ u_ws r.1.1 r.1.2.1 r.1.2.2, w ∈ ws) ∧ r.2.1.length = r.1.2.2 ∧
  (∀ k, k < r.1.2.2 → parseFieldDescriptor (r.1.2.1 k).2.2.1 = some (r.2.1.getD k .long)) ∧ (∀ a, a < r.1.2.2 → ∀ b, b < r.1.2.2 → a ≠ b → (r.1.2.1 a).2.1 ≠ (r.1.2.1 b).2.1) ∧ (∀ t ∈ r.2.1, pm_plain t = true) ∧ Cond.instantiable r.1.1 r.1.2.2 ∈ ws ∧ Cond.initialized r.1.1 ∈ ws
def pk_F (P : PP) (ws ns : List Cond) : Prop := ∀ y idx ci k : Nat, pp_fld P (pp_own P y) idx = some (ci, k) → ∃ r : vw_C × List FieldType × Bool, (pp_cl P)[ci]? = some r ∧ k < r.1.2.2 ∧
  (Cond.fieldLink (pp_nm P y).cls idx (r.1.2.1 k).1 (r.1.2.1 k).2.1 (r.1.2.1 k).2.2.1 ∈ ws ∨ ∃ host : String, Cond.fieldLinkNest (pp_nm P y).cls idx (r.1.2.1 k).1 (r.1.2.1 k).2.1 (r.1.2.1 k).2.2.1 host ∈ ns)
def pk_P (P : PP) (ws : List Cond) : Prop := ∀ (y pc idx ci k : Nat) (r : vw_C × List FieldType × Bool), pp_code P y pc = some (.putfield idx) → pp_fld P (pp_own P y) idx = some (ci, k) → (pp_cl P)[ci]? = some r →
  (r.1.2.1 k).2.2.2 = false ∨ ((r.1.2.1 k).2.2.2 = true ∧ (pp_nm P y).name = "<init>" ∧ (r.1.2.1 k).1 = (pp_nm P y).cls ∧ Cond.fieldLink (pp_nm P y).cls idx (r.1.2.1 k).1 (r.1.2.1 k).2.1 (r.1.2.1 k).2.2.1 ∈ ws)
/-- a link of a method -/
def pk_link (P : PP) (ws ns : List Cond) (cn : String) (idx z n kd ci : Nat) : Prop := match kd with
  | 0 => (parseMethodDescriptor (pp_nm P z).desc).map (fun d => d.parameters.length) = some n ∧ Cond.methodLink cn idx (pp_nm P z) ∈ ws ∧ Cond.static (pp_nm P z) ∈ ws
  | 1 => (parseMethodDescriptor (pp_nm P z).desc).map (fun d => d.parameters.length) = some n ∧ (∃ host : String, Cond.methodLinkNest cn idx (pp_nm P z) host ∈ ns) ∧ Cond.static (pp_nm P z) ∈ ws
  | 2 => (∃ q, n = q + 1 ∧ (parseMethodDescriptor (pp_nm P z).desc).map (fun d => d.parameters.length) = some q) ∧ Cond.methodLink cn idx (pp_nm P z) ∈ ws ∧ Cond.instanceMethod (pp_nm P z) ∈ ws ∧ Cond.selects (pp_nm P z).cls (pp_nm P z) (pp_nm P z) ∈ ws ∧ ∃ r : vw_C × List FieldType × Bool, (pp_cl P)[ci]? = some r ∧ r.1.1 = (pp_nm P z).cls
  | 3 => (∃ q, n = q + 1 ∧ (parseMethodDescriptor (pp_nm P z).desc).map (fun d => d.parameters.length) = some q) ∧ (∃ host : String, Cond.methodLinkNest cn idx (pp_nm P z) host ∈ ns) ∧ Cond.instanceMethod (pp_nm P z) ∈ ws ∧ Cond.selects (pp_nm P z).cls (pp_nm P z) (pp_nm P z) ∈ ws ∧ ∃ r : vw_C × List FieldType × Bool, (pp_cl P)[ci]? = some r ∧ r.1.1 = (pp_nm P z).cls
  | 4 => (∃ q, n = q + 1 ∧ (parseMethodDescriptor (pp_nm P z).desc).map (fun d => d.parameters.length) = some q) ∧ Cond.methodLink cn idx (pp_nm P z) ∈ ws ∧ Cond.instanceMethod (pp_nm P z) ∈ ws ∧ (pp_nm P z).name = "<init>" ∧ pp_ret P z = none
  | 5 => (∃ q, n = q + 1 ∧ (parseMethodDescriptor (pp_nm P z).desc).map (fun d => d.parameters.length) = some q) ∧ (∃ host : String, Cond.methodLinkNest cn idx (pp_nm P z) host ∈ ns) ∧ Cond.instanceMethod (pp_nm P z) ∈ ws ∧ (pp_nm P z).name = "<init>" ∧ pp_ret P z = none
  | _ => False
def pk_math (ws : List Cond) (cn : String) (idx kd : Nat) : Prop := Cond.initialized "java/lang/Math" ∈ ws ∧ match kd with
  | 7 => Cond.methodLink cn idx Lib.Math.max.name ∈ ws ∧ Cond.static Lib.Math.max.name ∈ ws ∧ Cond.code Lib.Math.max.name Lib.Math.max.code 2 (some .int) ∈ ws
  | 8 => Cond.methodLink cn idx Lib.Math.min.name ∈ ws ∧ Cond.static Lib.Math.min.name ∈ ws ∧ Cond.code Lib.Math.min.name Lib.Math.min.code 2 (some .int) ∈ ws
  | 9 => Cond.methodLink cn idx Lib.Math.abs.name ∈ ws ∧ Cond.static Lib.Math.abs.name ∈ ws ∧ Cond.code Lib.Math.abs.name Lib.Math.abs.code 1 (some .int) ∈ ws
  | _ => False
def pk_M (P : PP) (ws ns : List Cond) : Prop := ∀ y idx z n kd ci : Nat, pp_mth P (pp_own P y) idx = some (z, n, kd, ci) →
  (kd = 6 ∧ Cond.methodLink (pp_nm P y).cls idx Lib.objectInit ∈ ws ∧ Cond.instanceMethod Lib.objectInit ∈ ws ∧ Cond.code Lib.objectInit ⟨#[0xb1]⟩ 1 none ∈ ws) ∨ (6 < kd ∧ pk_math ws (pp_nm P y).cls idx kd) ∨ pk_link P ws ns (pp_nm P y).cls idx z n kd ci
def pk_Z (P : PP) (ws : List Cond) : Prop := ∀ y idx z n kd ci : Nat, pp_mth P (pp_own P y) idx = some (z, n, kd, ci) → kd < 6 → n ≤ pp_ml P z ∧ Cond.code (pp_nm P z) (pp_by P z) (pp_ml P z) (pp_ret P z) ∈ ws ∧ Cond.initialized (pp_nm P z).cls ∈ ws ∧
  (pp_nm P z).cls ≠ "java/lang/invoke/MethodHandle" ∧ (pp_nm P z).cls ≠ "java/lang/invoke/VarHandle" ∧ plainName (pp_nm P z).cls = true
def pk_R (P : PP) : Prop := ∀ (y pc idx z n kd ci : Nat), (pp_code P y pc = some (.invokestatic idx) ∨ pp_code P y pc = some (.invokevirtual idx) ∨ pp_code P y pc = some (.invokespecial idx)) → pp_mth P (pp_own P y) idx = some (z, n, kd, ci) →
  (6 ≤ kd → 1 ≤ (pp_rm P y).frames ∧ 22 ≤ (pp_rm P y).locals) ∧ (kd < 6 → (pp_rm P z).frames + 1 ≤ (pp_rm P y).frames ∧ 8 + (pp_ml P z + 11) + (pp_rm P z).locals ≤ (pp_rm P y).locals)
def pk_V (P : PP) (ws : List Cond) : Prop := ∀ (y idx : Nat) (v : Int32), pp_cst P (pp_own P y) idx = some v → Cond.constant (pp_nm P y).cls idx v ∈ ws
def pk_N (P : PP) (ws : List Cond) : Prop := ∀ y idx ci : Nat, pp_cls P (pp_own P y) idx = some ci → ∃ r : vw_C × List FieldType × Bool, (pp_cl P)[ci]? = some r ∧ Cond.classLink (pp_nm P y).cls idx r.1.1 ∈ ws
def pk_A (ws : List Cond) : Prop := Cond.arrayClass .int ∈ ws ∧ Cond.arrayClass .boolean ∈ ws
def pk_G (ws : List Cond) : Prop := ∀ w ∈ ws, (w.onTables && w.keeps) = true ∨ ∃ ty, w = .arrayClass ty
def pk_S (ns : List Cond) : Prop := ∀ w ∈ ns, (∃ a i b n d h, w = .fieldLinkNest a i b n d h) ∨ ∃ a i x h, w = .methodLinkNest a i x h
def pk_all (P : PP) (ws ns : List Cond) : Prop := pk_C P ∧ pk_K P ws ∧ pk_F P ws ns ∧ pk_P P ws ∧ pk_M P ws ns ∧ pk_Z P ws ∧ pk_R P ∧ pk_V P ws ∧ pk_N P ws ∧ pk_A ws ∧ pk_G ws ∧ pk_S ns
theorem pm_tg_eq {pc t : Nat} {off : Int} (h : pm_tg pc off = some t) : (pc : Int) + off = (t : Int) := by
  unfold pm_tg at h
  split at h
  · rename_i t' e
    cases h
    exact e
  · cases h
theorem pm_br_t {b : Bool} {t pc : Nat} (h : b = true) : pm_br b t pc = t := by subst h; rfl
theorem pm_br_f {b : Bool} {t pc : Nat} (h : b = false) : pm_br b t pc = pc + 3 := by subst h; rfl
theorem pm_in_vp {j : Int32} {n : Nat} (h : pm_in j n = true) : vp_in j n := by
  have h1 : ¬ j < 0 ∧ j.toNatClampNeg < n := by simpa [pm_in] using h
  intro q
  rcases q with q | q
  · exact h1.1 q
  · omega
section PS
variable {M : MC} {P : PP} {D : va_G} {dA : Nat → ClassId} {b B y : Nat} {ws ns : List Cond} {pc kc ks : Nat} {ls : List (Option PV)} {st : List PV} {h : PH}
theorem ps_iconst (C : ps_C M P D dA b B y ws ns) {n : Int} (hd : decode (pp_by P y) pc = .ok (.iconst n, 1)) (k : ps_T M P D dA b B y (pc + 1) ls (.inl (Int32.ofInt n) :: st) kc ks h) : ps_T M P D dA b B y pc ls st kc ks h :=
  fun H locs a J => lv_iconst C.1 C.2.1 hd rfl (k H locs a J)
theorem ps_bipush (C : ps_C M P D dA b B y ws ns) {n : Int} (hd : decode (pp_by P y) pc = .ok (.bipush n, 2)) (k : ps_T M P D dA b B y (pc + 2) ls (.inl (Int8.ofInt n).toInt32 :: st) kc ks h) : ps_T M P D dA b B y pc ls st kc ks h :=
  fun H locs a J => lv_bipush C.1 C.2.1 hd rfl (k H locs a J)
theorem ps_sipush (C : ps_C M P D dA b B y ws ns) {n : Int} (hd : decode (pp_by P y) pc = .ok (.sipush n, 3)) (k : ps_T M P D dA b B y (pc + 3) ls (.inl (Int16.ofInt n).toInt32 :: st) kc ks h) : ps_T M P D dA b B y pc ls st kc ks h :=
  fun H locs a J => lv_sipush C.1 C.2.1 hd rfl (k H locs a J)
theorem ps_ldc (C : ps_C M P D dA b B y ws ns) (V : pk_V P ws) {idx : Nat} {v : Int32} (hv : pp_cst P (pp_own P y) idx = some v) (hd : decode (pp_by P y) pc = .ok (.ldc idx, 2)) (k : ps_T M P D dA b B y (pc + 2) ls (.inl v :: st) kc ks h) : ps_T M P D dA b B y pc ls st kc ks h :=
  fun H locs a J => lv_ldc C.1 C.2.1 C.2.2.2.1 (C.2.2.2.2.1 _ (V y idx v hv)) hd (k H locs a J)
theorem ps_null (C : ps_C M P D dA b B y ws ns) (hd : decode (pp_by P y) pc = .ok (.aconst_null, 1)) (k : ps_T M P D dA b B y (pc + 1) ls (.inr none :: st) kc ks h) : ps_T M P D dA b B y pc ls st kc ks h :=
  fun H locs a J => lv_null C.1 C.2.1 hd (k H locs a J)
theorem ps_iload_n (C : ps_C M P D dA b B y ws ns) {i : Fin 4} {x : Int32} (hl : ls[i.val]? = some (some (.inl x))) (hd : decode (pp_by P y) pc = .ok (.iload_n i, 1)) (k : ps_T M P D dA b B y (pc + 1) ls (.inl x :: st) kc ks h) : ps_T M P D dA b B y pc ls st kc ks h :=
  fun H locs a J => lv_iload_n C.1 C.2.1 hd rfl (J.2.1.2.2.2 _ _ hl) (k H locs a J)
theorem ps_iload (C : ps_C M P D dA b B y ws ns) {i : Nat} {x : Int32} (hl : ls[i]? = some (some (.inl x))) (hd : decode (pp_by P y) pc = .ok (.iload i, 2)) (k : ps_T M P D dA b B y (pc + 2) ls (.inl x :: st) kc ks h) : ps_T M P D dA b B y pc ls st kc ks h :=
  fun H locs a J => lv_iload C.1 C.2.1 hd (J.2.1.2.2.2 _ _ hl) (k H locs a J)
theorem ps_aload_n (C : ps_C M P D dA b B y ws ns) {i : Fin 4} {x : Option Nat} (hl : ls[i.val]? = some (some (.inr x))) (hd : decode (pp_by P y) pc = .ok (.aload_n i, 1)) (k : ps_T M P D dA b B y (pc + 1) ls (.inr x :: st) kc ks h) : ps_T M P D dA b B y pc ls st kc ks h := by
  intro H locs a J
  have hl := J.2.1.2.2.2 _ _ hl
  have k := k H locs a J
  cases x with
  | none => exact lv_aload_nN C.1 C.2.1 hd rfl hl k
  | some x => exact lv_aload_n C.1 C.2.1 hd rfl hl k
theorem ps_aload (C : ps_C M P D dA b B y ws ns) {i : Nat} {x : Option Nat} (hl : ls[i]? = some (some (.inr x))) (hd : decode (pp_by P y) pc = .ok (.aload i, 2)) (k : ps_T M P D dA b B y (pc + 2) ls (.inr x :: st) kc ks h) : ps_T M P D dA b B y pc ls st kc ks h := by
  intro H locs a J
  have hl := J.2.1.2.2.2 _ _ hl
  have k := k H locs a J
  cases x with
  | none => exact lv_aloadN C.1 C.2.1 hd hl k
  | some x => exact lv_aload C.1 C.2.1 hd hl k
theorem ps_Jset {s : State} {H : Heap} {locs : List Loc} {a a1 : Array Slot} {i : Nat} {v : PV} (J : ps_J P D dA b B y s ls h H locs a) (hi : i < ls.length) (h1 : lv_has a1 (pp_ml P y) ((i, pr_v b B v) :: (pr_ll b B ls).filter (fun q => !(q.1 == i) && !(q.1 + 1 == i && q.2.category == 2)))) : ps_J P D dA b B y s (ls.set i (some v)) h H locs a1 :=
  ⟨J.1, J.2.1.set hi h1, J.2.2⟩
theorem ps_istore_n (C : ps_C M P D dA b B y ws ns) {i : Fin 4} {x : Int32} (hi : i.val < ls.length) (hd : decode (pp_by P y) pc = .ok (.istore_n i, 1)) (k : ps_T M P D dA b B y (pc + 1) (ls.set i.val (some (.inl x))) st kc ks h) : ps_T M P D dA b B y pc ls (.inl x :: st) kc ks h :=
  fun H locs a J => lv_istore_n C.1 C.2.1 hd rfl J.2.1.has (by rw [← J.2.1.1]; exact hi) rfl (fun a1 h1 => k H locs a1 (ps_Jset (v := .inl x) J hi h1))
theorem ps_istore (C : ps_C M P D dA b B y ws ns) {i : Nat} {x : Int32} (hi : i < ls.length) (hd : decode (pp_by P y) pc = .ok (.istore i, 2)) (k : ps_T M P D dA b B y (pc + 2) (ls.set i (some (.inl x))) st kc ks h) : ps_T M P D dA b B y pc ls (.inl x :: st) kc ks h :=
  fun H locs a J => lv_istore C.1 C.2.1 hd J.2.1.has (by rw [← J.2.1.1]; exact hi) rfl (fun a1 h1 => k H locs a1 (ps_Jset (v := .inl x) J hi h1))
theorem ps_astore_n (C : ps_C M P D dA b B y ws ns) {i : Fin 4} {x : Option Nat} (hi : i.val < ls.length) (hd : decode (pp_by P y) pc = .ok (.astore_n i, 1)) (k : ps_T M P D dA b B y (pc + 1) (ls.set i.val (some (.inr x))) st kc ks h) : ps_T M P D dA b B y pc ls (.inr x :: st) kc ks h := by
  intro H locs a J
  cases x with
  | none => exact lv_astore_nN C.1 C.2.1 hd rfl J.2.1.has (by rw [← J.2.1.1]; exact hi) rfl (fun a1 h1 => k H locs a1 (ps_Jset (v := .inr none) J hi h1))
  | some x => exact lv_astore_n C.1 C.2.1 hd rfl J.2.1.has (by rw [← J.2.1.1]; exact hi) rfl (fun a1 h1 => k H locs a1 (ps_Jset (v := .inr (some x)) J hi h1))
theorem ps_astore (C : ps_C M P D dA b B y ws ns) {i : Nat} {x : Option Nat} (hi : i < ls.length) (hd : decode (pp_by P y) pc = .ok (.astore i, 2)) (k : ps_T M P D dA b B y (pc + 2) (ls.set i (some (.inr x))) st kc ks h) : ps_T M P D dA b B y pc ls (.inr x :: st) kc ks h := by
  intro H locs a J
  cases x with
  | none => exact lv_astoreN C.1 C.2.1 hd J.2.1.has (by rw [← J.2.1.1]; exact hi) rfl (fun a1 h1 => k H locs a1 (ps_Jset (v := .inr none) J hi h1))
  | some x => exact lv_astore C.1 C.2.1 hd J.2.1.has (by rw [← J.2.1.1]; exact hi) rfl (fun a1 h1 => k H locs a1 (ps_Jset (v := .inr (some x)) J hi h1))
theorem ps_iinc (C : ps_C M P D dA b B y ws ns) {i : Nat} {d : Int} {x : Int32} (hl : ls[i]? = some (some (.inl x))) (hd : decode (pp_by P y) pc = .ok (.iinc i d, 3)) (k : ps_T M P D dA b B y (pc + 3) (ls.set i (some (.inl (x + Int32.ofInt d)))) st kc ks h) : ps_T M P D dA b B y pc ls st kc ks h := by
  intro H locs a J
  have hi : i < ls.length := (List.getElem?_eq_some_iff.mp hl).1
  obtain ⟨j, hj⟩ := List.getElem?_of_mem (pr_ll_in (b := b) (B := B) hl)
  exact lv_iinc C.1 C.2.1 hd J.2.1.has hj rfl (by rw [← J.2.1.1]; exact hi) rfl (fun a1 h1 => k H locs a1 (ps_Jset (v := .inl (x + Int32.ofInt d)) J hi h1))
theorem ps_op2 (C : ps_C M P D dA b B y ws ns) {ins : Instr} {u v z : Int32} (hz : pm_bin ins u v = some z) (hd : decode (pp_by P y) pc = .ok (ins, 1)) (k : ps_T M P D dA b B y (pc + 1) ls (.inl z :: st) kc ks h) : ps_T M P D dA b B y pc ls (.inl v :: .inl u :: st) kc ks h := by
  intro H locs a J
  have k := k H locs a J
  cases ins with
  | iadd => cases hz; exact lv_iadd C.1 C.2.1 hd k
  | isub => cases hz; exact lv_isub C.1 C.2.1 hd k
  | imul => cases hz; exact lv_imul C.1 C.2.1 hd k
  | iand => cases hz; exact lv_iand C.1 C.2.1 hd k
  | ior => cases hz; exact lv_ior C.1 C.2.1 hd k
  | ixor => cases hz; exact lv_ixor C.1 C.2.1 hd k
  | ishl => cases hz; exact lv_ishl C.1 C.2.1 hd k
  | ishr => cases hz; exact lv_ishr C.1 C.2.1 hd k
  | iushr => cases hz; exact lv_iushr C.1 C.2.1 hd rfl k
  | idiv =>
    have hz : (if v = 0 then none else some (u / v)) = some z := hz
    split at hz
    · cases hz
    · rename_i hne
      cases hz
      exact lv_idiv C.1 C.2.1 hd hne k
  | irem =>
    have hz : (if v = 0 then none else some (u - u / v * v)) = some z := hz
    split at hz
    · cases hz
    · rename_i hne
      cases hz
      exact lv_irem C.1 C.2.1 hd hne k
  | _ => exact nomatch (show (none : Option Int32) = some z from hz)
theorem ps_ineg (C : ps_C M P D dA b B y ws ns) {u : Int32} (hd : decode (pp_by P y) pc = .ok (.ineg, 1)) (k : ps_T M P D dA b B y (pc + 1) ls (.inl (-u) :: st) kc ks h) : ps_T M P D dA b B y pc ls (.inl u :: st) kc ks h :=
  fun H locs a J => lv_ineg C.1 C.2.1 hd (k H locs a J)
theorem ps_dup (C : ps_C M P D dA b B y ws ns) {v : PV} (hd : decode (pp_by P y) pc = .ok (.dup, 1)) (k : ps_T M P D dA b B y (pc + 1) ls (v :: v :: st) kc ks h) : ps_T M P D dA b B y pc ls (v :: st) kc ks h :=
  fun H locs a J => lv_dup C.1 C.2.1 hd (pr_cat b B v) (k H locs a J)
theorem ps_pop (C : ps_C M P D dA b B y ws ns) {v : PV} (hd : decode (pp_by P y) pc = .ok (.pop, 1)) (k : ps_T M P D dA b B y (pc + 1) ls st kc ks h) : ps_T M P D dA b B y pc ls (v :: st) kc ks h :=
  fun H locs a J => lv_pop C.1 C.2.1 hd (pr_cat b B v) (k H locs a J)
theorem ps_dup_x1 (C : ps_C M P D dA b B y ws ns) {v w : PV} (hd : decode (pp_by P y) pc = .ok (.dup_x1, 1)) (k : ps_T M P D dA b B y (pc + 1) ls (v :: w :: v :: st) kc ks h) : ps_T M P D dA b B y pc ls (v :: w :: st) kc ks h :=
  fun H locs a J => lv_dup_x1 C.1 C.2.1 hd (pr_cat b B v) (pr_cat b B w) (k H locs a J)
theorem ps_dup_x2 (C : ps_C M P D dA b B y ws ns) {v w u : PV} (hd : decode (pp_by P y) pc = .ok (.dup_x2, 1)) (k : ps_T M P D dA b B y (pc + 1) ls (v :: w :: u :: v :: st) kc ks h) : ps_T M P D dA b B y pc ls (v :: w :: u :: st) kc ks h :=
  fun H locs a J => lv_dup_x2 C.1 C.2.1 hd (pr_cat b B v) (pr_cat b B w) (pr_cat b B u) (k H locs a J)
theorem ps_dup2 (C : ps_C M P D dA b B y ws ns) {v w : PV} (hd : decode (pp_by P y) pc = .ok (.dup2, 1)) (k : ps_T M P D dA b B y (pc + 1) ls (v :: w :: v :: w :: st) kc ks h) : ps_T M P D dA b B y pc ls (v :: w :: st) kc ks h :=
  fun H locs a J => lv_dup2_11 C.1 C.2.1 hd (pr_cat b B v) (pr_cat b B w) (k H locs a J)
theorem ps_goto (C : ps_C M P D dA b B y ws ns) {off : Int} {t : Nat} (ht : pm_tg pc off = some t) (hd : decode (pp_by P y) pc = .ok (.goto off, 3)) (k : ps_T M P D dA b B y t ls st kc ks h) : ps_T M P D dA b B y pc ls st kc ks h :=
  fun H locs a J => lv_goto C.1 C.2.1 hd (pm_tg_eq ht) (k H locs a J)
theorem ps_if1 (C : ps_C M P D dA b B y ws ns) {c : Jvm.ClassFile.Cond} {x : Int32} {off : Int} {t : Nat} (ht : pm_tg pc off = some t) (hd : decode (pp_by P y) pc = .ok (.ifCond c off, 3)) (k : ps_T M P D dA b B y (pm_br (pm_cnd c x 0) t pc) ls st kc ks h) : ps_T M P D dA b B y pc ls (.inl x :: st) kc ks h := by
  intro H locs a J
  have k := k H locs a J
  have ht := pm_tg_eq ht
  cases c with
  | eq => exact lv_if_eq C.1 C.2.1 hd ht (fun q => by rw [pm_br_t (show pm_cnd .eq x 0 = true from decide_eq_true q)] at k; exact k) (fun q => by rw [pm_br_f (show pm_cnd .eq x 0 = false from decide_eq_false q)] at k; exact k)
  | ne => exact lv_if_ne C.1 C.2.1 hd ht (fun q => by rw [pm_br_t (show pm_cnd .ne x 0 = true from decide_eq_true q)] at k; exact k) (fun q => by rw [pm_br_f (show pm_cnd .ne x 0 = false from decide_eq_false (fun z => z q))] at k; exact k)
  | lt => exact lv_if_lt C.1 C.2.1 hd ht (fun q => by rw [pm_br_t (show pm_cnd .lt x 0 = true from decide_eq_true q)] at k; exact k) (fun q => by rw [pm_br_f (show pm_cnd .lt x 0 = false from decide_eq_false q)] at k; exact k)
  | ge => exact lv_if_ge C.1 C.2.1 hd ht (fun q => by rw [pm_br_t (show pm_cnd .ge x 0 = true from decide_eq_true q)] at k; exact k) (fun q => by rw [pm_br_f (show pm_cnd .ge x 0 = false from decide_eq_false q)] at k; exact k)
  | gt => exact lv_if_gt C.1 C.2.1 hd ht (fun q => by rw [pm_br_t (show pm_cnd .gt x 0 = true from decide_eq_true q)] at k; exact k) (fun q => by rw [pm_br_f (show pm_cnd .gt x 0 = false from decide_eq_false q)] at k; exact k)
  | le => exact lv_if_le C.1 C.2.1 hd ht (fun q => by rw [pm_br_t (show pm_cnd .le x 0 = true from decide_eq_true q)] at k; exact k) (fun q => by rw [pm_br_f (show pm_cnd .le x 0 = false from decide_eq_false q)] at k; exact k)
theorem ps_if2 (C : ps_C M P D dA b B y ws ns) {c : Jvm.ClassFile.Cond} {x z : Int32} {off : Int} {t : Nat} (ht : pm_tg pc off = some t) (hd : decode (pp_by P y) pc = .ok (.if_icmp c off, 3)) (k : ps_T M P D dA b B y (pm_br (pm_cnd c x z) t pc) ls st kc ks h) : ps_T M P D dA b B y pc ls (.inl z :: .inl x :: st) kc ks h := by
  intro H locs a J
  have k := k H locs a J
  have ht := pm_tg_eq ht
  cases c with
  | eq => exact lv_icmp_eq C.1 C.2.1 hd ht (fun q => by rw [pm_br_t (show pm_cnd .eq x z = true from decide_eq_true q)] at k; exact k) (fun q => by rw [pm_br_f (show pm_cnd .eq x z = false from decide_eq_false q)] at k; exact k)
  | ne => exact lv_icmp_ne C.1 C.2.1 hd ht (fun q => by rw [pm_br_t (show pm_cnd .ne x z = true from decide_eq_true q)] at k; exact k) (fun q => by rw [pm_br_f (show pm_cnd .ne x z = false from decide_eq_false (fun w => w q))] at k; exact k)
  | lt => exact lv_icmp_lt C.1 C.2.1 hd ht (fun q => by rw [pm_br_t (show pm_cnd .lt x z = true from decide_eq_true q)] at k; exact k) (fun q => by rw [pm_br_f (show pm_cnd .lt x z = false from decide_eq_false q)] at k; exact k)
  | ge => exact lv_icmp_ge C.1 C.2.1 hd ht (fun q => by rw [pm_br_t (show pm_cnd .ge x z = true from decide_eq_true q)] at k; exact k) (fun q => by rw [pm_br_f (show pm_cnd .ge x z = false from decide_eq_false q)] at k; exact k)
  | gt => exact lv_icmp_gt C.1 C.2.1 hd ht (fun q => by rw [pm_br_t (show pm_cnd .gt x z = true from decide_eq_true q)] at k; exact k) (fun q => by rw [pm_br_f (show pm_cnd .gt x z = false from decide_eq_false q)] at k; exact k)
  | le => exact lv_icmp_le C.1 C.2.1 hd ht (fun q => by rw [pm_br_t (show pm_cnd .le x z = true from decide_eq_true q)] at k; exact k) (fun q => by rw [pm_br_f (show pm_cnd .le x z = false from decide_eq_false q)] at k; exact k)
theorem pr_map_inj {b B : Nat} (hb : b < B) {x z : Option Nat} (e : x.map (pr_ad b B) = z.map (pr_ad b B)) : x = z := by
  cases x with
  | none => cases z with
    | none => rfl
    | some z => cases e
  | some x => cases z with
    | none => cases e
    | some z => rw [pr_ad_inj hb (Option.some.inj e)]
theorem ps_ifa (C : ps_C M P D dA b B y ws ns) {c : ACond} {x z : Option Nat} {off : Int} {t : Nat} (ht : pm_tg pc off = some t) (hd : decode (pp_by P y) pc = .ok (.if_acmp c off, 3)) (k : ps_T M P D dA b B y (pm_br (pm_ac c x z) t pc) ls st kc ks h) : ps_T M P D dA b B y pc ls (.inr z :: .inr x :: st) kc ks h := by
  intro H locs a J
  have k := k H locs a J
  have ht := pm_tg_eq ht
  have hbB : b < B := C.2.2.2.2.2.2.2.2.2
  cases c with
  | eq => exact lv_acmp_eq (rx := x.map (pr_ad b B)) (ry := z.map (pr_ad b B)) C.1 C.2.1 hd ht (fun q => by rw [pm_br_t (show pm_ac .eq x z = true from decide_eq_true (pr_map_inj hbB q))] at k; exact k) (fun q => by rw [pm_br_f (show pm_ac .eq x z = false from decide_eq_false (fun w => q (by rw [w])))] at k; exact k)
  | ne => exact lv_acmp_ne (rx := x.map (pr_ad b B)) (ry := z.map (pr_ad b B)) C.1 C.2.1 hd ht (fun q => by
      have e : decide (¬ x = z) = true := decide_eq_true (show ¬ x = z from fun w => q (by rw [w]))
      have k2 : pm_W M H locs kc ks (F0 (mc_m M) (pm_br (decide (¬ x = z)) t pc) a (st.map (pr_v b B))) := k
      rw [pm_br_t e] at k2
      exact k2) (fun q => by
      have e : decide (¬ x = z) = false := decide_eq_false (show ¬ ¬ x = z from fun w => w (pr_map_inj hbB q))
      have k2 : pm_W M H locs kc ks (F0 (mc_m M) (pm_br (decide (¬ x = z)) t pc) a (st.map (pr_v b B))) := k
      rw [pm_br_f e] at k2
      exact k2)
theorem ps_ifnull (C : ps_C M P D dA b B y ws ns) {x : Option Nat} {off : Int} {t : Nat} (ht : pm_tg pc off = some t) (hd : decode (pp_by P y) pc = .ok (.ifnull off, 3)) (k : ps_T M P D dA b B y (pm_br (match x with | none => !false | some _ => false) t pc) ls st kc ks h) : ps_T M P D dA b B y pc ls (.inr x :: st) kc ks h := by
  intro H locs a J
  have k := k H locs a J
  cases x with
  | none => exact lv_ifnullN C.1 C.2.1 hd (pm_tg_eq ht) k
  | some x => exact lv_ifnull C.1 C.2.1 hd k
theorem ps_ifnonnull (C : ps_C M P D dA b B y ws ns) {x : Option Nat} {off : Int} {t : Nat} (ht : pm_tg pc off = some t) (hd : decode (pp_by P y) pc = .ok (.ifnonnull off, 3)) (k : ps_T M P D dA b B y (pm_br (match x with | none => !true | some _ => true) t pc) ls st kc ks h) : ps_T M P D dA b B y pc ls (.inr x :: st) kc ks h := by
  intro H locs a J
  have k := k H locs a J
  cases x with
  | none => exact lv_ifnonnullN C.1 C.2.1 hd k
  | some x => exact lv_ifnonnull C.1 C.2.1 hd (pm_tg_eq ht) k
theorem ps_swOut (C : ps_C M P D dA b B y ws ns) {d lo hi : Int} {offs : Array Int} {len : Nat} {x : Int32} {t : Nat} (h1 : x.toInt < lo ∨ hi < x.toInt) (ht : pm_tg pc d = some t) (hd : decode (pp_by P y) pc = .ok (.tableswitch d lo hi offs, len)) (k : ps_T M P D dA b B y t ls st kc ks h) : ps_T M P D dA b B y pc ls (.inl x :: st) kc ks h :=
  fun H locs a J => lv_tableOut C.1 C.2.1 hd h1 (pm_tg_eq ht) (k H locs a J)
theorem ps_swIn (C : ps_C M P D dA b B y ws ns) {d lo hi off : Int} {offs : Array Int} {len : Nat} {x : Int32} {t : Nat} (h1 : ¬ (x.toInt < lo ∨ hi < x.toInt)) (ho : offs[(x.toInt - lo).toNat]? = some off) (ht : pm_tg pc off = some t) (hd : decode (pp_by P y) pc = .ok (.tableswitch d lo hi offs, len)) (k : ps_T M P D dA b B y t ls st kc ks h) : ps_T M P D dA b B y pc ls (.inl x :: st) kc ks h :=
  fun H locs a J => lv_tableIn C.1 C.2.1 hd (fun q => h1 (Or.inl q)) (fun q => h1 (Or.inr q)) ho (pm_tg_eq ht) (k H locs a J)
end PS
