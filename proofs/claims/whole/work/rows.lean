section
/-! THE PURE MACHINE. A heap is a list of cells, a reference is a place in that list (0: the script). One step of one frame is a
function (pm_i); a run with fuel is a function (pm_run). Nothing here speaks of the model's states: parts 02 to 04 tie it to them, once for all. -/
/-- a value: an int, or a reference (none: null) -/
abbrev PV : Type := Int32 ⊕ Option Nat
/-- a cell: ints (kind 0), booleans (kind 1), the script (kind 2) | references to objects of one kind | an object -/
abbrev PC : Type := (Nat × Nat × (Nat → Int32)) ⊕ ((Nat × Nat × (Nat → Option Nat)) ⊕ (Nat × List PV))
abbrev PH : Type := List PC
/-- pc, locals, stack, cells made, slots made, heap -/
abbrev PX : Type := Nat × List (Option PV) × List PV × Nat × Nat × PH
/-- what a step gives: the next state | a call (who, with what, what stays on the stack) | the end -/
abbrev PO : Type := PX ⊕ ((Nat × List PV × List PV) ⊕ Option PV)
/-- a program: instructions; pools (fields, methods, kinds, constants); of a method its pool, its room, what it returns, its locals, its name, its bytes; the kinds -/
abbrev PP : Type := (Nat → Nat → Option Instr) × (Nat → Nat → Option (Nat × Nat)) × (Nat → Nat → Option (Nat × Nat × Nat × Nat)) × (Nat → Nat → Option Nat) × (Nat → Nat → Option Int32) ×
  (Nat → Nat) × (Nat → Room) × (Nat → Option FieldType) × (Nat → Nat) × (Nat → MethodName) × (Nat → ByteArray) × List (vw_C × List FieldType × Bool)
abbrev pp_code (P : PP) : Nat → Nat → Option Instr := P.1
abbrev pp_fld (P : PP) : Nat → Nat → Option (Nat × Nat) := P.2.1
abbrev pp_mth (P : PP) : Nat → Nat → Option (Nat × Nat × Nat × Nat) := P.2.2.1
abbrev pp_cls (P : PP) : Nat → Nat → Option Nat := P.2.2.2.1
abbrev pp_cst (P : PP) : Nat → Nat → Option Int32 := P.2.2.2.2.1
abbrev pp_own (P : PP) : Nat → Nat := P.2.2.2.2.2.1
abbrev pp_rm (P : PP) : Nat → Room := P.2.2.2.2.2.2.1
abbrev pp_ret (P : PP) : Nat → Option FieldType := P.2.2.2.2.2.2.2.1
abbrev pp_ml (P : PP) : Nat → Nat := P.2.2.2.2.2.2.2.2.1
abbrev pp_nm (P : PP) : Nat → MethodName := P.2.2.2.2.2.2.2.2.2.1
abbrev pp_by (P : PP) : Nat → ByteArray := P.2.2.2.2.2.2.2.2.2.2.1
abbrev pp_cl (P : PP) : List (vw_C × List FieldType × Bool) := P.2.2.2.2.2.2.2.2.2.2.2
def pm_fit (ty : FieldType) (v : PV) : Bool := match ty, v with
  | .int, .inl _ => true
  | .boolean, .inl x => x == 0 || x == 1
  | .object _, .inr _ => true
  | .array _, .inr _ => true
  | _, _ => false
def pm_dfl (ty : FieldType) : PV := match ty with
  | .object _ => .inr none
  | .array _ => .inr none
  | _ => .inl 0
def pm_plain (ty : FieldType) : Bool := match ty with
  | .int => true
  | .boolean => true
  | .object _ => true
  | .array _ => true
  | _ => false
def pm_cnd (c : Jvm.ClassFile.Cond) (x y : Int32) : Bool := match c with
  | .eq => decide (x = y)
  | .ne => decide (¬ x = y)
  | .lt => decide (x < y)
  | .ge => decide (y ≤ x)
  | .gt => decide (y < x)
  | .le => decide (x ≤ y)
def pm_tg (pc : Nat) (off : Int) : Option Nat := match (pc : Int) + off with
  | .ofNat t => some t
  | .negSucc _ => none
def pm_ac (c : ACond) (x z : Option Nat) : Bool := match c with
  | .eq => decide (x = z)
  | .ne => decide (¬ x = z)
/-- a jump that is taken or not -/
def pm_br (b : Bool) (t pc : Nat) : Nat := match b with
  | true => t
  | false => pc + 3
def pm_in (j : Int32) (n : Nat) : Bool := decide (¬ j < 0) && decide (j.toNatClampNeg < n)
def pm_bin (ins : Instr) (x y : Int32) : Option Int32 := match ins with
  | .iadd => some (x + y)
  | .isub => some (x - y)
  | .imul => some (x * y)
  | .idiv => if y = 0 then none else some (x / y)
  | .irem => if y = 0 then none else some (x - x / y * y)
  | .iand => some (x &&& y)
  | .ior => some (x ||| y)
  | .ixor => some (x ^^^ y)
  | .ishl => some (x <<< (y &&& 31))
  | .ishr => some (x >>> (y &&& 31))
  | .iushr => some ((x.toUInt32 >>> (y.toUInt32 &&& Int32.toUInt32 31)).toInt32)
  | _ => none
def pm_nx (pc : Nat) (ls : List (Option PV)) (st : List PV) (kc ks : Nat) (h : PH) : Option PX := some (pc, ls, st, kc, ks, h)
def pm_iload (i n pc : Nat) (ls : List (Option PV)) (st : List PV) (kc ks : Nat) (h : PH) : Option PX := match ls[i]? with
  | some (some (.inl x)) => pm_nx (pc + n) ls (.inl x :: st) kc ks h
  | _ => none
def pm_aload (i n pc : Nat) (ls : List (Option PV)) (st : List PV) (kc ks : Nat) (h : PH) : Option PX := match ls[i]? with
  | some (some (.inr x)) => pm_nx (pc + n) ls (.inr x :: st) kc ks h
  | _ => none
def pm_istore (i n pc : Nat) (ls : List (Option PV)) (st : List PV) (kc ks : Nat) (h : PH) : Option PX := match st with
  | .inl x :: r => if i < ls.length then pm_nx (pc + n) (ls.set i (some (.inl x))) r kc ks h else none
  | _ => none
def pm_astore (i n pc : Nat) (ls : List (Option PV)) (st : List PV) (kc ks : Nat) (h : PH) : Option PX := match st with
  | .inr x :: r => if i < ls.length then pm_nx (pc + n) (ls.set i (some (.inr x))) r kc ks h else none
  | _ => none
def pm_iinc (i : Nat) (d : Int) (pc : Nat) (ls : List (Option PV)) (st : List PV) (kc ks : Nat) (h : PH) : Option PX := match ls[i]? with
  | some (some (.inl x)) => pm_nx (pc + 3) (ls.set i (some (.inl (x + Int32.ofInt d)))) st kc ks h
  | _ => none
def pm_op2 (ins : Instr) (pc : Nat) (ls : List (Option PV)) (st : List PV) (kc ks : Nat) (h : PH) : Option PX := match st with
  | .inl y :: .inl x :: r => match pm_bin ins x y with
    | some z => pm_nx (pc + 1) ls (.inl z :: r) kc ks h
    | none => none
  | _ => none
def pm_if1 (c : Jvm.ClassFile.Cond) (off : Int) (pc : Nat) (ls : List (Option PV)) (st : List PV) (kc ks : Nat) (h : PH) : Option PX := match st with
  | .inl x :: r => match pm_tg pc off with
    | some t => pm_nx (pm_br (pm_cnd c x 0) t pc) ls r kc ks h
    | none => none
  | _ => none
def pm_if2 (c : Jvm.ClassFile.Cond) (off : Int) (pc : Nat) (ls : List (Option PV)) (st : List PV) (kc ks : Nat) (h : PH) : Option PX := match st with
  | .inl y :: .inl x :: r => match pm_tg pc off with
    | some t => pm_nx (pm_br (pm_cnd c x y) t pc) ls r kc ks h
    | none => none
  | _ => none
def pm_ifa (c : ACond) (off : Int) (pc : Nat) (ls : List (Option PV)) (st : List PV) (kc ks : Nat) (h : PH) : Option PX := match st with
  | .inr y :: .inr x :: r => match pm_tg pc off with
    | some t => pm_nx (pm_br (pm_ac c x y) t pc) ls r kc ks h
    | none => none
  | _ => none
def pm_ifn (nn : Bool) (off : Int) (pc : Nat) (ls : List (Option PV)) (st : List PV) (kc ks : Nat) (h : PH) : Option PX := match st with
  | .inr x :: r => match pm_tg pc off with
    | some t => pm_nx (pm_br (match x with | none => !nn | some _ => nn) t pc) ls r kc ks h
    | none => none
  | _ => none
def pm_goto (off : Int) (pc : Nat) (ls : List (Option PV)) (st : List PV) (kc ks : Nat) (h : PH) : Option PX := match pm_tg pc off with
  | some t => pm_nx t ls st kc ks h
  | none => none
def pm_stk (ins : Instr) (pc : Nat) (ls : List (Option PV)) (st : List PV) (kc ks : Nat) (h : PH) : Option PX := match ins, st with
  | .dup, v :: r => pm_nx (pc + 1) ls (v :: v :: r) kc ks h
  | .pop, _ :: r => pm_nx (pc + 1) ls r kc ks h
  | .dup_x1, v :: w :: r => pm_nx (pc + 1) ls (v :: w :: v :: r) kc ks h
  | .dup_x2, v :: w :: u :: r => pm_nx (pc + 1) ls (v :: w :: u :: v :: r) kc ks h
  | .dup2, v :: w :: r => pm_nx (pc + 1) ls (v :: w :: v :: w :: r) kc ks h
  | _, _ => none
def pm_get (P : PP) (y idx pc : Nat) (ls : List (Option PV)) (st : List PV) (kc ks : Nat) (h : PH) : Option PX := match pp_fld P (pp_own P y) idx, st with
  | some (ci, k), .inr (some i) :: r => match h[i]? with
    | some (.inr (.inr (cj, fs))) => if cj = ci then match fs[k]? with
      | some v => pm_nx (pc + 3) ls (v :: r) kc ks h
      | none => none else none
    | _ => none
  | _, _ => none
/-- the type of a field -/
def pm_fty (P : PP) (ci k : Nat) : FieldType := match (pp_cl P)[ci]? with
  | some r => r.2.1.getD k .long
  | none => .long
def pm_put (P : PP) (y idx pc : Nat) (ls : List (Option PV)) (st : List PV) (kc ks : Nat) (h : PH) : Option PX := match pp_fld P (pp_own P y) idx, st with
  | some (ci, k), v :: .inr (some i) :: r => match h[i]? with
    | some (.inr (.inr (cj, fs))) => if cj = ci ∧ k < fs.length ∧ pm_fit (pm_fty P ci k) v = true then pm_nx (pc + 3) ls r kc ks (h.set i (.inr (.inr (ci, fs.set k v)))) else none
    | _ => none
  | _, _ => none
def pm_iald (pc : Nat) (ls : List (Option PV)) (st : List PV) (kc ks : Nat) (h : PH) : Option PX := match st with
  | .inl j :: .inr (some i) :: r => match h[i]? with
    | some (.inl (k, n, f)) => if (k = 0 ∨ k = 2) ∧ pm_in j n = true then pm_nx (pc + 1) ls (.inl (f j.toNatClampNeg) :: r) kc ks h else none
    | _ => none
  | _ => none
def pm_zald (pc : Nat) (ls : List (Option PV)) (st : List PV) (kc ks : Nat) (h : PH) : Option PX := match st with
  | .inl j :: .inr (some i) :: r => match h[i]? with
    | some (.inl (k, n, f)) => if k = 1 ∧ pm_in j n = true then pm_nx (pc + 1) ls (.inl (f j.toNatClampNeg) :: r) kc ks h else none
    | _ => none
  | _ => none
def pm_aald (P : PP) (pc : Nat) (ls : List (Option PV)) (st : List PV) (kc ks : Nat) (h : PH) : Option PX := match st with
  | .inl j :: .inr (some i) :: r => match h[i]? with
    | some (.inr (.inl (ci, n, f))) => if ((pp_cl P)[ci]?.map (fun q => q.2.2)) = some true ∧ pm_in j n = true then pm_nx (pc + 1) ls (.inr (f j.toNatClampNeg) :: r) kc ks h else none
    | _ => none
  | _ => none
def pm_iast (pc : Nat) (ls : List (Option PV)) (st : List PV) (kc ks : Nat) (h : PH) : Option PX := match st with
  | .inl x :: .inl j :: .inr (some i) :: r => match h[i]? with
    | some (.inl (k, n, f)) => if k = 0 ∧ pm_in j n = true then pm_nx (pc + 1) ls r kc ks (h.set i (.inl (k, n, upd f j.toNatClampNeg x))) else none
    | _ => none
  | _ => none
def pm_zast (pc : Nat) (ls : List (Option PV)) (st : List PV) (kc ks : Nat) (h : PH) : Option PX := match st with
  | .inl x :: .inl j :: .inr (some i) :: r => match h[i]? with
    | some (.inl (k, n, f)) => if k = 1 ∧ pm_in j n = true then pm_nx (pc + 1) ls r kc ks (h.set i (.inl (k, n, upd f j.toNatClampNeg (x &&& 1)))) else none
    | _ => none
  | _ => none
def pm_aast (P : PP) (pc : Nat) (ls : List (Option PV)) (st : List PV) (kc ks : Nat) (h : PH) : Option PX := match st with
  | .inr (some v) :: .inl j :: .inr (some i) :: r => match h[i]?, h[v]? with
    | some (.inr (.inl (ci, n, f))), some (.inr (.inr (cj, _))) => if cj = ci ∧ ((pp_cl P)[ci]?.map (fun q => q.2.2)) = some true ∧ pm_in j n = true then pm_nx (pc + 1) ls r kc ks (h.set i (.inr (.inl (ci, n, va_up f j.toNatClampNeg (some v))))) else none
    | _, _ => none
  | _ => none
def pm_alen (pc : Nat) (ls : List (Option PV)) (st : List PV) (kc ks : Nat) (h : PH) : Option PX := match st with
  | .inr (some i) :: r => match h[i]? with
    | some (.inl (k, n, _)) => if k < 3 then pm_nx (pc + 1) ls (.inl (Int32.ofNat n) :: r) kc ks h else none
    | _ => none
  | _ => none
def pm_new (P : PP) (y idx pc : Nat) (ls : List (Option PV)) (st : List PV) (kc ks : Nat) (h : PH) : Option PX := match pp_cls P (pp_own P y) idx with
  | some ci => match (pp_cl P)[ci]? with
    | some r => if kc + 1 ≤ (pp_rm P y).cells ∧ ks + r.1.2.2 ≤ (pp_rm P y).slots then pm_nx (pc + 3) ls (.inr (some h.length) :: st) (kc + 1) (ks + r.1.2.2) (h ++ [.inr (.inr (ci, r.2.1.map pm_dfl))]) else none
    | none => none
  | none => none
/-- the kind of a new array of numbers -/
def pm_ak (t : ArrayType) : Option Nat := match t with
  | .int => some 0
  | .boolean => some 1
  | _ => none
def pm_newa (P : PP) (y : Nat) (t : ArrayType) (pc : Nat) (ls : List (Option PV)) (st : List PV) (kc ks : Nat) (h : PH) : Option PX := match pm_ak t, st with
  | some k, .inl n :: r => if ¬ n < 0 ∧ n.toNatClampNeg ≤ 100000 ∧ kc + 1 ≤ (pp_rm P y).cells ∧ ks + n.toNatClampNeg ≤ (pp_rm P y).slots then pm_nx (pc + 2) ls (.inr (some h.length) :: r) (kc + 1) (ks + n.toNatClampNeg) (h ++ [.inl (k, n.toNatClampNeg, fun _ => 0)]) else none
  | _, _ => none
def pm_newq (P : PP) (y idx pc : Nat) (ls : List (Option PV)) (st : List PV) (kc ks : Nat) (h : PH) : Option PX := match pp_cls P (pp_own P y) idx, st with
  | some ci, .inl n :: r => if ((pp_cl P)[ci]?.map (fun q => q.2.2)) = some true ∧ ¬ n < 0 ∧ n.toNatClampNeg ≤ 100000 ∧ kc + 1 ≤ (pp_rm P y).cells ∧ ks + n.toNatClampNeg ≤ (pp_rm P y).slots then pm_nx (pc + 3) ls (.inr (some h.length) :: r) (kc + 1) (ks + n.toNatClampNeg) (h ++ [.inr (.inl (ci, n.toNatClampNeg, fun _ => none))]) else none
  | _, _ => none
/-- is the receiver an object of that kind -/
def pm_rcv (kd ci : Nat) (st : List PV) (n : Nat) (h : PH) : Bool := match kd with
  | 0 => true
  | 1 => true
  | 2 => match st[n - 1]? with
    | some (.inr (some i)) => match h[i]? with
      | some (.inr (.inr (cj, _))) => cj == ci
      | _ => false
    | _ => false
  | 3 => match st[n - 1]? with
    | some (.inr (some i)) => match h[i]? with
      | some (.inr (.inr (cj, _))) => cj == ci
      | _ => false
    | _ => false
  | _ => match st[n - 1]? with
    | some (.inr (some _)) => true
    | _ => false
/-- Math.max, min, abs: no method here, a step -/
def pm_math (kd : Nat) (st : List PV) : Option (List PV) := match kd, st with
  | 7, .inl y :: .inl x :: r => some (.inl (if x < y then y else x) :: r)
  | 8, .inl y :: .inl x :: r => some (.inl (if y < x then y else x) :: r)
  | 9, .inl x :: r => some (.inl (if 0 ≤ x then x else 0 - x) :: r)
  | _, _ => none
/-- w: 0 static, 1 virtual, 2 special; the kind of a link: 0 static, 1 its nest mate's, 2 virtual, 3 nest mate's, 4 a constructor, 5 nest mate's, 6 Object's constructor, 7 Math.max, 8 Math.min, 9 Math.abs -/
def pm_call (P : PP) (y w idx pc : Nat) (ls : List (Option PV)) (st : List PV) (kc ks : Nat) (h : PH) : Option PO := match pp_mth P (pp_own P y) idx with
  | some (z, n, kd, ci) =>
    if kd = 6 then (if w = 2 ∧ (st.drop 1).length ≤ 8 then (match st with
      | .inr (some _) :: r => some (.inl (pc + 3, ls, r, kc, ks, h))
      | _ => none) else none)
    else if 6 < kd then (if w = 0 ∧ kc ≤ (pp_rm P y).cells ∧ ks ≤ (pp_rm P y).slots then (match pm_math kd st with
      | some st1 => if st1.length ≤ 9 then some (.inl (pc + 3, ls, st1, kc, ks, h)) else none
      | none => none) else none)
    else if kd / 2 = w ∧ n ≤ st.length ∧ (st.drop n).length ≤ 8 ∧ kc + (pp_rm P z).cells ≤ (pp_rm P y).cells ∧ ks + (pp_rm P z).slots ≤ (pp_rm P y).slots ∧ pm_rcv kd ci st n h = true then some (.inr (.inl (z, (st.take n).reverse, st.drop n)))
    else none
  | none => none
def pm_ldc (P : PP) (y idx pc : Nat) (ls : List (Option PV)) (st : List PV) (kc ks : Nat) (h : PH) : Option PX := match pp_cst P (pp_own P y) idx with
  | some v => pm_nx (pc + 2) ls (.inl v :: st) kc ks h
  | none => none
def pm_sw (d lo hi : Int) (offs : Array Int) (pc : Nat) (ls : List (Option PV)) (st : List PV) (kc ks : Nat) (h : PH) : Option PX := match st with
  | .inl x :: r => match (if x.toInt < lo ∨ hi < x.toInt then some d else offs[(x.toInt - lo).toNat]?) with
    | some off => match pm_tg pc off with
      | some t => pm_nx t ls r kc ks h
      | none => none
    | none => none
  | _ => none
def pm_ret (P : PP) (y : Nat) (ins : Instr) (st : List PV) (kc ks : Nat) : Option PO :=
  if kc ≤ (pp_rm P y).cells ∧ ks ≤ (pp_rm P y).slots then (match ins, st, pp_ret P y with
    | .ireturn, [.inl x], some ty => if pm_fit ty (.inl x) = true then some (.inr (.inr (some (.inl x)))) else none
    | .areturn, [.inr x], some ty => if pm_fit ty (.inr x) = true then some (.inr (.inr (some (.inr x)))) else none
    | .return_, [], none => some (.inr (.inr none))
    | _, _, _ => none) else none
/-- an instruction that neither calls nor returns -/
def pm_j (P : PP) (y : Nat) (ins : Instr) (pc : Nat) (ls : List (Option PV)) (st : List PV) (kc ks : Nat) (h : PH) : Option PX := match ins with
  | .iconst n => pm_nx (pc + 1) ls (.inl (Int32.ofInt n) :: st) kc ks h
  | .bipush n => pm_nx (pc + 2) ls (.inl (Int8.ofInt n).toInt32 :: st) kc ks h
  | .sipush n => pm_nx (pc + 3) ls (.inl (Int16.ofInt n).toInt32 :: st) kc ks h
  | .ldc idx => pm_ldc P y idx pc ls st kc ks h
  | .aconst_null => pm_nx (pc + 1) ls (.inr none :: st) kc ks h
  | .iload_n k => pm_iload k.val 1 pc ls st kc ks h
  | .iload i => pm_iload i 2 pc ls st kc ks h
  | .aload_n k => pm_aload k.val 1 pc ls st kc ks h
  | .aload i => pm_aload i 2 pc ls st kc ks h
  | .istore_n k => pm_istore k.val 1 pc ls st kc ks h
  | .istore i => pm_istore i 2 pc ls st kc ks h
  | .astore_n k => pm_astore k.val 1 pc ls st kc ks h
  | .astore i => pm_astore i 2 pc ls st kc ks h
  | .iinc i d => pm_iinc i d pc ls st kc ks h
  | .iadd => pm_op2 .iadd pc ls st kc ks h
  | .isub => pm_op2 .isub pc ls st kc ks h
  | .imul => pm_op2 .imul pc ls st kc ks h
  | .idiv => pm_op2 .idiv pc ls st kc ks h
  | .irem => pm_op2 .irem pc ls st kc ks h
  | .iand => pm_op2 .iand pc ls st kc ks h
  | .ior => pm_op2 .ior pc ls st kc ks h
  | .ixor => pm_op2 .ixor pc ls st kc ks h
  | .ishl => pm_op2 .ishl pc ls st kc ks h
  | .ishr => pm_op2 .ishr pc ls st kc ks h
  | .iushr => pm_op2 .iushr pc ls st kc ks h
  | .ineg => match st with
    | .inl x :: r => pm_nx (pc + 1) ls (.inl (-x) :: r) kc ks h
    | _ => none
  | .dup => pm_stk .dup pc ls st kc ks h
  | .pop => pm_stk .pop pc ls st kc ks h
  | .dup_x1 => pm_stk .dup_x1 pc ls st kc ks h
  | .dup_x2 => pm_stk .dup_x2 pc ls st kc ks h
  | .dup2 => pm_stk .dup2 pc ls st kc ks h
  | .goto off => pm_goto off pc ls st kc ks h
  | .ifCond c off => pm_if1 c off pc ls st kc ks h
  | .if_icmp c off => pm_if2 c off pc ls st kc ks h
  | .if_acmp c off => pm_ifa c off pc ls st kc ks h
  | .ifnull off => pm_ifn false off pc ls st kc ks h
  | .ifnonnull off => pm_ifn true off pc ls st kc ks h
  | .getfield idx => pm_get P y idx pc ls st kc ks h
  | .putfield idx => pm_put P y idx pc ls st kc ks h
  | .iaload => pm_iald pc ls st kc ks h
  | .baload => pm_zald pc ls st kc ks h
  | .aaload => pm_aald P pc ls st kc ks h
  | .iastore => pm_iast pc ls st kc ks h
  | .bastore => pm_zast pc ls st kc ks h
  | .aastore => pm_aast P pc ls st kc ks h
  | .arraylength => pm_alen pc ls st kc ks h
  | .new idx => pm_new P y idx pc ls st kc ks h
  | .newarray t => pm_newa P y t pc ls st kc ks h
  | .anewarray idx => pm_newq P y idx pc ls st kc ks h
  | .tableswitch d lo hi offs => pm_sw d lo hi offs pc ls st kc ks h
  | _ => none
def pm_i (P : PP) (y : Nat) (ins : Instr) (pc : Nat) (ls : List (Option PV)) (st : List PV) (kc ks : Nat) (h : PH) : Option PO := match ins with
  | .invokestatic idx => pm_call P y 0 idx pc ls st kc ks h
  | .invokevirtual idx => pm_call P y 1 idx pc ls st kc ks h
  | .invokespecial idx => pm_call P y 2 idx pc ls st kc ks h
  | .ireturn => pm_ret P y .ireturn st kc ks
  | .areturn => pm_ret P y .areturn st kc ks
  | .return_ => pm_ret P y .return_ st kc ks
  | i => (pm_j P y i pc ls st kc ks h).map Sum.inl
def pm_s (P : PP) (y : Nat) (X : PX) : Option PO := match pp_code P y X.1 with
  | some ins => pm_i P y ins X.1 X.2.1 X.2.2.1 X.2.2.2.1 X.2.2.2.2.1 X.2.2.2.2.2
  | none => none
/-- a method's first state -/
def pm_en (P : PP) (z : Nat) (as : List PV) (h : PH) : PX := (0, as.map some ++ List.replicate (pp_ml P z - as.length) none, [], 0, 0, h)
def pm_run (P : PP) : Nat → Nat → PX → Option (Option PV × PH)
  | 0, _, _ => none
  | n + 1, y, X => match pm_s P y X with
    | none => none
    | some (.inl X1) => pm_run P n y X1
    | some (.inr (.inl (z, as, rest))) => match pm_run P n z (pm_en P z as X.2.2.2.2.2) with
      | none => none
      | some (r, h1) => pm_run P n y (X.1 + 3, X.2.1, r.toList ++ rest, X.2.2.2.1 + (pp_rm P z).cells, X.2.2.2.2.1 + (pp_rm P z).slots, h1)
    | some (.inr (.inr r)) => some (r, X.2.2.2.2.2)
/-- how long an instruction is (a switch: any) -/
def pm_len (ins : Instr) : Option Nat := match ins with
  | .tableswitch _ _ _ _ => none
  | .bipush _ => some 2
  | .ldc _ => some 2
  | .iload _ => some 2
  | .aload _ => some 2
  | .istore _ => some 2
  | .astore _ => some 2
  | .newarray _ => some 2
  | .sipush _ => some 3
  | .iinc _ _ => some 3
  | .goto _ => some 3
  | .ifCond _ _ => some 3
  | .if_icmp _ _ => some 3
  | .if_acmp _ _ => some 3
  | .ifnull _ => some 3
  | .ifnonnull _ => some 3
  | .getfield _ => some 3
  | .putfield _ => some 3
  | .new _ => some 3
  | .anewarray _ => some 3
  | .invokestatic _ => some 3
  | .invokevirtual _ => some 3
  | .invokespecial _ => some 3
  | _ => some 1
end
section
/-! THE TIE: which of the model's heaps a pure heap is a picture of. Place 0 is the script's cell b; place i + 1 is the cell B + i, B the heap's size at the law's start. -/
def pr_ad (b B : Nat) (i : Nat) : Nat := match i with
  | 0 => b
  | j + 1 => B + j
def pr_v (b B : Nat) (v : PV) : Value := match v with
  | .inl x => .int x
  | .inr r => va_rf (r.map (pr_ad b B))
theorem pr_ad_inj {b B i j : Nat} (hb : b < B) (h : pr_ad b B i = pr_ad b B j) : i = j := by
  cases i with
  | zero => cases j with
    | zero => rfl
    | succ j => simp only [pr_ad] at h; omega
  | succ i => cases j with
    | zero => simp only [pr_ad] at h; omega
    | succ j => simp only [pr_ad] at h; omega
theorem pr_cat (b B : Nat) (v : PV) : (pr_v b B v).category = 1 := by
  cases v with
  | inl x => rfl
  | inr r => cases r <;> rfl
theorem pr_sum (b B : Nat) (l : List PV) : ((l.map (pr_v b B)).map fun v => v.category).sum = l.length := by
  induction l with
  | nil => rfl
  | cons a t ih => simp only [List.map_cons, List.sum_cons, ih, pr_cat, List.length_cons]; omega
theorem pr_fit {ty : FieldType} {v : PV} (b B : Nat) (h : pm_fit ty v = true) : narrow ty (pr_v b B v) = pr_v b B v ∧ fits ty (pr_v b B v) = true := by
  cases v with
  | inl x =>
    cases ty with
    | int => exact ⟨rfl, rfl⟩
    | boolean =>
      have h1 : x = 0 ∨ x = 1 := by simpa [pm_fit] using h
      rcases h1 with rfl | rfl <;> exact ⟨rfl, rfl⟩
    | _ => simp [pm_fit] at h
  | inr r =>
    cases ty with
    | object C => cases r <;> exact ⟨rfl, rfl⟩
    | array t => cases r <;> exact ⟨rfl, rfl⟩
    | _ => simp [pm_fit] at h
theorem pr_dfl {ty : FieldType} (b B : Nat) (h : pm_plain ty = true) : defaultValue ty = pr_v b B (pm_dfl ty) := by
  cases ty <;> first | rfl | simp [pm_plain] at h
/-- the kinds as the kit's worlds have them -/
abbrev pr_cl (P : PP) : List vw_C := (pp_cl P).map (fun r => r.1)
theorem pr_clG {P : PP} {ci : Nat} {r : vw_C × List FieldType × Bool} (h : (pp_cl P)[ci]? = some r) : (pr_cl P)[ci]? = some r.1 := by
  rw [List.getElem?_map, h]; rfl
/-- what a cell of the pure heap says of the model's heap -/
def pr_at (P : PP) (s : State) (D : va_G) (dA : Nat → ClassId) (b B i : Nat) (c : PC) (H : Heap) : Prop := match c with
  | .inl (k, n, f) => (k = 2 ∧ va_X (pr_ad b B i) n f s H) ∨ (¬ k = 2 ∧ H[pr_ad b B i]? = some (vp_cell (dA k) (n, .inl f)))
  | .inr (.inl (ci, n, f)) => H[pr_ad b B i]? = some (vp_cell (dA (ci + 3)) (n, .inr (.inr (.inr (.inr (fun j => (f j).map (pr_ad b B)))))))
  | .inr (.inr (ci, fs)) => ∃ r : vw_C × List FieldType × Bool, (pp_cl P)[ci]? = some r ∧ fs.length = r.1.2.2 ∧ t_OB (pr_ad b B i) (D.1 ci) r.1.2.2 (D.2 ci) H (vp_V (fs.map (pr_v b B)))
def pr_R (P : PP) (s : State) (D : va_G) (dA : Nat → ClassId) (b B : Nat) (h : PH) (H : Heap) : Prop :=
  (∃ (n : Nat) (f : Nat → Int32), h[0]? = some (.inl (2, n, f))) ∧ H.size + 1 = B + h.length ∧ ∀ (i : Nat) (c : PC), h[i]? = some c → pr_at P s D dA b B i c H
theorem pr_R.len {P : PP} {s : State} {D : va_G} {dA : Nat → ClassId} {b B : Nat} {h : PH} {H : Heap} (hR : pr_R P s D dA b B h H) : 0 < h.length := by
  obtain ⟨⟨n, f, h1⟩, -⟩ := hR
  exact (List.getElem?_eq_some_iff.mp h1).1
theorem pr_ge {b B i : Nat} (hi : ¬ i = 0) : B ≤ pr_ad b B i := by
  cases i with
  | zero => exact absurd rfl hi
  | succ j => simp only [pr_ad]; omega
theorem pr_at.kept {P : PP} {s : State} {D : va_G} {dA : Nat → ClassId} {b B i : Nat} {c : PC} {H H1 : Heap} (h : pr_at P s D dA b B i c H) (hq : H1[pr_ad b B i]? = H[pr_ad b B i]?) : pr_at P s D dA b B i c H1 := by
  rcases c with ⟨k, n, f⟩ | ⟨ci, n, f⟩ | ⟨ci, fs⟩
  · rcases h with ⟨h1, h2⟩ | ⟨h1, h2⟩
    · exact Or.inl ⟨h1, h2.kept hq⟩
    · exact Or.inr ⟨h1, hq.trans h2⟩
  · exact hq.trans h
  · obtain ⟨r, h1, h2, h3⟩ := h
    exact ⟨r, h1, h2, h3.kept hq⟩
theorem pr_at.lt {P : PP} {s : State} {D : va_G} {dA : Nat → ClassId} {b B i : Nat} {c : PC} {H : Heap} (h : pr_at P s D dA b B i c H) : pr_ad b B i < H.size := by
  rcases c with ⟨k, n, f⟩ | ⟨ci, n, f⟩ | ⟨ci, fs⟩
  · rcases h with ⟨h1, scr, h2, -⟩ | ⟨h1, h2⟩
    · exact (Array.getElem?_eq_some_iff.mp h2).1
    · exact (Array.getElem?_eq_some_iff.mp h2).1
  · exact (Array.getElem?_eq_some_iff.mp h).1
  · obtain ⟨r, h1, h2, cell, h3, -⟩ := h
    exact (Array.getElem?_eq_some_iff.mp h3).1
theorem pr_at.moved {P : PP} {s U : State} {D : va_G} {dA : Nat → ClassId} {b B i : Nat} {c : PC} {H : Heap} (hvm : s.vm.Alike U.vm) (h : pr_at P s D dA b B i c H) : pr_at P U D dA b B i c H := by
  rcases c with ⟨k, n, f⟩ | ⟨ci, n, f⟩ | ⟨ci, fs⟩
  · rcases h with ⟨h1, h2⟩ | ⟨h1, h2⟩
    · exact Or.inl ⟨h1, h2.moved hvm⟩
    · exact Or.inr ⟨h1, h2⟩
  · exact h
  · exact h
theorem pr_R.moved {P : PP} {s U : State} {D : va_G} {dA : Nat → ClassId} {b B : Nat} {h : PH} {H : Heap} (hvm : s.vm.Alike U.vm) (hR : pr_R P s D dA b B h H) : pr_R P U D dA b B h H :=
  ⟨hR.1, hR.2.1, fun i c hi => (hR.2.2 i c hi).moved hvm⟩
/-- one cell is written -/
theorem pr_R.set {P : PP} {s : State} {D : va_G} {dA : Nat → ClassId} {b B : Nat} {h : PH} {H H1 : Heap} (hb : b < B) (hR : pr_R P s D dA b B h H) {i : Nat} {c0 c1 : PC} (hi : h[i]? = some c0) (hi0 : ¬ i = 0) (he : pr_at P s D dA b B i c1 H1) (hz : H1.size = H.size) (oq : ∀ q : Nat, q ≠ pr_ad b B i → H1[q]? = H[q]?) : pr_R P s D dA b B (h.set i c1) H1 := by
  have hl := (List.getElem?_eq_some_iff.mp hi).1
  refine ⟨by rw [List.getElem?_set_ne hi0]; exact hR.1, by rw [List.length_set, hz]; exact hR.2.1, fun j c hj => ?_⟩
  by_cases hji : j = i
  · subst hji
    rw [List.getElem?_set_self hl] at hj
    cases hj
    exact he
  · rw [List.getElem?_set_ne (Ne.symm hji)] at hj
    exact (hR.2.2 j c hj).kept (oq _ (fun z => hji (pr_ad_inj hb z)))
theorem pr_last {P : PP} {s : State} {D : va_G} {dA : Nat → ClassId} {b B : Nat} {h : PH} {H : Heap} (hR : pr_R P s D dA b B h H) : pr_ad b B h.length = H.size := by
  have h1 := hR.len
  have h2 := hR.2.1
  cases hl : h.length with
  | zero => omega
  | succ k => simp only [pr_ad]; omega
/-- one cell is made -/
theorem pr_R.push {P : PP} {s : State} {D : va_G} {dA : Nat → ClassId} {b B : Nat} {h : PH} {H H1 : Heap} (hR : pr_R P s D dA b B h H) {c1 : PC} (he : pr_at P s D dA b B h.length c1 H1) (hz : H1.size = H.size + 1) (oq : ∀ q : Nat, q < H.size → H1[q]? = H[q]?) : pr_R P s D dA b B (h ++ [c1]) H1 := by
  refine ⟨by rw [List.getElem?_append_left hR.len]; exact hR.1, by rw [List.length_append, hz]; have := hR.2.1; simp; omega, fun j c hj => ?_⟩
  by_cases hl : j < h.length
  · rw [List.getElem?_append_left hl] at hj
    exact (hR.2.2 j c hj).kept (oq _ (hR.2.2 j c hj).lt)
  · rw [List.getElem?_append_right (by omega)] at hj
    have hz : j - h.length < 1 := (List.getElem?_eq_some_iff.mp hj).1
    have hj0 : j = h.length := by omega
    subst hj0
    rw [Nat.sub_self] at hj
    cases hj
    exact he
/-- what the tables say: kinds, their arrays -/
def pr_K (P : PP) (D : va_G) (dA : Nat → ClassId) (s : State) : Prop := va_K D (pr_cl P) [] s ∧ (ArrOfT s (dA 0) .int ∧ va_RA s (dA 0) .int) ∧ (ArrOfT s (dA 1) .boolean ∧ va_RA s (dA 1) .boolean) ∧
  ∀ (ci : Nat) (r : vw_C × List FieldType × Bool), (pp_cl P)[ci]? = some r → r.2.2 = true → va_AO r.1.1 s ∧ ArrOfT s (dA (ci + 3)) (.object r.1.1) ∧ va_RA s (dA (ci + 3)) (.object r.1.1)
theorem pr_K.moved {P : PP} {D : va_G} {dA : Nat → ClassId} {s U : State} (hvm : s.vm.Alike U.vm) (h : pr_K P D dA s) : pr_K P D dA U :=
  ⟨va_K.moved hvm h.1, ⟨arrOfT_moved hvm h.2.1.1, va_RA.moved hvm h.2.1.2⟩, ⟨arrOfT_moved hvm h.2.2.1.1, va_RA.moved hvm h.2.2.1.2⟩, fun ci r hc hr => ⟨(h.2.2.2 ci r hc hr).1.moved hvm, arrOfT_moved hvm (h.2.2.2 ci r hc hr).2.1, va_RA.moved hvm (h.2.2.2 ci r hc hr).2.2⟩⟩
theorem pr_K1 {D : va_G} {cl : List vw_C} {s : State} {cA : ClassId} {ty : FieldType} (h : va_K D cl [] s) (ha : ArrOfT s cA ty ∧ va_RA s cA ty) : va_K D cl [(cA, ty)] s := by
  refine ⟨h.1, fun k q hk => ?_⟩
  cases k with
  | zero => cases hk; exact ha
  | succ k => cases hk
theorem pr_P1 {D : va_G} {cl : List vw_C} {q : Nat × va_E} {H : Heap} (h : va_at D cl q H) : va_P D cl [q] H := by
  intro k x hk
  cases k with
  | zero => cases hk; exact h
  | succ k => cases hk
/-- the locals -/
def pr_L (b B : Nat) (ls : List (Option PV)) (a : Array Slot) (n : Nat) : Prop := ls.length = n ∧ a.size = n ∧ lv_wf a ∧ ∀ (i : Nat) (v : PV), ls[i]? = some (some v) → a[i]? = some (.val (pr_v b B v))
def pr_ll (b B : Nat) (ls : List (Option PV)) : List (Nat × Value) := (List.range ls.length).filterMap (fun i => match ls[i]? with
  | some (some v) => some (i, pr_v b B v)
  | _ => none)
theorem pr_ll_in {b B : Nat} {ls : List (Option PV)} {i : Nat} {v : PV} (h : ls[i]? = some (some v)) : (i, pr_v b B v) ∈ pr_ll b B ls := by
  refine List.mem_filterMap.mpr ⟨i, List.mem_range.mpr (List.getElem?_eq_some_iff.mp h).1, ?_⟩
  rw [h]
theorem pr_L.has {b B : Nat} {ls : List (Option PV)} {a : Array Slot} {n : Nat} (h : pr_L b B ls a n) : lv_has a n (pr_ll b B ls) := by
  refine ⟨h.2.1, h.2.2.1, fun q hq => ?_⟩
  obtain ⟨i, -, hi⟩ := List.mem_filterMap.mp hq
  split at hi
  · cases hi
    exact h.2.2.2 _ _ (by assumption)
  · cases hi
/-- a local is written -/
theorem pr_L.set {b B : Nat} {ls : List (Option PV)} {a a1 : Array Slot} {n i : Nat} {v : PV} (h : pr_L b B ls a n) (hi : i < ls.length) (h1 : lv_has a1 n ((i, pr_v b B v) :: (pr_ll b B ls).filter (fun q => !(q.1 == i) && !(q.1 + 1 == i && q.2.category == 2)))) : pr_L b B (ls.set i (some v)) a1 n := by
  refine ⟨by rw [List.length_set]; exact h.1, h1.1, h1.2.1, fun j w hj => ?_⟩
  by_cases hji : j = i
  · subst hji
    rw [List.getElem?_set_self hi] at hj
    cases hj
    exact h1.2.2 _ List.mem_cons_self
  · rw [List.getElem?_set_ne (Ne.symm hji)] at hj
    refine h1.2.2 (j, pr_v b B w) (List.mem_cons_of_mem _ (List.mem_filter.mpr ⟨pr_ll_in hj, ?_⟩))
    simp [hji, pr_cat]
theorem pr_args {b B : Nat} : ∀ (as : List PV) (k i : Nat) (v : PV), as[i]? = some v → (k + i, pr_v b B v) ∈ lv_args k (as.map (pr_v b B))
  | [], _, i, v, h => by simp at h
  | a :: t, k, i, v, h => by
    have hc : ¬ (pr_v b B a).category = 2 := by rw [pr_cat]; omega
    simp only [List.map_cons, lv_args, if_neg hc]
    cases i with
    | zero =>
      rw [List.getElem?_cons_zero] at h
      cases h
      exact List.mem_cons_self
    | succ i =>
      rw [List.getElem?_cons_succ] at h
      have := pr_args (b := b) (B := B) t (k + 1) i v h
      rw [show k + (i + 1) = k + 1 + i by omega]
      exact List.mem_cons_of_mem _ this
theorem pr_sl (b B : Nat) (as : List PV) : (lg_sl (as.map (pr_v b B))).length = as.length := by
  induction as with
  | nil => rfl
  | cons a t ih =>
    have hc : ¬ (pr_v b B a).category = 2 := by rw [pr_cat]; omega
    have e : lg_sl ((a :: t).map (pr_v b B)) = [Slot.val (pr_v b B a)] ++ lg_sl (t.map (pr_v b B)) := by
      simp only [lg_sl, List.map_cons, List.flatMap_cons, if_neg hc]
    rw [e, List.length_append, ih, List.length_cons]
    simp
    omega
/-- a method's locals at its start -/
theorem pr_L.entry (b B : Nat) (as : List PV) (n : Nat) (h : as.length ≤ n) : pr_L b B (as.map some ++ List.replicate (n - as.length) none) ((lg_sl (as.map (pr_v b B)) ++ List.replicate (n - (lg_sl (as.map (pr_v b B))).length) Slot.unset).toArray) n := by
  have hl := lv_entry (as.map (pr_v b B)) (n := n) (by rw [pr_sl]; exact h)
  refine ⟨by simp; omega, hl.1, hl.2.1, fun i v hi => ?_⟩
  by_cases hlt : i < as.length
  · rw [List.getElem?_append_left (by simpa using hlt), List.getElem?_map] at hi
    cases ha : as[i]? with
    | none => rw [ha] at hi; cases hi
    | some w =>
      rw [ha] at hi
      cases hi
      have := pr_args (b := b) (B := B) as 0 i v ha
      rw [Nat.zero_add] at this
      exact hl.2.2 _ this
  · rw [List.getElem?_append_right (by simpa using hlt)] at hi
    have := List.mem_of_getElem? hi
    rw [List.mem_replicate] at this
    cases this.2
end
section
/-! ONE STEP of the pure machine is what the model does, an instruction a row. -/
/-- the machine's side of a frame: program, launch, environment, room, state at the method's start, method, arguments, what is below, code, goal -/
abbrev MC := Program × Launch × Env × Room × State × MethodId × Array Value × List Frame × Method × Code × (State → Prop)
abbrev mc_R (M : MC) : Room := M.2.2.2.1
abbrev mc_s (M : MC) : State := M.2.2.2.2.1
abbrev mc_m (M : MC) : MethodId := M.2.2.2.2.2.1
abbrev mc_a (M : MC) : Array Value := M.2.2.2.2.2.2.1
abbrev mc_meth (M : MC) : Method := M.2.2.2.2.2.2.2.2.1
abbrev mc_c (M : MC) : Code := M.2.2.2.2.2.2.2.2.2.1
abbrev pm_W (M : MC) (H : Heap) (locs : List Loc) (kc ks : Nat) (g : JFrame) : Prop :=
  W M.1 M.2.1 M.2.2.1 M.2.2.2.1 M.2.2.2.2.1 M.2.2.2.2.2.1 M.2.2.2.2.2.2.1 M.2.2.2.2.2.2.2.1 M.2.2.2.2.2.2.2.2.1 M.2.2.2.2.2.2.2.2.2.1 H locs kc ks M.2.2.2.2.2.2.2.2.2.2 g
/-- the frame's picture: heap, locals, what was written, what is old stays -/
def ps_J (P : PP) (D : va_G) (dA : Nat → ClassId) (b B y : Nat) (s : State) (ls : List (Option PV)) (h : PH) (H : Heap) (locs : List Loc) (a : Array Slot) : Prop :=
  pr_R P s D dA b B h H ∧ pr_L b B ls a (pp_ml P y) ∧ (∀ q ∈ locs, B ≤ q.base) ∧ ∀ q : Nat, q < B → H[q]? = s.heap[q]?
def ps_T (M : MC) (P : PP) (D : va_G) (dA : Nat → ClassId) (b B y : Nat) (pc : Nat) (ls : List (Option PV)) (st : List PV) (kc ks : Nat) (h : PH) : Prop :=
  ∀ (H : Heap) (locs : List Loc) (a : Array Slot), ps_J P D dA b B y (mc_s M) ls h H locs a → pm_W M H locs kc ks (F0 (mc_m M) pc a (st.map (pr_v b B)))
def ps_C (M : MC) (P : PP) (D : va_G) (dA : Nat → ClassId) (b B y : Nat) (ws ns : List Cond) : Prop :=
  M.1.tables.exec = Jvm.exec ∧ (mc_c M).code = pp_by P y ∧ (mc_c M).maxLocals = pp_ml P y ∧ (mc_s M).vm.findClass (pp_nm P y).cls = some (mc_m M).cls ∧ (∀ w ∈ ws, w.before (mc_a M) (mc_s M) = true) ∧
  (∀ w ∈ ns, va_Nw w (mc_s M)) ∧ pr_K P D dA (mc_s M) ∧ mc_R M = pp_rm P y ∧ ((pp_nm P y).name = "<init>" → (mc_meth M).name = "<init>") ∧ b < B
/-! what the tables of a program must be: each row is decided for the program at hand -/
def pk_C (P : PP) : Prop := ∀ (y pc : Nat) (ins : Instr), pp_code P y pc = some ins → ∃ len, decode (pp_by P y) pc = .ok (ins, len) ∧ ∀ n, pm_len ins = some n → len = n
def pk_K (P : PP) (ws : List Cond) : Prop := ∀ (ci : Nat) (r : vw_C × List FieldType × Bool), (pp_cl P)[ci]? = some r → (∀ w ∈ u_ws r.1.1 r.1.2.1 r.1.2.2, w ∈ ws) ∧ r.2.1.length = r.1.2.2 ∧
  (∀ k, k < r.1.2.2 → parseFieldDescriptor (r.1.2.1 k).2.2.1 = some (r.2.1.getD k .long)) ∧ (∀ a, a < r.1.2.2 → ∀ b, b < r.1.2.2 → a ≠ b → (r.1.2.1 a).2.1 ≠ (r.1.2.1 b).2.1) ∧ (∀ t ∈ r.2.1, pm_plain t = true) ∧ Cond.instantiable r.1.1 r.1.2.2 ∈ ws ∧ Cond.initialized r.1.1 ∈ ws
def pk_F (P : PP) (ws ns : List Cond) : Prop := ∀ y idx ci k : Nat, pp_fld P (pp_own P y) idx = some (ci, k) → ∃ r : vw_C × List FieldType × Bool, (pp_cl P)[ci]? = some r ∧ k < r.1.2.2 ∧
  (Cond.fieldLink (pp_nm P y).cls idx (r.1.2.1 k).1 (r.1.2.1 k).2.1 (r.1.2.1 k).2.2.1 ∈ ws ∨ ∃ host : String, Cond.fieldLinkNest (pp_nm P y).cls idx (r.1.2.1 k).1 (r.1.2.1 k).2.1 (r.1.2.1 k).2.2.1 host ∈ ns)
def pk_P (P : PP) (ws : List Cond) : Prop := ∀ (y pc idx ci k : Nat) (r : vw_C × List FieldType × Bool), pp_code P y pc = some (.putfield idx) → pp_fld P (pp_own P y) idx = some (ci, k) → (pp_cl P)[ci]? = some r →
  (r.1.2.1 k).2.2.2 = false ∨ ((r.1.2.1 k).2.2.2 = true ∧ (pp_nm P y).name = "<init>" ∧ (r.1.2.1 k).1 = (pp_nm P y).cls ∧ Cond.fieldLink (pp_nm P y).cls idx (r.1.2.1 k).1 (r.1.2.1 k).2.1 (r.1.2.1 k).2.2.1 ∈ ws)
/-- a link of a method -/
def pk_link (P : PP) (ws ns : List Cond) (cn : String) (idx z n kd ci : Nat) : Prop := match kd with
  | 0 => (parseMethodDescriptor (pp_nm P z).desc).map (fun d => d.parameters.length) = some n ∧ Cond.methodLink cn idx (pp_nm P z) ∈ ws ∧ Cond.static (pp_nm P z) ∈ ws
  | 1 => (parseMethodDescriptor (pp_nm P z).desc).map (fun d => d.parameters.length) = some n ∧ (∃ host : String, Cond.methodLinkNest cn idx (pp_nm P z) host ∈ ns) ∧ Cond.static (pp_nm P z) ∈ ws
  | 2 => (∃ q, n = q + 1 ∧ (parseMethodDescriptor (pp_nm P z).desc).map (fun d => d.parameters.length) = some q) ∧ Cond.methodLink cn idx (pp_nm P z) ∈ ws ∧ Cond.instanceMethod (pp_nm P z) ∈ ws ∧ Cond.selects (pp_nm P z).cls (pp_nm P z) (pp_nm P z) ∈ ws ∧ ∃ r : vw_C × List FieldType × Bool, (pp_cl P)[ci]? = some r ∧ r.1.1 = (pp_nm P z).cls
  | 3 => (∃ q, n = q + 1 ∧ (parseMethodDescriptor (pp_nm P z).desc).map (fun d => d.parameters.length) = some q) ∧ (∃ host : String, Cond.methodLinkNest cn idx (pp_nm P z) host ∈ ns) ∧ Cond.instanceMethod (pp_nm P z) ∈ ws ∧ Cond.selects (pp_nm P z).cls (pp_nm P z) (pp_nm P z) ∈ ws ∧ ∃ r : vw_C × List FieldType × Bool, (pp_cl P)[ci]? = some r ∧ r.1.1 = (pp_nm P z).cls
  | 4 => (∃ q, n = q + 1 ∧ (parseMethodDescriptor (pp_nm P z).desc).map (fun d => d.parameters.length) = some q) ∧ Cond.methodLink cn idx (pp_nm P z) ∈ ws ∧ Cond.instanceMethod (pp_nm P z) ∈ ws ∧ (pp_nm P z).name = "<init>" ∧ pp_ret P z = none
  | 5 => (∃ q, n = q + 1 ∧ (parseMethodDescriptor (pp_nm P z).desc).map (fun d => d.parameters.length) = some q) ∧ (∃ host : String, Cond.methodLinkNest cn idx (pp_nm P z) host ∈ ns) ∧ Cond.instanceMethod (pp_nm P z) ∈ ws ∧ (pp_nm P z).name = "<init>" ∧ pp_ret P z = none
  | _ => False
def pk_math (ws : List Cond) (cn : String) (idx kd : Nat) : Prop := Cond.initialized "java/lang/Math" ∈ ws ∧ match kd with
  | 7 => Cond.methodLink cn idx Lib.Math.max.name ∈ ws ∧ Cond.static Lib.Math.max.name ∈ ws ∧ Cond.code Lib.Math.max.name Lib.Math.max.code 2 (some .int) ∈ ws
  | 8 => Cond.methodLink cn idx Lib.Math.min.name ∈ ws ∧ Cond.static Lib.Math.min.name ∈ ws ∧ Cond.code Lib.Math.min.name Lib.Math.min.code 2 (some .int) ∈ ws
  | 9 => Cond.methodLink cn idx Lib.Math.abs.name ∈ ws ∧ Cond.static Lib.Math.abs.name ∈ ws ∧ Cond.code Lib.Math.abs.name Lib.Math.abs.code 1 (some .int) ∈ ws
  | _ => False
def pk_M (P : PP) (ws ns : List Cond) : Prop := ∀ y idx z n kd ci : Nat, pp_mth P (pp_own P y) idx = some (z, n, kd, ci) →
  (kd = 6 ∧ Cond.methodLink (pp_nm P y).cls idx Lib.objectInit ∈ ws ∧ Cond.instanceMethod Lib.objectInit ∈ ws ∧ Cond.code Lib.objectInit ⟨#[0xb1]⟩ 1 none ∈ ws) ∨ (6 < kd ∧ pk_math ws (pp_nm P y).cls idx kd) ∨ pk_link P ws ns (pp_nm P y).cls idx z n kd ci
def pk_Z (P : PP) (ws : List Cond) : Prop := ∀ y idx z n kd ci : Nat, pp_mth P (pp_own P y) idx = some (z, n, kd, ci) → kd < 6 → n ≤ pp_ml P z ∧ Cond.code (pp_nm P z) (pp_by P z) (pp_ml P z) (pp_ret P z) ∈ ws ∧ Cond.initialized (pp_nm P z).cls ∈ ws ∧
  (pp_nm P z).cls ≠ "java/lang/invoke/MethodHandle" ∧ (pp_nm P z).cls ≠ "java/lang/invoke/VarHandle" ∧ plainName (pp_nm P z).cls = true
def pk_R (P : PP) : Prop := ∀ (y pc idx z n kd ci : Nat), (pp_code P y pc = some (.invokestatic idx) ∨ pp_code P y pc = some (.invokevirtual idx) ∨ pp_code P y pc = some (.invokespecial idx)) → pp_mth P (pp_own P y) idx = some (z, n, kd, ci) →
  (6 ≤ kd → 1 ≤ (pp_rm P y).frames ∧ 22 ≤ (pp_rm P y).locals) ∧ (kd < 6 → (pp_rm P z).frames + 1 ≤ (pp_rm P y).frames ∧ 8 + (pp_ml P z + 11) + (pp_rm P z).locals ≤ (pp_rm P y).locals)
def pk_V (P : PP) (ws : List Cond) : Prop := ∀ (y idx : Nat) (v : Int32), pp_cst P (pp_own P y) idx = some v → Cond.constant (pp_nm P y).cls idx v ∈ ws
def pk_N (P : PP) (ws : List Cond) : Prop := ∀ y idx ci : Nat, pp_cls P (pp_own P y) idx = some ci → ∃ r : vw_C × List FieldType × Bool, (pp_cl P)[ci]? = some r ∧ Cond.classLink (pp_nm P y).cls idx r.1.1 ∈ ws
def pk_A (ws : List Cond) : Prop := Cond.arrayClass .int ∈ ws ∧ Cond.arrayClass .boolean ∈ ws
def pk_G (ws : List Cond) : Prop := ∀ w ∈ ws, (w.onTables && w.keeps) = true ∨ ∃ ty, w = .arrayClass ty
def pk_S (ns : List Cond) : Prop := ∀ w ∈ ns, (∃ a i b n d h, w = .fieldLinkNest a i b n d h) ∨ ∃ a i x h, w = .methodLinkNest a i x h
def pk_all (P : PP) (ws ns : List Cond) : Prop := pk_C P ∧ pk_K P ws ∧ pk_F P ws ns ∧ pk_P P ws ∧ pk_M P ws ns ∧ pk_Z P ws ∧ pk_R P ∧ pk_V P ws ∧ pk_N P ws ∧ pk_A ws ∧ pk_G ws ∧ pk_S ns
theorem pm_tg_eq {pc t : Nat} {off : Int} (h : pm_tg pc off = some t) : (pc : Int) + off = (t : Int) := by
  unfold pm_tg at h
  split at h
  · rename_i t' e
    cases h
    exact e
  · cases h
theorem pm_br_t {b : Bool} {t pc : Nat} (h : b = true) : pm_br b t pc = t := by subst h; rfl
theorem pm_br_f {b : Bool} {t pc : Nat} (h : b = false) : pm_br b t pc = pc + 3 := by subst h; rfl
theorem pm_in_vp {j : Int32} {n : Nat} (h : pm_in j n = true) : vp_in j n := by
  have h1 : ¬ j < 0 ∧ j.toNatClampNeg < n := by simpa [pm_in] using h
  intro q
  rcases q with q | q
  · exact h1.1 q
  · omega
section PS
variable {M : MC} {P : PP} {D : va_G} {dA : Nat → ClassId} {b B y : Nat} {ws ns : List Cond} {pc kc ks : Nat} {ls : List (Option PV)} {st : List PV} {h : PH}
theorem ps_iconst (C : ps_C M P D dA b B y ws ns) {n : Int} (hd : decode (pp_by P y) pc = .ok (.iconst n, 1)) (k : ps_T M P D dA b B y (pc + 1) ls (.inl (Int32.ofInt n) :: st) kc ks h) : ps_T M P D dA b B y pc ls st kc ks h :=
  fun H locs a J => lv_iconst C.1 C.2.1 hd rfl (k H locs a J)
theorem ps_bipush (C : ps_C M P D dA b B y ws ns) {n : Int} (hd : decode (pp_by P y) pc = .ok (.bipush n, 2)) (k : ps_T M P D dA b B y (pc + 2) ls (.inl (Int8.ofInt n).toInt32 :: st) kc ks h) : ps_T M P D dA b B y pc ls st kc ks h :=
  fun H locs a J => lv_bipush C.1 C.2.1 hd rfl (k H locs a J)
theorem ps_sipush (C : ps_C M P D dA b B y ws ns) {n : Int} (hd : decode (pp_by P y) pc = .ok (.sipush n, 3)) (k : ps_T M P D dA b B y (pc + 3) ls (.inl (Int16.ofInt n).toInt32 :: st) kc ks h) : ps_T M P D dA b B y pc ls st kc ks h :=
  fun H locs a J => lv_sipush C.1 C.2.1 hd rfl (k H locs a J)
theorem ps_ldc (C : ps_C M P D dA b B y ws ns) (V : pk_V P ws) {idx : Nat} {v : Int32} (hv : pp_cst P (pp_own P y) idx = some v) (hd : decode (pp_by P y) pc = .ok (.ldc idx, 2)) (k : ps_T M P D dA b B y (pc + 2) ls (.inl v :: st) kc ks h) : ps_T M P D dA b B y pc ls st kc ks h :=
  fun H locs a J => lv_ldc C.1 C.2.1 C.2.2.2.1 (C.2.2.2.2.1 _ (V y idx v hv)) hd (k H locs a J)
theorem ps_null (C : ps_C M P D dA b B y ws ns) (hd : decode (pp_by P y) pc = .ok (.aconst_null, 1)) (k : ps_T M P D dA b B y (pc + 1) ls (.inr none :: st) kc ks h) : ps_T M P D dA b B y pc ls st kc ks h :=
  fun H locs a J => lv_null C.1 C.2.1 hd (k H locs a J)
theorem ps_iload_n (C : ps_C M P D dA b B y ws ns) {i : Fin 4} {x : Int32} (hl : ls[i.val]? = some (some (.inl x))) (hd : decode (pp_by P y) pc = .ok (.iload_n i, 1)) (k : ps_T M P D dA b B y (pc + 1) ls (.inl x :: st) kc ks h) : ps_T M P D dA b B y pc ls st kc ks h :=
  fun H locs a J => lv_iload_n C.1 C.2.1 hd rfl (J.2.1.2.2.2 _ _ hl) (k H locs a J)
theorem ps_iload (C : ps_C M P D dA b B y ws ns) {i : Nat} {x : Int32} (hl : ls[i]? = some (some (.inl x))) (hd : decode (pp_by P y) pc = .ok (.iload i, 2)) (k : ps_T M P D dA b B y (pc + 2) ls (.inl x :: st) kc ks h) : ps_T M P D dA b B y pc ls st kc ks h :=
  fun H locs a J => lv_iload C.1 C.2.1 hd (J.2.1.2.2.2 _ _ hl) (k H locs a J)
theorem ps_aload_n (C : ps_C M P D dA b B y ws ns) {i : Fin 4} {x : Option Nat} (hl : ls[i.val]? = some (some (.inr x))) (hd : decode (pp_by P y) pc = .ok (.aload_n i, 1)) (k : ps_T M P D dA b B y (pc + 1) ls (.inr x :: st) kc ks h) : ps_T M P D dA b B y pc ls st kc ks h := by
  intro H locs a J
  have hl := J.2.1.2.2.2 _ _ hl
  have k := k H locs a J
  cases x with
  | none => exact lv_aload_nN C.1 C.2.1 hd rfl hl k
  | some x => exact lv_aload_n C.1 C.2.1 hd rfl hl k
theorem ps_aload (C : ps_C M P D dA b B y ws ns) {i : Nat} {x : Option Nat} (hl : ls[i]? = some (some (.inr x))) (hd : decode (pp_by P y) pc = .ok (.aload i, 2)) (k : ps_T M P D dA b B y (pc + 2) ls (.inr x :: st) kc ks h) : ps_T M P D dA b B y pc ls st kc ks h := by
  intro H locs a J
  have hl := J.2.1.2.2.2 _ _ hl
  have k := k H locs a J
  cases x with
  | none => exact lv_aloadN C.1 C.2.1 hd hl k
  | some x => exact lv_aload C.1 C.2.1 hd hl k
theorem ps_Jset {s : State} {H : Heap} {locs : List Loc} {a a1 : Array Slot} {i : Nat} {v : PV} (J : ps_J P D dA b B y s ls h H locs a) (hi : i < ls.length) (h1 : lv_has a1 (pp_ml P y) ((i, pr_v b B v) :: (pr_ll b B ls).filter (fun q => !(q.1 == i) && !(q.1 + 1 == i && q.2.category == 2)))) : ps_J P D dA b B y s (ls.set i (some v)) h H locs a1 :=
  ⟨J.1, J.2.1.set hi h1, J.2.2⟩
theorem ps_istore_n (C : ps_C M P D dA b B y ws ns) {i : Fin 4} {x : Int32} (hi : i.val < ls.length) (hd : decode (pp_by P y) pc = .ok (.istore_n i, 1)) (k : ps_T M P D dA b B y (pc + 1) (ls.set i.val (some (.inl x))) st kc ks h) : ps_T M P D dA b B y pc ls (.inl x :: st) kc ks h :=
  fun H locs a J => lv_istore_n C.1 C.2.1 hd rfl J.2.1.has (by rw [← J.2.1.1]; exact hi) rfl (fun a1 h1 => k H locs a1 (ps_Jset (v := .inl x) J hi h1))
theorem ps_istore (C : ps_C M P D dA b B y ws ns) {i : Nat} {x : Int32} (hi : i < ls.length) (hd : decode (pp_by P y) pc = .ok (.istore i, 2)) (k : ps_T M P D dA b B y (pc + 2) (ls.set i (some (.inl x))) st kc ks h) : ps_T M P D dA b B y pc ls (.inl x :: st) kc ks h :=
  fun H locs a J => lv_istore C.1 C.2.1 hd J.2.1.has (by rw [← J.2.1.1]; exact hi) rfl (fun a1 h1 => k H locs a1 (ps_Jset (v := .inl x) J hi h1))
theorem ps_astore_n (C : ps_C M P D dA b B y ws ns) {i : Fin 4} {x : Option Nat} (hi : i.val < ls.length) (hd : decode (pp_by P y) pc = .ok (.astore_n i, 1)) (k : ps_T M P D dA b B y (pc + 1) (ls.set i.val (some (.inr x))) st kc ks h) : ps_T M P D dA b B y pc ls (.inr x :: st) kc ks h := by
  intro H locs a J
  cases x with
  | none => exact lv_astore_nN C.1 C.2.1 hd rfl J.2.1.has (by rw [← J.2.1.1]; exact hi) rfl (fun a1 h1 => k H locs a1 (ps_Jset (v := .inr none) J hi h1))
  | some x => exact lv_astore_n C.1 C.2.1 hd rfl J.2.1.has (by rw [← J.2.1.1]; exact hi) rfl (fun a1 h1 => k H locs a1 (ps_Jset (v := .inr (some x)) J hi h1))
theorem ps_astore (C : ps_C M P D dA b B y ws ns) {i : Nat} {x : Option Nat} (hi : i < ls.length) (hd : decode (pp_by P y) pc = .ok (.astore i, 2)) (k : ps_T M P D dA b B y (pc + 2) (ls.set i (some (.inr x))) st kc ks h) : ps_T M P D dA b B y pc ls (.inr x :: st) kc ks h := by
  intro H locs a J
  cases x with
  | none => exact lv_astoreN C.1 C.2.1 hd J.2.1.has (by rw [← J.2.1.1]; exact hi) rfl (fun a1 h1 => k H locs a1 (ps_Jset (v := .inr none) J hi h1))
  | some x => exact lv_astore C.1 C.2.1 hd J.2.1.has (by rw [← J.2.1.1]; exact hi) rfl (fun a1 h1 => k H locs a1 (ps_Jset (v := .inr (some x)) J hi h1))
theorem ps_iinc (C : ps_C M P D dA b B y ws ns) {i : Nat} {d : Int} {x : Int32} (hl : ls[i]? = some (some (.inl x))) (hd : decode (pp_by P y) pc = .ok (.iinc i d, 3)) (k : ps_T M P D dA b B y (pc + 3) (ls.set i (some (.inl (x + Int32.ofInt d)))) st kc ks h) : ps_T M P D dA b B y pc ls st kc ks h := by
  intro H locs a J
  have hi : i < ls.length := (List.getElem?_eq_some_iff.mp hl).1
  obtain ⟨j, hj⟩ := List.getElem?_of_mem (pr_ll_in (b := b) (B := B) hl)
  exact lv_iinc C.1 C.2.1 hd J.2.1.has hj rfl (by rw [← J.2.1.1]; exact hi) rfl (fun a1 h1 => k H locs a1 (ps_Jset (v := .inl (x + Int32.ofInt d)) J hi h1))
theorem ps_op2 (C : ps_C M P D dA b B y ws ns) {ins : Instr} {u v z : Int32} (hz : pm_bin ins u v = some z) (hd : decode (pp_by P y) pc = .ok (ins, 1)) (k : ps_T M P D dA b B y (pc + 1) ls (.inl z :: st) kc ks h) : ps_T M P D dA b B y pc ls (.inl v :: .inl u :: st) kc ks h := by
  intro H locs a J
  have k := k H locs a J
  cases ins with
  | iadd => cases hz; exact lv_iadd C.1 C.2.1 hd k
  | isub => cases hz; exact lv_isub C.1 C.2.1 hd k
  | imul => cases hz; exact lv_imul C.1 C.2.1 hd k
  | iand => cases hz; exact lv_iand C.1 C.2.1 hd k
  | ior => cases hz; exact lv_ior C.1 C.2.1 hd k
  | ixor => cases hz; exact lv_ixor C.1 C.2.1 hd k
  | ishl => cases hz; exact lv_ishl C.1 C.2.1 hd k
  | ishr => cases hz; exact lv_ishr C.1 C.2.1 hd k
  | iushr => cases hz; exact lv_iushr C.1 C.2.1 hd rfl k
  | idiv =>
    have hz : (if v = 0 then none else some (u / v)) = some z := hz
    split at hz
    · cases hz
    · rename_i hne
      cases hz
      exact lv_idiv C.1 C.2.1 hd hne k
  | irem =>
    have hz : (if v = 0 then none else some (u - u / v * v)) = some z := hz
    split at hz
    · cases hz
    · rename_i hne
      cases hz
      exact lv_irem C.1 C.2.1 hd hne k
  | _ => exact nomatch (show (none : Option Int32) = some z from hz)
theorem ps_ineg (C : ps_C M P D dA b B y ws ns) {u : Int32} (hd : decode (pp_by P y) pc = .ok (.ineg, 1)) (k : ps_T M P D dA b B y (pc + 1) ls (.inl (-u) :: st) kc ks h) : ps_T M P D dA b B y pc ls (.inl u :: st) kc ks h :=
  fun H locs a J => lv_ineg C.1 C.2.1 hd (k H locs a J)
theorem ps_dup (C : ps_C M P D dA b B y ws ns) {v : PV} (hd : decode (pp_by P y) pc = .ok (.dup, 1)) (k : ps_T M P D dA b B y (pc + 1) ls (v :: v :: st) kc ks h) : ps_T M P D dA b B y pc ls (v :: st) kc ks h :=
  fun H locs a J => lv_dup C.1 C.2.1 hd (pr_cat b B v) (k H locs a J)
theorem ps_pop (C : ps_C M P D dA b B y ws ns) {v : PV} (hd : decode (pp_by P y) pc = .ok (.pop, 1)) (k : ps_T M P D dA b B y (pc + 1) ls st kc ks h) : ps_T M P D dA b B y pc ls (v :: st) kc ks h :=
  fun H locs a J => lv_pop C.1 C.2.1 hd (pr_cat b B v) (k H locs a J)
theorem ps_dup_x1 (C : ps_C M P D dA b B y ws ns) {v w : PV} (hd : decode (pp_by P y) pc = .ok (.dup_x1, 1)) (k : ps_T M P D dA b B y (pc + 1) ls (v :: w :: v :: st) kc ks h) : ps_T M P D dA b B y pc ls (v :: w :: st) kc ks h :=
  fun H locs a J => lv_dup_x1 C.1 C.2.1 hd (pr_cat b B v) (pr_cat b B w) (k H locs a J)
theorem ps_dup_x2 (C : ps_C M P D dA b B y ws ns) {v w u : PV} (hd : decode (pp_by P y) pc = .ok (.dup_x2, 1)) (k : ps_T M P D dA b B y (pc + 1) ls (v :: w :: u :: v :: st) kc ks h) : ps_T M P D dA b B y pc ls (v :: w :: u :: st) kc ks h :=
  fun H locs a J => lv_dup_x2 C.1 C.2.1 hd (pr_cat b B v) (pr_cat b B w) (pr_cat b B u) (k H locs a J)
theorem ps_dup2 (C : ps_C M P D dA b B y ws ns) {v w : PV} (hd : decode (pp_by P y) pc = .ok (.dup2, 1)) (k : ps_T M P D dA b B y (pc + 1) ls (v :: w :: v :: w :: st) kc ks h) : ps_T M P D dA b B y pc ls (v :: w :: st) kc ks h :=
  fun H locs a J => lv_dup2_11 C.1 C.2.1 hd (pr_cat b B v) (pr_cat b B w) (k H locs a J)
theorem ps_goto (C : ps_C M P D dA b B y ws ns) {off : Int} {t : Nat} (ht : pm_tg pc off = some t) (hd : decode (pp_by P y) pc = .ok (.goto off, 3)) (k : ps_T M P D dA b B y t ls st kc ks h) : ps_T M P D dA b B y pc ls st kc ks h :=
  fun H locs a J => lv_goto C.1 C.2.1 hd (pm_tg_eq ht) (k H locs a J)
theorem ps_if1 (C : ps_C M P D dA b B y ws ns) {c : Jvm.ClassFile.Cond} {x : Int32} {off : Int} {t : Nat} (ht : pm_tg pc off = some t) (hd : decode (pp_by P y) pc = .ok (.ifCond c off, 3)) (k : ps_T M P D dA b B y (pm_br (pm_cnd c x 0) t pc) ls st kc ks h) : ps_T M P D dA b B y pc ls (.inl x :: st) kc ks h := by
  intro H locs a J
  have k := k H locs a J
  have ht := pm_tg_eq ht
  cases c with
  | eq => exact lv_if_eq C.1 C.2.1 hd ht (fun q => by rw [pm_br_t (show pm_cnd .eq x 0 = true from decide_eq_true q)] at k; exact k) (fun q => by rw [pm_br_f (show pm_cnd .eq x 0 = false from decide_eq_false q)] at k; exact k)
  | ne => exact lv_if_ne C.1 C.2.1 hd ht (fun q => by rw [pm_br_t (show pm_cnd .ne x 0 = true from decide_eq_true q)] at k; exact k) (fun q => by rw [pm_br_f (show pm_cnd .ne x 0 = false from decide_eq_false (fun z => z q))] at k; exact k)
  | lt => exact lv_if_lt C.1 C.2.1 hd ht (fun q => by rw [pm_br_t (show pm_cnd .lt x 0 = true from decide_eq_true q)] at k; exact k) (fun q => by rw [pm_br_f (show pm_cnd .lt x 0 = false from decide_eq_false q)] at k; exact k)
  | ge => exact lv_if_ge C.1 C.2.1 hd ht (fun q => by rw [pm_br_t (show pm_cnd .ge x 0 = true from decide_eq_true q)] at k; exact k) (fun q => by rw [pm_br_f (show pm_cnd .ge x 0 = false from decide_eq_false q)] at k; exact k)
  | gt => exact lv_if_gt C.1 C.2.1 hd ht (fun q => by rw [pm_br_t (show pm_cnd .gt x 0 = true from decide_eq_true q)] at k; exact k) (fun q => by rw [pm_br_f (show pm_cnd .gt x 0 = false from decide_eq_false q)] at k; exact k)
  | le => exact lv_if_le C.1 C.2.1 hd ht (fun q => by rw [pm_br_t (show pm_cnd .le x 0 = true from decide_eq_true q)] at k; exact k) (fun q => by rw [pm_br_f (show pm_cnd .le x 0 = false from decide_eq_false q)] at k; exact k)
theorem ps_if2 (C : ps_C M P D dA b B y ws ns) {c : Jvm.ClassFile.Cond} {x z : Int32} {off : Int} {t : Nat} (ht : pm_tg pc off = some t) (hd : decode (pp_by P y) pc = .ok (.if_icmp c off, 3)) (k : ps_T M P D dA b B y (pm_br (pm_cnd c x z) t pc) ls st kc ks h) : ps_T M P D dA b B y pc ls (.inl z :: .inl x :: st) kc ks h := by
  intro H locs a J
  have k := k H locs a J
  have ht := pm_tg_eq ht
  cases c with
  | eq => exact lv_icmp_eq C.1 C.2.1 hd ht (fun q => by rw [pm_br_t (show pm_cnd .eq x z = true from decide_eq_true q)] at k; exact k) (fun q => by rw [pm_br_f (show pm_cnd .eq x z = false from decide_eq_false q)] at k; exact k)
  | ne => exact lv_icmp_ne C.1 C.2.1 hd ht (fun q => by rw [pm_br_t (show pm_cnd .ne x z = true from decide_eq_true q)] at k; exact k) (fun q => by rw [pm_br_f (show pm_cnd .ne x z = false from decide_eq_false (fun w => w q))] at k; exact k)
  | lt => exact lv_icmp_lt C.1 C.2.1 hd ht (fun q => by rw [pm_br_t (show pm_cnd .lt x z = true from decide_eq_true q)] at k; exact k) (fun q => by rw [pm_br_f (show pm_cnd .lt x z = false from decide_eq_false q)] at k; exact k)
  | ge => exact lv_icmp_ge C.1 C.2.1 hd ht (fun q => by rw [pm_br_t (show pm_cnd .ge x z = true from decide_eq_true q)] at k; exact k) (fun q => by rw [pm_br_f (show pm_cnd .ge x z = false from decide_eq_false q)] at k; exact k)
  | gt => exact lv_icmp_gt C.1 C.2.1 hd ht (fun q => by rw [pm_br_t (show pm_cnd .gt x z = true from decide_eq_true q)] at k; exact k) (fun q => by rw [pm_br_f (show pm_cnd .gt x z = false from decide_eq_false q)] at k; exact k)
  | le => exact lv_icmp_le C.1 C.2.1 hd ht (fun q => by rw [pm_br_t (show pm_cnd .le x z = true from decide_eq_true q)] at k; exact k) (fun q => by rw [pm_br_f (show pm_cnd .le x z = false from decide_eq_false q)] at k; exact k)
theorem pr_map_inj {b B : Nat} (hb : b < B) {x z : Option Nat} (e : x.map (pr_ad b B) = z.map (pr_ad b B)) : x = z := by
  cases x with
  | none => cases z with
    | none => rfl
    | some z => cases e
  | some x => cases z with
    | none => cases e
    | some z => rw [pr_ad_inj hb (Option.some.inj e)]
theorem ps_ifa (C : ps_C M P D dA b B y ws ns) {c : ACond} {x z : Option Nat} {off : Int} {t : Nat} (ht : pm_tg pc off = some t) (hd : decode (pp_by P y) pc = .ok (.if_acmp c off, 3)) (k : ps_T M P D dA b B y (pm_br (pm_ac c x z) t pc) ls st kc ks h) : ps_T M P D dA b B y pc ls (.inr z :: .inr x :: st) kc ks h := by
  intro H locs a J
  have k := k H locs a J
  have ht := pm_tg_eq ht
  have hbB : b < B := C.2.2.2.2.2.2.2.2.2
  cases c with
  | eq => exact lv_acmp_eq (rx := x.map (pr_ad b B)) (ry := z.map (pr_ad b B)) C.1 C.2.1 hd ht (fun q => by rw [pm_br_t (show pm_ac .eq x z = true from decide_eq_true (pr_map_inj hbB q))] at k; exact k) (fun q => by rw [pm_br_f (show pm_ac .eq x z = false from decide_eq_false (fun w => q (by rw [w])))] at k; exact k)
  | ne => exact lv_acmp_ne (rx := x.map (pr_ad b B)) (ry := z.map (pr_ad b B)) C.1 C.2.1 hd ht (fun q => by
      have e : decide (¬ x = z) = true := decide_eq_true (show ¬ x = z from fun w => q (by rw [w]))
      have k2 : pm_W M H locs kc ks (F0 (mc_m M) (pm_br (decide (¬ x = z)) t pc) a (st.map (pr_v b B))) := k
      rw [pm_br_t e] at k2
      exact k2) (fun q => by
      have e : decide (¬ x = z) = false := decide_eq_false (show ¬ ¬ x = z from fun w => w (pr_map_inj hbB q))
      have k2 : pm_W M H locs kc ks (F0 (mc_m M) (pm_br (decide (¬ x = z)) t pc) a (st.map (pr_v b B))) := k
      rw [pm_br_f e] at k2
      exact k2)
theorem ps_ifnull (C : ps_C M P D dA b B y ws ns) {x : Option Nat} {off : Int} {t : Nat} (ht : pm_tg pc off = some t) (hd : decode (pp_by P y) pc = .ok (.ifnull off, 3)) (k : ps_T M P D dA b B y (pm_br (match x with | none => !false | some _ => false) t pc) ls st kc ks h) : ps_T M P D dA b B y pc ls (.inr x :: st) kc ks h := by
  intro H locs a J
  have k := k H locs a J
  cases x with
  | none => exact lv_ifnullN C.1 C.2.1 hd (pm_tg_eq ht) k
  | some x => exact lv_ifnull C.1 C.2.1 hd k
theorem ps_ifnonnull (C : ps_C M P D dA b B y ws ns) {x : Option Nat} {off : Int} {t : Nat} (ht : pm_tg pc off = some t) (hd : decode (pp_by P y) pc = .ok (.ifnonnull off, 3)) (k : ps_T M P D dA b B y (pm_br (match x with | none => !true | some _ => true) t pc) ls st kc ks h) : ps_T M P D dA b B y pc ls (.inr x :: st) kc ks h := by
  intro H locs a J
  have k := k H locs a J
  cases x with
  | none => exact lv_ifnonnullN C.1 C.2.1 hd k
  | some x => exact lv_ifnonnull C.1 C.2.1 hd (pm_tg_eq ht) k
theorem ps_swOut (C : ps_C M P D dA b B y ws ns) {d lo hi : Int} {offs : Array Int} {len : Nat} {x : Int32} {t : Nat} (h1 : x.toInt < lo ∨ hi < x.toInt) (ht : pm_tg pc d = some t) (hd : decode (pp_by P y) pc = .ok (.tableswitch d lo hi offs, len)) (k : ps_T M P D dA b B y t ls st kc ks h) : ps_T M P D dA b B y pc ls (.inl x :: st) kc ks h :=
  fun H locs a J => lv_tableOut C.1 C.2.1 hd h1 (pm_tg_eq ht) (k H locs a J)
theorem ps_swIn (C : ps_C M P D dA b B y ws ns) {d lo hi off : Int} {offs : Array Int} {len : Nat} {x : Int32} {t : Nat} (h1 : ¬ (x.toInt < lo ∨ hi < x.toInt)) (ho : offs[(x.toInt - lo).toNat]? = some off) (ht : pm_tg pc off = some t) (hd : decode (pp_by P y) pc = .ok (.tableswitch d lo hi offs, len)) (k : ps_T M P D dA b B y t ls st kc ks h) : ps_T M P D dA b B y pc ls (.inl x :: st) kc ks h :=
  fun H locs a J => lv_tableIn C.1 C.2.1 hd (fun q => h1 (Or.inl q)) (fun q => h1 (Or.inr q)) ho (pm_tg_eq ht) (k H locs a J)
end PS
end
section
/-! ONE STEP, the instructions that read, write and make cells. -/
section PHS
variable {M : MC} {P : PP} {D : va_G} {dA : Nat → ClassId} {b B y : Nat} {ws ns : List Cond} {pc kc ks : Nat} {ls : List (Option PV)} {st : List PV} {h : PH}
theorem ps_get (C : ps_C M P D dA b B y ws ns) (oK : pk_K P ws) (oF : pk_F P ws ns) {idx ci k i : Nat} {fs : List PV} {v : PV} (hf : pp_fld P (pp_own P y) idx = some (ci, k)) (hi : h[i]? = some (.inr (.inr (ci, fs)))) (hv : fs[k]? = some v) (hd : decode (pp_by P y) pc = .ok (.getfield idx, 3))
    (kk : ps_T M P D dA b B y (pc + 3) ls (v :: st) kc ks h) : ps_T M P D dA b B y pc ls (.inr (some i) :: st) kc ks h := by
  intro H locs a J
  have kk := kk H locs a J
  obtain ⟨hx, hb, hml, hown, hts, hns, hK, hRm, hnm, hbB⟩ := C
  obtain ⟨r, hr, hkN, hlink⟩ := oF y idx ci k hf
  obtain ⟨r2, hr2, hlen, hO⟩ := J.1.2.2 i _ hi
  cases hr.symm.trans hr2
  have hP : va_P D (pr_cl P) [(pr_ad b B i, .inr (ci, fs.map (pr_v b B)))] H := pr_P1 ⟨r.1, pr_clG hr, hO⟩
  have hv2 : (fs.map (pr_v b B))[k]? = some (pr_v b B v) := by rw [List.getElem?_map, hv]; rfl
  rcases hlink with hl | ⟨host, hl⟩
  · exact va_get (C := r.1.1) (T := r.1.2.1) (N := r.1.2.2) hx hb hts (oK ci r hr).1 hown hK.1 hP 0 rfl (pr_clG hr) k hkN (hts _ hl) (fun _ q => q) hv2 hd kk
  · exact va_getN (C := r.1.1) (T := r.1.2.1) (N := r.1.2.2) hx hb hts (oK ci r hr).1 hown hK.1 hP 0 rfl (pr_clG hr) k hkN (va_Nw.use rfl (hns _ hl)) (fun _ q => q) hv2 hd kk
/-- the picture behind a write to the cell i -/
theorem ps_Jput {s : State} {H H1 : Heap} {locs : List Loc} {a : Array Slot} {i j : Nat} {c0 c1 : PC} (hbB : b < B) (J : ps_J P D dA b B y s ls h H locs a) (hi : h[i]? = some c0) (hi0 : ¬ i = 0) (he : pr_at P s D dA b B i c1 H1) (hz : H1.size = H.size) (oq : ∀ q : Nat, q ≠ pr_ad b B i → H1[q]? = H[q]?) :
    ps_J P D dA b B y s ls (h.set i c1) H1 (locs ++ [⟨pr_ad b B i, j⟩]) a := by
  refine ⟨J.1.set hbB hi hi0 he hz oq, J.2.1, fun q hq => ?_, fun q hq => ?_⟩
  · rcases List.mem_append.mp hq with h1 | h1
    · exact J.2.2.1 q h1
    · rw [List.mem_singleton] at h1
      subst h1
      exact pr_ge hi0
  · have := pr_ge (b := b) (B := B) hi0
    rw [oq q (by omega)]
    exact J.2.2.2 q hq
theorem pr_obj0 {s : State} {H : Heap} (hR : pr_R P s D dA b B h H) {i : Nat} {x : (Nat × Nat × (Nat → Option Nat)) ⊕ (Nat × List PV)} (hi : h[i]? = some (.inr x)) : ¬ i = 0 := by
  intro q
  subst q
  obtain ⟨⟨n, f, h1⟩, -⟩ := hR
  cases h1.symm.trans hi
theorem pr_arr0 {s : State} {H : Heap} (hR : pr_R P s D dA b B h H) {i k n : Nat} {f : Nat → Int32} (hi : h[i]? = some (.inl (k, n, f))) (hk : ¬ k = 2) : ¬ i = 0 := by
  intro q
  subst q
  obtain ⟨⟨n, f, h1⟩, -⟩ := hR
  have h2 := Option.some.inj (h1.symm.trans hi)
  injection h2 with h3
  exact hk (Prod.mk.inj h3).1.symm
theorem pr_fty {ci k : Nat} {r : vw_C × List FieldType × Bool} (hr : (pp_cl P)[ci]? = some r) : pm_fty P ci k = r.2.1.getD k .long := by
  unfold pm_fty
  rw [hr]
/-- an object behind a write to its field k -/
theorem pr_objset {H1 : Heap} {a cC N k : Nat} {iS : Nat → Nat} {fs : List PV} {w : PV} {cell : Cell} (q2 : cell.cls = cC) (q3 : cell.vm = .none) (q4 : ∀ k, k < N → cell.slots[iS k]? = some (vp_V (fs.map (pr_v b B)) k)) (hap : ∀ x y, x < N → y < N → x ≠ y → iS x ≠ iS y) (hk : k < N) (hl : k < fs.length)
    (e1 : H1[a]? = some (cell.setSlot (iS k) (pr_v b B w))) : t_OB a cC N iS H1 (vp_V ((fs.set k w).map (pr_v b B))) := by
  rw [List.map_set]
  exact t_OB.to (V := updV (vp_V (fs.map (pr_v b B))) k (pr_v b B w)) ⟨_, e1, q2, q3, t_set q4 hap hk _⟩ (fun j _ => vp_updV_set (by rw [List.length_map]; exact hl) _ j)
theorem ps_put (C : ps_C M P D dA b B y ws ns) (oK : pk_K P ws) (oF : pk_F P ws ns) (oP : pk_P P ws) {idx ci k i : Nat} {fs : List PV} {v : PV} (hc : pp_code P y pc = some (.putfield idx)) (hf : pp_fld P (pp_own P y) idx = some (ci, k)) (hi : h[i]? = some (.inr (.inr (ci, fs)))) (hl : k < fs.length) (hv : pm_fit (pm_fty P ci k) v = true) (hd : decode (pp_by P y) pc = .ok (.putfield idx, 3))
    (kk : ps_T M P D dA b B y (pc + 3) ls st kc ks (h.set i (.inr (.inr (ci, fs.set k v))))) : ps_T M P D dA b B y pc ls (v :: .inr (some i) :: st) kc ks h := by
  intro H locs a J
  obtain ⟨hx, hb, hml, hown, hts, hns, hK, hRm, hnm, hbB⟩ := C
  obtain ⟨r, hr, hkN, hlink⟩ := oF y idx ci k hf
  obtain ⟨r2, hr2, hlen, hO⟩ := J.1.2.2 i _ hi
  cases hr.symm.trans hr2
  have hi0 := pr_obj0 J.1 hi
  obtain ⟨hin, -, hty, hnames, -⟩ := oK ci r hr
  have hcl := pr_clG hr
  have hap := va_apart (own := "") hts hin (fun k => r.2.1.getD k .long) hty hnames hK.1 hcl
  obtain ⟨cell, q1, q2, q3, q4⟩ := hO
  obtain ⟨hS, hfc, kC, hkC, hkind⟩ := hK.1.1 ci _ hcl
  obtain ⟨cf, kf, fi, f, hfi, hsl⟩ := hS k hkN
  have hfit := pr_fit b B (by rw [pr_fty hr] at hv; exact hv)
  have hst := (u_facts hfc hkC (u_lays hts hin hkN) hfi).1
  have fin : ∀ H1 : Heap, H1[pr_ad b B i]? = some (cell.setSlot f.slot (pr_v b B v)) → H1.size = H.size → (∀ q, q ≠ pr_ad b B i → H1[q]? = H[q]?) → ps_J P D dA b B y (mc_s M) ls (h.set i (.inr (.inr (ci, fs.set k v)))) H1 (locs ++ [⟨pr_ad b B i, f.slot⟩]) a := by
    intro H1 e1 e2 e3
    rw [hsl] at e1
    exact ps_Jput hbB J hi hi0 ⟨r, hr, by rw [List.length_set]; exact hlen, pr_objset q2 q3 q4 hap hkN hl e1⟩ e2 e3
  rcases oP y pc idx ci k r hc hf hr with hfin | ⟨hfin, hin2, hdecl, hl2⟩
  · have hlay := hts _ (hin _ (u_in_lay hkN))
    unfold u_lay at hlay
    rw [if_neg (by rw [hfin]; decide)] at hlay
    have h6 := u_store hfc hkC hkind hlay hfi (hty k hkN) hfit.1 hfit.2
    rcases hlink with hl | ⟨host, hl⟩
    · exact W.putK hx hb (f := f) ⟨hown, hts _ hl, ⟨_, _, _, hfi⟩, hst⟩ (by rw [q2]; exact h6) q1 q3 (by rw [hsl]; exact k2_hasslot (q4 k hkN)) rfl rfl hd (fun H1 e1 e2 e3 => kk H1 _ a (fin H1 e1 e2 e3))
    · exact va_WputK hx hb (f := f) hown (va_Nw.use rfl (hns _ hl)) hfi hst (by rw [q2]; exact h6) q1 q3 (by rw [hsl]; exact k2_hasslot (q4 k hkN)) rfl rfl hd (fun H1 e1 e2 e3 => kk H1 _ a (fin H1 e1 e2 e3))
  · have hlay := hts _ (hin _ (u_in_lay hkN))
    unfold u_lay at hlay
    rw [if_pos hfin] at hlay
    have hcf : (mc_m M).cls = cf := by
      obtain ⟨_, _, c1, _, _, _, -, -, hf1, -, -, -, hown2, -⟩ := Cond.laysFinal_spec hlay
      have e1 : c1 = cf := by have := hfi.symm.trans hf1; simp at this; exact this.1.symm
      rw [hdecl] at hown2
      rw [← e1]; exact Option.some.inj (hown.symm.trans hown2)
    have h6 := u_fits hfc hkC hkind (Or.inr hlay) hfi (hty k hkN) hfit.1 hfit.2
    exact W.putFinK hx hb hown (hts _ hl2) hfi hst hcf (hnm hin2) (by rw [q2]; exact h6) q1 q3 (by rw [hsl]; exact k2_hasslot (q4 k hkN)) rfl rfl hd (fun H1 e1 e2 e3 => kk H1 _ a (fin H1 e1 e2 e3))
theorem ps_iald (C : ps_C M P D dA b B y ws ns) {i k n : Nat} {f : Nat → Int32} {j : Int32} (hi : h[i]? = some (.inl (k, n, f))) (hk : k = 0 ∨ k = 2) (hj : pm_in j n = true) (hd : decode (pp_by P y) pc = .ok (.iaload, 1))
    (kk : ps_T M P D dA b B y (pc + 1) ls (.inl (f j.toNatClampNeg) :: st) kc ks h) : ps_T M P D dA b B y pc ls (.inl j :: .inr (some i) :: st) kc ks h := by
  intro H locs a J
  have kk := kk H locs a J
  obtain ⟨hx, hb, hml, hown, hts, hns, hK, hRm, hnm, hbB⟩ := C
  have hin := pm_in_vp hj
  rcases J.1.2.2 i _ hi with ⟨h1, h2⟩ | ⟨h1, h2⟩
  · obtain ⟨scr, g1, g2, g3, g4, g5⟩ := h2
    have hlt : j.toNatClampNeg < n := Nat.not_le.mp fun q => hin (Or.inr q)
    exact W.iald (v := .int (f j.toNatClampNeg)) hx hb g1 g2 g3 (by rw [g4]; exact hin) (g5 _ hlt) rfl rfl hd kk
  · rcases hk with rfl | rfl
    · exact va_iald (D := D) (cl := pr_cl P) (ws := [(pr_ad b B i, .inl (dA 0, n, .inl f))]) (tys := [(dA 0, .int)]) hx hb (pr_K1 hK.1 hK.2.1) (pr_P1 h2) 0 0 rfl rfl hin hd kk
    · exact absurd rfl h1
theorem ps_zald (C : ps_C M P D dA b B y ws ns) {i n : Nat} {f : Nat → Int32} {j : Int32} (hi : h[i]? = some (.inl (1, n, f))) (hj : pm_in j n = true) (hd : decode (pp_by P y) pc = .ok (.baload, 1))
    (kk : ps_T M P D dA b B y (pc + 1) ls (.inl (f j.toNatClampNeg) :: st) kc ks h) : ps_T M P D dA b B y pc ls (.inl j :: .inr (some i) :: st) kc ks h := by
  intro H locs a J
  have kk := kk H locs a J
  obtain ⟨hx, hb, hml, hown, hts, hns, hK, hRm, hnm, hbB⟩ := C
  rcases J.1.2.2 i _ hi with ⟨h1, h2⟩ | ⟨h1, h2⟩
  · exact absurd h1 (by decide)
  · exact va_zald (D := D) (cl := pr_cl P) (ws := [(pr_ad b B i, .inl (dA 1, n, .inl f))]) (tys := [(dA 1, .boolean)]) hx hb (pr_K1 hK.1 hK.2.2.1) (pr_P1 h2) 0 0 rfl rfl (pm_in_vp hj) hd kk
theorem pr_arrC {ci : Nat} (h : ((pp_cl P)[ci]?.map (fun q => q.2.2)) = some true) : ∃ r : vw_C × List FieldType × Bool, (pp_cl P)[ci]? = some r ∧ r.2.2 = true := by
  cases hr : (pp_cl P)[ci]? with
  | none => rw [hr] at h; cases h
  | some r => rw [hr] at h; exact ⟨r, rfl, Option.some.inj h⟩
theorem ps_aald (C : ps_C M P D dA b B y ws ns) {i ci n : Nat} {f : Nat → Option Nat} {j : Int32} (hi : h[i]? = some (.inr (.inl (ci, n, f)))) (hc : ((pp_cl P)[ci]?.map (fun q => q.2.2)) = some true) (hj : pm_in j n = true) (hd : decode (pp_by P y) pc = .ok (.aaload, 1))
    (kk : ps_T M P D dA b B y (pc + 1) ls (.inr (f j.toNatClampNeg) :: st) kc ks h) : ps_T M P D dA b B y pc ls (.inl j :: .inr (some i) :: st) kc ks h := by
  intro H locs a J
  have kk := kk H locs a J
  obtain ⟨hx, hb, hml, hown, hts, hns, hK, hRm, hnm, hbB⟩ := C
  obtain ⟨r, hr, hr2⟩ := pr_arrC hc
  exact va_aldq (D := D) (cl := pr_cl P) (C := r.1.1) (f := fun j => (f j).map (pr_ad b B)) (ws := [(pr_ad b B i, .inl (dA (ci + 3), n, .inr (.inr (.inr (.inr (fun j => (f j).map (pr_ad b B)))))))]) (tys := [(dA (ci + 3), .object r.1.1)]) hx hb (pr_K1 hK.1 (hK.2.2.2 ci r hr hr2).2) (pr_P1 (J.1.2.2 i _ hi)) 0 0 rfl rfl (pm_in_vp hj) hd kk
theorem ps_alen (C : ps_C M P D dA b B y ws ns) {i k n : Nat} {f : Nat → Int32} (hi : h[i]? = some (.inl (k, n, f))) (hk : k < 3) (hd : decode (pp_by P y) pc = .ok (.arraylength, 1))
    (kk : ps_T M P D dA b B y (pc + 1) ls (.inl (Int32.ofNat n) :: st) kc ks h) : ps_T M P D dA b B y pc ls (.inr (some i) :: st) kc ks h := by
  intro H locs a J
  have kk := kk H locs a J
  obtain ⟨hx, hb, hml, hown, hts, hns, hK, hRm, hnm, hbB⟩ := C
  rcases J.1.2.2 i _ hi with ⟨h1, h2⟩ | ⟨h1, h2⟩
  · obtain ⟨scr, g1, g2, g3, g4, g5⟩ := h2
    exact W.alen (n := Int32.ofNat n) hx hb g1 g2 (by rw [g4] <;> rfl) rfl rfl hd kk
  · have h3 : k = 0 ∨ k = 1 := by omega
    rcases h3 with rfl | rfl
    · exact va_alen (D := D) (cl := pr_cl P) (ws := [(pr_ad b B i, .inl (dA 0, n, .inl f))]) (tys := [(dA 0, .int)]) hx hb (pr_K1 hK.1 hK.2.1) (pr_P1 h2) 0 0 rfl rfl rfl hd kk
    · exact va_alen (D := D) (cl := pr_cl P) (ws := [(pr_ad b B i, .inl (dA 1, n, .inl f))]) (tys := [(dA 1, .boolean)]) hx hb (pr_K1 hK.1 hK.2.2.1) (pr_P1 h2) 0 0 rfl rfl rfl hd kk
theorem ps_iast (C : ps_C M P D dA b B y ws ns) {i n : Nat} {f : Nat → Int32} {j x : Int32} (hi : h[i]? = some (.inl (0, n, f))) (hj : pm_in j n = true) (hd : decode (pp_by P y) pc = .ok (.iastore, 1))
    (kk : ps_T M P D dA b B y (pc + 1) ls st kc ks (h.set i (.inl (0, n, upd f j.toNatClampNeg x)))) : ps_T M P D dA b B y pc ls (.inl x :: .inl j :: .inr (some i) :: st) kc ks h := by
  intro H locs a J
  obtain ⟨hx, hb, hml, hown, hts, hns, hK, hRm, hnm, hbB⟩ := C
  have hi0 := pr_arr0 J.1 hi (by decide)
  have hin := pm_in_vp hj
  rcases J.1.2.2 i _ hi with ⟨h1, h2⟩ | ⟨h1, h2⟩
  · exact absurd h1 (by decide)
  · refine W.iast hx hb h2 (hK.2.1.1 n (fun j => .int (f j))) (fun q => by cases q) (by show ¬ (j < 0 ∨ (arrV _ _ _).slots.size ≤ _); rw [arrV_size]; exact hin) rfl rfl hd fun H1 e z oq => ?_
    refine kk H1 _ a (ps_Jput hbB J hi hi0 (Or.inr ⟨by decide, ?_⟩) z oq)
    rw [e, vp_cell_i, vp_cell_i, arrV_store]
    congr 2
    funext q
    by_cases hq : q = j.toNatClampNeg
    · subst hq
      simp [updV, upd]
    · simp [updV, upd, hq]
theorem ps_zast (C : ps_C M P D dA b B y ws ns) {i n : Nat} {f : Nat → Int32} {j x : Int32} (hi : h[i]? = some (.inl (1, n, f))) (hj : pm_in j n = true) (hd : decode (pp_by P y) pc = .ok (.bastore, 1))
    (kk : ps_T M P D dA b B y (pc + 1) ls st kc ks (h.set i (.inl (1, n, upd f j.toNatClampNeg (x &&& 1))))) : ps_T M P D dA b B y pc ls (.inl x :: .inl j :: .inr (some i) :: st) kc ks h := by
  intro H locs a J
  obtain ⟨hx, hb, hml, hown, hts, hns, hK, hRm, hnm, hbB⟩ := C
  have hi0 := pr_arr0 J.1 hi (by decide)
  have hin := pm_in_vp hj
  rcases J.1.2.2 i _ hi with ⟨h1, h2⟩ | ⟨h1, h2⟩
  · exact absurd h1 (by decide)
  · refine W.zast hx hb h2 (hK.2.2.1.1 n (fun j => .int (f j))) (fun q => by cases q) (by show ¬ (j < 0 ∨ (arrV _ _ _).slots.size ≤ _); rw [arrV_size]; exact hin) rfl rfl hd fun H1 e z oq => ?_
    refine kk H1 _ a (ps_Jput hbB J hi hi0 (Or.inr ⟨by decide, ?_⟩) z oq)
    rw [e, vp_cell_i, vp_cell_i, arrV_store]
    congr 2
    funext q
    by_cases hq : q = j.toNatClampNeg
    · subst hq
      simp [updV, upd, narrow]
    · simp [updV, upd, hq]
theorem ps_aast (C : ps_C M P D dA b B y ws ns) {i ci n v : Nat} {f : Nat → Option Nat} {fs : List PV} {j : Int32} (hi : h[i]? = some (.inr (.inl (ci, n, f)))) (hv : h[v]? = some (.inr (.inr (ci, fs)))) (hc : ((pp_cl P)[ci]?.map (fun q => q.2.2)) = some true) (hj : pm_in j n = true) (hd : decode (pp_by P y) pc = .ok (.aastore, 1))
    (kk : ps_T M P D dA b B y (pc + 1) ls st kc ks (h.set i (.inr (.inl (ci, n, va_up f j.toNatClampNeg (some v)))))) : ps_T M P D dA b B y pc ls (.inr (some v) :: .inl j :: .inr (some i) :: st) kc ks h := by
  intro H locs a J
  obtain ⟨hx, hb, hml, hown, hts, hns, hK, hRm, hnm, hbB⟩ := C
  have hi0 := pr_obj0 J.1 hi
  have hin := pm_in_vp hj
  obtain ⟨r, hr, hr2⟩ := pr_arrC hc
  obtain ⟨-, hAr, kA, comp, k1, k2, k3, -⟩ := hK.2.2.2 ci r hr hr2
  obtain ⟨r3, hr3, -, cellV, g1, g2, g3, -⟩ := J.1.2.2 v _ hv
  have hcls := (hK.1.1 ci r.1 (pr_clG hr)).2
  have hcomp : comp = D.1 ci := Option.some.inj (k3.symm.trans hcls.1)
  subst hcomp
  obtain ⟨kC, hkC, -⟩ := hcls.2
  have hlt : j.toNatClampNeg < n := Nat.not_le.mp fun q => hin (Or.inr q)
  refine W.aast hx hb (J.1.2.2 i _ hi) (fun q h => by cases h) (fun h => by cases h) k1 k2 rfl hkC ⟨fun q => hin (Or.inl q), by show _ < (arrV _ _ _).slots.size; rw [arrV_size]; exact hlt⟩ g1 (fun q h => by rw [g3] at h; cases h) (by rw [g2]; exact hkC) (by rw [g2]; exact va_assign hcls) rfl rfl hd fun H1 e z oq => ?_
  refine kk H1 _ a (ps_Jput hbB J hi hi0 ?_ z oq)
  show H1[_]? = some (vp_cell _ _)
  rw [e, vp_cell_q, vp_cell_q, arrV_store]
  congr 2
  funext q
  by_cases hq : q = j.toNatClampNeg
  · subst hq
    simp [updV, va_up, va_rf]
  · simp [updV, va_up, hq]
/-- the picture behind a new cell -/
theorem ps_Jnew {s : State} {H H1 : Heap} {locs : List Loc} {a : Array Slot} {c1 : PC} (J : ps_J P D dA b B y s ls h H locs a) (he : pr_at P s D dA b B h.length c1 H1) (hz : H1.size = H.size + 1) (oq : ∀ q : Nat, q < H.size → H1[q]? = H[q]?) :
    ps_J P D dA b B y s ls (h ++ [c1]) H1 locs a := by
  refine ⟨J.1.push he hz oq, J.2.1, J.2.2.1, fun q hq => ?_⟩
  have h1 := J.1.2.1
  have h2 := J.1.len
  rw [oq q (by omega)]
  exact J.2.2.2 q hq
theorem pr_newref {s : State} {H : Heap} (hR : pr_R P s D dA b B h H) : pr_v b B (.inr (some h.length)) = .ref H.size := by
  show va_rf (some (pr_ad b B h.length)) = _
  rw [pr_last hR]
  rfl
theorem ps_new (C : ps_C M P D dA b B y ws ns) (oK : pk_K P ws) (oN : pk_N P ws) {idx ci : Nat} {r : vw_C × List FieldType × Bool} (hc : pp_cls P (pp_own P y) idx = some ci) (hr : (pp_cl P)[ci]? = some r) (h1 : kc + 1 ≤ (pp_rm P y).cells) (h2 : ks + r.1.2.2 ≤ (pp_rm P y).slots) (hd : decode (pp_by P y) pc = .ok (.new idx, 3))
    (kk : ps_T M P D dA b B y (pc + 3) ls (.inr (some h.length) :: st) (kc + 1) (ks + r.1.2.2) (h ++ [.inr (.inr (ci, r.2.1.map pm_dfl))])) : ps_T M P D dA b B y pc ls st kc ks h := by
  intro H locs a J
  obtain ⟨hx, hb, hml, hown, hts, hns, hK, hRm, hnm, hbB⟩ := C
  obtain ⟨r2, hr2, hlink⟩ := oN y idx ci hc
  cases hr.symm.trans hr2
  obtain ⟨hin, htl, hty, hnames, hpl, hinst, hini⟩ := oK ci r hr
  have hKn := hK.1.1 ci _ (pr_clG hr)
  refine W.newcK hx hb hown (hts _ hlink) (hts _ hinst) (hts _ hini) rfl hd (by rw [show M.2.2.2.1 = pp_rm P y from hRm]; exact h1) (by rw [show M.2.2.2.1 = pp_rm P y from hRm]; exact h2) hKn.2.1 rfl fun H1 kC hkC e1 z1 o1 => ?_
  have hl := pr_last J.1
  have he : pr_at P (mc_s M) D dA b B h.length (.inr (.inr (ci, r.2.1.map pm_dfl))) H1 := by
    refine ⟨r, hr, by rw [List.length_map]; exact htl, ?_⟩
    rw [hl]
    refine (u_born (fun k => r.2.1.getD k .long) hts hin hKn hkC e1 hty).to (fun k hk => ?_)
    have hk2 : k < r.2.1.length := by rw [htl]; exact hk
    have e2 : r.2.1[k]? = some (r.2.1.getD k .long) := by
      rw [List.getD_eq_getElem?_getD, List.getElem?_eq_getElem hk2]; rfl
    have e4 : ((r.2.1.map pm_dfl).map (pr_v b B)).getD k .null = pr_v b B (pm_dfl (r.2.1.getD k .long)) := by
      rw [List.getD_eq_getElem?_getD, List.getElem?_map, List.getElem?_map, e2]
      rfl
    show defaultValue (r.2.1.getD k .long) = ((r.2.1.map pm_dfl).map (pr_v b B)).getD k .null
    rw [e4]
    exact pr_dfl b B (hpl _ (List.mem_of_getElem? e2))
  have k9 := kk H1 locs a (ps_Jnew J he z1 o1)
  rw [List.map_cons, pr_newref J.1] at k9
  exact k9
theorem ps_newa (C : ps_C M P D dA b B y ws ns) (oA : pk_A ws) {t : ArrayType} {k : Nat} {n : Int32} (hk : pm_ak t = some k) (hn : ¬ n < 0) (hz : n.toNatClampNeg ≤ 100000) (h1 : kc + 1 ≤ (pp_rm P y).cells) (h2 : ks + n.toNatClampNeg ≤ (pp_rm P y).slots) (hd : decode (pp_by P y) pc = .ok (.newarray t, 2))
    (kk : ps_T M P D dA b B y (pc + 2) ls (.inr (some h.length) :: st) (kc + 1) (ks + n.toNatClampNeg) (h ++ [.inl (k, n.toNatClampNeg, fun _ => 0)])) : ps_T M P D dA b B y pc ls (.inl n :: st) kc ks h := by
  intro H locs a J
  obtain ⟨hx, hb, hml, hown, hts, hns, hK, hRm, hnm, hbB⟩ := C
  have hl := pr_last J.1
  cases t with
  | int =>
    cases hk
    refine va_newaK (atype := .int) hx hb (hts _ oA.1) rfl hd rfl hn rfl (by show _ * 4 ≤ _; omega) (by rw [show M.2.2.2.1 = pp_rm P y from hRm]; exact h1) (by rw [show M.2.2.2.1 = pp_rm P y from hRm]; exact h2) rfl fun H1 cA e1 z1 o1 hAr hNm => ?_
    have e3 : cA = dA 0 := Option.some.inj (hNm.symm.trans hK.2.1.2)
    subst e3
    have k9 := kk H1 locs a (ps_Jnew J (Or.inr ⟨by decide, by rw [hl]; exact e1⟩) z1 o1)
    rw [List.map_cons, pr_newref J.1] at k9
    exact k9
  | boolean =>
    cases hk
    refine va_newaK (atype := .boolean) hx hb (hts _ oA.2) rfl hd rfl hn rfl (by show _ * 1 ≤ _; omega) (by rw [show M.2.2.2.1 = pp_rm P y from hRm]; exact h1) (by rw [show M.2.2.2.1 = pp_rm P y from hRm]; exact h2) rfl fun H1 cA e1 z1 o1 hAr hNm => ?_
    have e3 : cA = dA 1 := Option.some.inj (hNm.symm.trans hK.2.2.1.2)
    subst e3
    have k9 := kk H1 locs a (ps_Jnew J (Or.inr ⟨by decide, by rw [hl]; exact e1⟩) z1 o1)
    rw [List.map_cons, pr_newref J.1] at k9
    exact k9
  | _ => cases hk
theorem ps_newq (C : ps_C M P D dA b B y ws ns) (oN : pk_N P ws) {idx ci : Nat} {n : Int32} (hc : pp_cls P (pp_own P y) idx = some ci) (ha : ((pp_cl P)[ci]?.map (fun q => q.2.2)) = some true) (hn : ¬ n < 0) (hz : n.toNatClampNeg ≤ 100000) (h1 : kc + 1 ≤ (pp_rm P y).cells) (h2 : ks + n.toNatClampNeg ≤ (pp_rm P y).slots) (hd : decode (pp_by P y) pc = .ok (.anewarray idx, 3))
    (kk : ps_T M P D dA b B y (pc + 3) ls (.inr (some h.length) :: st) (kc + 1) (ks + n.toNatClampNeg) (h ++ [.inr (.inl (ci, n.toNatClampNeg, fun _ => none))])) : ps_T M P D dA b B y pc ls (.inl n :: st) kc ks h := by
  intro H locs a J
  obtain ⟨hx, hb, hml, hown, hts, hns, hK, hRm, hnm, hbB⟩ := C
  obtain ⟨r, hr, hlink⟩ := oN y idx ci hc
  obtain ⟨r2, hr2, hr3⟩ := pr_arrC ha
  cases hr.symm.trans hr2
  obtain ⟨hAO, hAr, kA, comp, k1, k2, k3, k4⟩ := hK.2.2.2 ci r hr hr3
  have hl := pr_last J.1
  refine W.anew hx hb hown (hts _ hlink) (va_AO.use hAO) rfl hd rfl hn (by omega) (by rw [show M.2.2.2.1 = pp_rm P y from hRm]; exact h1) (by rw [show M.2.2.2.1 = pp_rm P y from hRm]; exact h2) fun cA kA2 comp2 f1 f2 f3 f4 => ?_
  have e3 : cA = dA (ci + 3) := Option.some.inj (f1.symm.trans k4)
  subst e3
  generalize hH1 : H.push ({ cls := dA (ci + 3), slots := Array.replicate n.toNatClampNeg .null, vm := .none } : Cell) = H1
  have z1 : H1.size = H.size + 1 := by rw [← hH1, Array.size_push]
  have e1 : H1[H.size]? = some (arrV (dA (ci + 3)) n.toNatClampNeg (fun _ => .null)) := by rw [← hH1, Array.getElem?_push_size, ← arrV_new]
  have o1 : ∀ q : Nat, q < H.size → H1[q]? = H[q]? := fun q hq => by rw [← hH1, Array.getElem?_push, if_neg (Nat.ne_of_lt hq)]
  have k9 := kk H1 locs a (ps_Jnew J (by show H1[_]? = _; rw [hl]; exact e1) z1 o1)
  rw [List.map_cons, pr_newref J.1] at k9
  exact k9
end PHS
end
section
/-! CALLS, RETURNS, RUNS: a run of the pure machine gives the method's contract. -/
def ps_Pc (P : PP) (D : va_G) (dA : Nat → ClassId) (b B : Nat) (ns : List Cond) (as : List PV) (h : PH) : Array Value → State → Prop := fun v U =>
  v = (as.map (pr_v b B)).toArray ∧ pr_R P U D dA b B h U.heap ∧ pr_K P D dA U ∧ ∀ w ∈ ns, va_Nw w U
def ps_Qc (P : PP) (D : va_G) (dA : Nat → ClassId) (b B : Nat) (r : Option PV) (h1 : PH) : Array Value → State → Outcome → State → Prop := fun _ st oc t =>
  oc = .returned (r.map (pr_v b B)) ∧ pr_R P t D dA b B h1 t.heap ∧ ∀ q : Nat, q < B → t.heap[q]? = st.heap[q]?
abbrev ps_ws (P : PP) (ws : List Cond) (z : Nat) : List Cond := Cond.code (pp_nm P z) (pp_by P z) (pp_ml P z) (pp_ret P z) :: ws
abbrev ps_Met (l : Launch) (P : PP) (D : va_G) (dA : Nat → ClassId) (b B : Nat) (ws ns : List Cond) (z : Nat) (as : List PV) (h : PH) (r : Option PV) (h1 : PH) : Prop :=
  Met l (pp_nm P z) (ps_ws P ws z) (pp_rm P z) (ps_Pc P D dA b B ns as h) (ps_Qc P D dA b B r h1) (pp_rm P z).cells (pp_rm P z).slots (fun q => B ≤ q)
section PCS
variable {M : MC} {P : PP} {D : va_G} {dA : Nat → ClassId} {b B y : Nat} {ws ns : List Cond} {pc kc ks : Nat} {ls : List (Option PV)} {st : List PV} {h : PH}
theorem ps_nsame (oS : pk_S ns) {u U : State} (e : u.vm = U.vm) (hns : ∀ w ∈ ns, va_Nw w u) : ∀ w ∈ ns, va_Nw w U := by
  intro w hw
  have h1 := hns w hw
  rcases oS w hw with ⟨a, i, c, n, d, x, rfl⟩ | ⟨a, i, c, x, rfl⟩
  · exact va_Nw.same rfl e h1
  · exact va_Nw.same rfl e h1
theorem ps_nwarm (oS : pk_S ns) {s U : State} (hW : s.WarmedH U.vm) (hns : ∀ w ∈ ns, va_Nw w s) : ∀ w ∈ ns, va_Nw w U := by
  intro w hw
  have h1 := hns w hw
  rcases oS w hw with ⟨a, i, c, n, d, x, rfl⟩ | ⟨a, i, c, x, rfl⟩
  · exact va_Nw.warmF hW h1
  · exact va_Nw.warmM hW h1
theorem ps_blind (oS : pk_S ns) (as : List PV) : FrameBlind (ps_Pc P D dA b B ns as h) := fun a U g mk q =>
  ⟨q.1, q.2.1.moved (U := U.calling g mk a) (Vm.Alike.refl U.vm), q.2.2.1.moved (U := U.calling g mk a) (Vm.Alike.refl U.vm), ps_nsame oS (u := U) (U := U.calling g mk a) rfl q.2.2.2⟩
theorem ps_pre (oS : pk_S ns) {s U : State} {H : Heap} {locs : List Loc} {a : Array Slot} (hK : pr_K P D dA s) (hns : ∀ w ∈ ns, va_Nw w s) (J : ps_J P D dA b B y s ls h H locs a) (hU : U.heap = H) (hW : s.WarmedH U.vm) {as : List PV} {av : Array Value} (ha : av = (as.map (pr_v b B)).toArray) : ps_Pc P D dA b B ns as h av U :=
  ⟨ha, by rw [hU]; exact J.1.moved hW.alike, hK.moved hW.alike, ps_nwarm oS hW hns⟩
theorem ps_good (oG : pk_G ws) {z : Nat} (hz : Cond.code (pp_nm P z) (pp_by P z) (pp_ml P z) (pp_ret P z) ∈ ws) : GoodIn ws (ps_ws P ws z) := by
  intro w hw
  rcases List.mem_cons.mp hw with rfl | hw
  · exact ⟨hz, oG _ hz⟩
  · exact ⟨hw, oG w hw⟩
/-- behind a call -/
theorem ps_after {mc ms : Nat} {st0 : List Value} {av : Array Value} {rest : List PV} {r : Option PV} {h1 : PH} {H : Heap} {locs : List Loc} {a : Array Slot} (J : ps_J P D dA b B y (mc_s M) ls h H locs a)
    (hr : va_Run M.1 M.2.1 M.2.2.1 M.2.2.2.1 M.2.2.2.2.1 M.2.2.2.2.2.1 M.2.2.2.2.2.2.1 M.2.2.2.2.2.2.2.1 M.2.2.2.2.2.2.2.2.1 M.2.2.2.2.2.2.2.2.2.1 H locs kc ks mc ms (F0 (mc_m M) pc a st0) (rest.map (pr_v b B)) (ps_Qc P D dA b B r h1 av) (fun q => B ≤ q))
    (kk : ps_T M P D dA b B y (pc + 3) ls (r.toList ++ rest) (kc + mc) (ks + ms) h1) : pm_W M H locs kc ks (F0 (mc_m M) pc a st0) := by
  intro T hT X
  obtain ⟨v, s0, t, T1, L, h0, X1, hL, e1, e2, ⟨hv, hR, hF⟩, st⟩ := hr T hT X
  have hv1 : v = r.map (pr_v b B) := Outcome.returned.inj hv
  subst hv1
  have hvm : (mc_s M).vm.Alike t.vm := by rw [← e2]; exact X1.warmed.alike
  obtain ⟨t2, a1, b1⟩ := kk T1.heap (locs ++ L) a ⟨by rw [e1]; exact hR.moved hvm.symm, J.2.1, fun q hq => by
      rcases List.mem_append.mp hq with h | h
      · exact J.2.2.1 q h
      · exact hL q h, fun q hq => by rw [e1, hF q hq, h0]; exact J.2.2.2 q hq⟩ T1 rfl X1
  refine ⟨t2, st t2 ?_, b1⟩
  have e : (r.toList ++ rest).map (pr_v b B) = (r.map (pr_v b B)).toList ++ rest.map (pr_v b B) := by cases r <;> simp
  rw [e] at a1
  exact a1
theorem ps_callS (C : ps_C M P D dA b B y ws ns) (oM : pk_M P ws ns) (oZ : pk_Z P ws) (oR : pk_R P) (oG : pk_G ws) (oS : pk_S ns) {idx z n kd ci : Nat} {r : Option PV} {h1 : PH} (hc : pp_code P y pc = some (.invokestatic idx)) (hm : pp_mth P (pp_own P y) idx = some (z, n, kd, ci)) (hkd : kd = 0 ∨ kd = 1) (hn : n ≤ st.length) (h8 : (st.drop n).length ≤ 8)
    (hcc : kc + (pp_rm P z).cells ≤ (pp_rm P y).cells) (hcs : ks + (pp_rm P z).slots ≤ (pp_rm P y).slots) (hM : ps_Met M.2.1 P D dA b B ws ns z (st.take n).reverse h r h1) (hd : decode (pp_by P y) pc = .ok (.invokestatic idx, 3))
    (kk : ps_T M P D dA b B y (pc + 3) ls (r.toList ++ st.drop n) (kc + (pp_rm P z).cells) (ks + (pp_rm P z).slots) h1) : ps_T M P D dA b B y pc ls st kc ks h := by
  intro H locs a J
  obtain ⟨hx, hb, hml, hown, hts, hns, hK, hRm, hnm, hbB⟩ := C
  have hRm : M.2.2.2.1 = pp_rm P y := hRm
  have hk6 : kd < 6 := by omega
  obtain ⟨hz1, hz2, hz3, hz4, hz5, hz6⟩ := oZ y idx z n kd ci hm hk6
  have hroom := (oR y pc idx z n kd ci (Or.inl hc) hm).2 hk6
  have hG := ps_good (P := P) oG hz2
  have hst : st.map (pr_v b B) = ((st.take n).reverse.map (pr_v b B)).reverse ++ (st.drop n).map (pr_v b B) := by
    rw [List.map_reverse, List.reverse_reverse, ← List.map_append, List.take_append_drop]
  have hlen : ((st.take n).reverse.map (pr_v b B)).length = n := by
    rw [List.length_map, List.length_reverse, List.length_take]; omega
  have hlk := oM y idx z n kd ci hm
  rcases hkd with rfl | rfl
  · rcases hlk with ⟨q, -⟩ | ⟨q, -⟩ | ⟨hp, hl, hs⟩
    · exact absurd q (by decide)
    · exact absurd q (by decide)
    · exact ps_after J (va_runS (nL := pp_ml P y) (Ts := ws) (own := (pp_nm P y).cls) ⟨hx, hb, hml, hown, hts⟩ hM ⟨callB_of n hts hG rfl rfl rfl (hts _ hz3) (hts _ hl) ⟨hz4, hz5, hp⟩ ⟨by rw [hRm]; exact hroom.1, by rw [hRm]; exact hroom.2⟩, hts _ hs⟩ ⟨ps_blind oS _, fun U hU hW => ps_pre oS hK hns J hU hW rfl⟩ rfl hlen J.2.1.2.1 hst (lv_room (by rw [pr_sum]; exact h8)) hd ⟨by rw [hRm]; exact hcc, by rw [hRm]; exact hcs⟩) kk
  · rcases hlk with ⟨q, -⟩ | ⟨q, -⟩ | ⟨hp, ⟨host, hl⟩, hs⟩
    · exact absurd q (by decide)
    · exact absurd q (by decide)
    · exact ps_after J (va_runSN (nL := pp_ml P y) (Ts := ws) (own := (pp_nm P y).cls) ⟨hx, hb, hml, hown, hts⟩ hM ⟨va_cnB n hts hG rfl rfl rfl (hns _ hl) (hts _ hz3) ⟨hz4, hz5, hp⟩ ⟨by rw [hRm]; exact hroom.1, by rw [hRm]; exact hroom.2⟩, hts _ hs, trivial⟩ ⟨ps_blind oS _, fun U hU hW => ps_pre oS hK hns J hU hW rfl⟩ rfl hlen J.2.1.2.1 hst (lv_room (by rw [pr_sum]; exact h8)) hd ⟨by rw [hRm]; exact hcc, by rw [hRm]; exact hcs⟩) kk
theorem pr_take {st : List PV} {q : Nat} {v : PV} (hq : st[q]? = some v) : (st.take (q + 1)).reverse = v :: (st.take q).reverse := by
  rw [List.take_add_one, hq]; simp
theorem pr_split {st : List PV} {q : Nat} {v : PV} (hq : st[q]? = some v) (b B : Nat) : st.map (pr_v b B) = ((st.take q).reverse.map (pr_v b B)).reverse ++ pr_v b B v :: (st.drop (q + 1)).map (pr_v b B) := by
  have e := List.take_append_drop (q + 1) st
  rw [List.take_add_one, hq] at e
  rw [List.append_assoc] at e
  have e2 : st = st.take q ++ v :: st.drop (q + 1) := e.symm
  rw [List.map_reverse, List.reverse_reverse, ← List.map_cons, ← List.map_append, ← e2]
theorem ps_callV (C : ps_C M P D dA b B y ws ns) (oM : pk_M P ws ns) (oZ : pk_Z P ws) (oR : pk_R P) (oG : pk_G ws) (oS : pk_S ns) {idx z n kd ci i : Nat} {fs : List PV} {r : Option PV} {h1 : PH} (hc : pp_code P y pc = some (.invokevirtual idx)) (hm : pp_mth P (pp_own P y) idx = some (z, n, kd, ci)) (hkd : kd = 2 ∨ kd = 3) (hn : n ≤ st.length) (h8 : (st.drop n).length ≤ 8)
    (hv : st[n - 1]? = some (.inr (some i))) (hi : h[i]? = some (.inr (.inr (ci, fs))))
    (hcc : kc + (pp_rm P z).cells ≤ (pp_rm P y).cells) (hcs : ks + (pp_rm P z).slots ≤ (pp_rm P y).slots) (hM : ps_Met M.2.1 P D dA b B ws ns z (st.take n).reverse h r h1) (hd : decode (pp_by P y) pc = .ok (.invokevirtual idx, 3))
    (kk : ps_T M P D dA b B y (pc + 3) ls (r.toList ++ st.drop n) (kc + (pp_rm P z).cells) (ks + (pp_rm P z).slots) h1) : ps_T M P D dA b B y pc ls st kc ks h := by
  intro H locs a J
  obtain ⟨hx, hb, hml, hown, hts, hns, hK, hRm, hnm, hbB⟩ := C
  have hRm : M.2.2.2.1 = pp_rm P y := hRm
  have hk6 : kd < 6 := by omega
  obtain ⟨hz1, hz2, hz3, hz4, hz5, hz6⟩ := oZ y idx z n kd ci hm hk6
  have hroom := (oR y pc idx z n kd ci (Or.inr (Or.inl hc)) hm).2 hk6
  have hG := ps_good (P := P) oG hz2
  obtain ⟨r2, hr2, hlen2, hO⟩ := J.1.2.2 i _ hi
  have hP : va_P D (pr_cl P) [(pr_ad b B i, .inr (ci, fs.map (pr_v b B)))] H := pr_P1 ⟨r2.1, pr_clG hr2, hO⟩
  have hrcv := va_recv hK.1 hP (pr_clG hr2) (q0 := 0) rfl
  have hlk := oM y idx z n kd ci hm
  rcases hkd with rfl | rfl
  · rcases hlk with ⟨q, -⟩ | ⟨q, -⟩ | ⟨⟨q, rfl, hp⟩, hl, hin, hse, r3, hr3, hcls⟩
    · exact absurd q (by decide)
    · exact absurd q (by decide)
    · cases hr2.symm.trans hr3
      have hv : st[q]? = some (.inr (some i)) := hv
      have hlen : ((st.take q).reverse.map (pr_v b B)).length = q := by
        rw [List.length_map, List.length_reverse, List.length_take]; omega
      rw [hcls] at hrcv
      exact ps_after J (va_runV (nL := pp_ml P y) (Ts := ws) (own := (pp_nm P y).cls) (C := (pp_nm P z).cls) (b := pr_ad b B i) (As := (st.take q).reverse.map (pr_v b B)) ⟨hx, hb, hml, hown, hts⟩ hM ⟨callB_of q hts hG rfl rfl rfl (hts _ hz3) (hts _ hl) ⟨hz4, hz5, hp⟩ ⟨by rw [hRm]; exact hroom.1, by rw [hRm]; exact hroom.2⟩, hts _ hin, hts _ hse⟩ ⟨ps_blind oS _, hrcv, fun U hU hW => ps_pre oS hK hns J hU hW (by rw [pr_take hv]; rfl)⟩ rfl hlen J.2.1.2.1 (pr_split hv b B) (lv_room (by rw [pr_sum]; exact h8)) hd ⟨by rw [hRm]; exact hcc, by rw [hRm]; exact hcs⟩) kk
  · rcases hlk with ⟨q, -⟩ | ⟨q, -⟩ | ⟨⟨q, rfl, hp⟩, ⟨host, hl⟩, hin, hse, r3, hr3, hcls⟩
    · exact absurd q (by decide)
    · exact absurd q (by decide)
    · cases hr2.symm.trans hr3
      have hv : st[q]? = some (.inr (some i)) := hv
      have hlen : ((st.take q).reverse.map (pr_v b B)).length = q := by
        rw [List.length_map, List.length_reverse, List.length_take]; omega
      rw [hcls] at hrcv
      exact ps_after J (va_runVN (nL := pp_ml P y) (Ts := ws) (own := (pp_nm P y).cls) (C := (pp_nm P z).cls) (b := pr_ad b B i) (As := (st.take q).reverse.map (pr_v b B)) ⟨hx, hb, hml, hown, hts⟩ hM ⟨va_cnB q hts hG rfl rfl rfl (hns _ hl) (hts _ hz3) ⟨hz4, hz5, hp⟩ ⟨by rw [hRm]; exact hroom.1, by rw [hRm]; exact hroom.2⟩, hts _ hin, hts _ hse⟩ ⟨ps_blind oS _, hrcv, fun U hU hW => ps_pre oS hK hns J hU hW (by rw [pr_take hv]; rfl)⟩ rfl hlen J.2.1.2.1 (pr_split hv b B) (lv_room (by rw [pr_sum]; exact h8)) hd ⟨by rw [hRm]; exact hcc, by rw [hRm]; exact hcs⟩) kk
theorem ps_callI (C : ps_C M P D dA b B y ws ns) (oM : pk_M P ws ns) (oZ : pk_Z P ws) (oR : pk_R P) (oG : pk_G ws) (oS : pk_S ns) {idx z n kd ci i : Nat} {r : Option PV} {h1 : PH} (hc : pp_code P y pc = some (.invokespecial idx)) (hm : pp_mth P (pp_own P y) idx = some (z, n, kd, ci)) (hkd : kd = 4 ∨ kd = 5) (hn : n ≤ st.length) (h8 : (st.drop n).length ≤ 8)
    (hv : st[n - 1]? = some (.inr (some i)))
    (hcc : kc + (pp_rm P z).cells ≤ (pp_rm P y).cells) (hcs : ks + (pp_rm P z).slots ≤ (pp_rm P y).slots) (hM : ps_Met M.2.1 P D dA b B ws ns z (st.take n).reverse h r h1) (hd : decode (pp_by P y) pc = .ok (.invokespecial idx, 3))
    (kk : ps_T M P D dA b B y (pc + 3) ls (r.toList ++ st.drop n) (kc + (pp_rm P z).cells) (ks + (pp_rm P z).slots) h1) : ps_T M P D dA b B y pc ls st kc ks h := by
  intro H locs a J
  obtain ⟨hx, hb, hml, hown, hts, hns, hK, hRm, hnm, hbB⟩ := C
  have hRm : M.2.2.2.1 = pp_rm P y := hRm
  have hk6 : kd < 6 := by omega
  obtain ⟨hz1, hz2, hz3, hz4, hz5, hz6⟩ := oZ y idx z n kd ci hm hk6
  have hroom := (oR y pc idx z n kd ci (Or.inr (Or.inr hc)) hm).2 hk6
  have hG := ps_good (P := P) oG hz2
  have hlk := oM y idx z n kd ci hm
  rcases hkd with rfl | rfl
  · rcases hlk with ⟨q, -⟩ | ⟨q, -⟩ | ⟨⟨q, rfl, hp⟩, hl, hin, hini, hret⟩
    · exact absurd q (by decide)
    · exact absurd q (by decide)
    · have hv : st[q]? = some (.inr (some i)) := hv
      have hlen : ((st.take q).reverse.map (pr_v b B)).length = q := by
        rw [List.length_map, List.length_reverse, List.length_take]; omega
      have cb : CallB M.2.2.2.1 (mc_s M) (mc_a M) (pp_nm P y).cls idx (pp_nm P z) (pp_by P z) (pp_ml P z) (pp_ret P z) (ps_ws P ws z) (pp_rm P z) (pp_rm P z).cells (pp_rm P z).slots q := callB_of q hts hG rfl rfl rfl (hts _ hz3) (hts _ hl) ⟨hz4, hz5, hp⟩ ⟨by rw [hRm]; exact hroom.1, by rw [hRm]; exact hroom.2⟩
      rw [hret] at cb
      exact ps_after J (va_runI (nL := pp_ml P y) (Ts := ws) (own := (pp_nm P y).cls) (b := pr_ad b B i) (As := (st.take q).reverse.map (pr_v b B)) ⟨hx, hb, hml, hown, hts⟩ hM ⟨cb, hini, hts _ hin⟩ ⟨ps_blind oS _, fun U hU hW => ps_pre oS hK hns J hU hW (by rw [pr_take hv]; rfl)⟩ rfl hlen J.2.1.2.1 (pr_split hv b B) (lv_room (by rw [pr_sum]; exact h8)) hd ⟨by rw [hRm]; exact hcc, by rw [hRm]; exact hcs⟩) kk
  · rcases hlk with ⟨q, -⟩ | ⟨q, -⟩ | ⟨⟨q, rfl, hp⟩, ⟨host, hl⟩, hin, hini, hret⟩
    · exact absurd q (by decide)
    · exact absurd q (by decide)
    · have hv : st[q]? = some (.inr (some i)) := hv
      have hlen : ((st.take q).reverse.map (pr_v b B)).length = q := by
        rw [List.length_map, List.length_reverse, List.length_take]; omega
      have cb : va_CN M.2.2.2.1 (mc_s M) (mc_a M) (pp_nm P y).cls idx (pp_nm P z) host (pp_by P z) (pp_ml P z) (pp_ret P z) (ps_ws P ws z) (pp_rm P z) (pp_rm P z).cells (pp_rm P z).slots q := va_cnB q hts hG rfl rfl rfl (hns _ hl) (hts _ hz3) ⟨hz4, hz5, hp⟩ ⟨by rw [hRm]; exact hroom.1, by rw [hRm]; exact hroom.2⟩
      rw [hret] at cb
      exact ps_after J (va_runIN (nL := pp_ml P y) (Ts := ws) (own := (pp_nm P y).cls) (b := pr_ad b B i) (As := (st.take q).reverse.map (pr_v b B)) ⟨hx, hb, hml, hown, hts⟩ hM ⟨cb, hini, hts _ hin⟩ ⟨ps_blind oS _, fun U hU hW => ps_pre oS hK hns J hU hW (by rw [pr_take hv]; rfl)⟩ rfl hlen J.2.1.2.1 (pr_split hv b B) (lv_room (by rw [pr_sum]; exact h8)) hd ⟨by rw [hRm]; exact hcc, by rw [hRm]; exact hcs⟩) kk
theorem ps_obj (C : ps_C M P D dA b B y ws ns) (oM : pk_M P ws ns) (oR : pk_R P) {idx z n kd ci i : Nat} (hc : pp_code P y pc = some (.invokespecial idx)) (hm : pp_mth P (pp_own P y) idx = some (z, n, kd, ci)) (hkd : kd = 6) (h8 : st.length ≤ 8) (hd : decode (pp_by P y) pc = .ok (.invokespecial idx, 3))
    (kk : ps_T M P D dA b B y (pc + 3) ls st kc ks h) : ps_T M P D dA b B y pc ls (.inr (some i) :: st) kc ks h := by
  intro H locs a J
  obtain ⟨hx, hb, hml, hown, hts, hns, hK, hRm, hnm, hbB⟩ := C
  have hRm : M.2.2.2.1 = pp_rm P y := hRm
  have hroom := (oR y pc idx z n kd ci (Or.inr (Or.inr hc)) hm).1 (by omega)
  subst hkd
  rcases oM y idx z n 6 ci hm with ⟨-, h1, h2, h3⟩ | ⟨q, -⟩ | q
  · refine W.objInit hx hb hown (hts _ h1) (hts _ h2) (hts _ h3) rfl (J.2.1.2.1.trans hml.symm) (a := pr_ad b B i) (rest := st.map (pr_v b B)) rfl hd (by rw [hRm]; exact hroom.1) ?_ (kk H locs a J)
    rw [pr_sum, hRm]
    show 2 * 0 + _ + 12 ≤ _
    have := hroom.2
    omega
  · exact absurd q (by decide)
  · exact absurd q (by simp [pk_link])
theorem ps_math (C : ps_C M P D dA b B y ws ns) (oM : pk_M P ws ns) (oR : pk_R P) {idx z n kd ci : Nat} {st1 : List PV} (hc : pp_code P y pc = some (.invokestatic idx)) (hm : pp_mth P (pp_own P y) idx = some (z, n, kd, ci)) (hkd : 6 < kd) (h1 : kc ≤ (pp_rm P y).cells) (h2 : ks ≤ (pp_rm P y).slots) (hst : pm_math kd st = some st1) (h9 : st1.length ≤ 9) (hd : decode (pp_by P y) pc = .ok (.invokestatic idx, 3))
    (kk : ps_T M P D dA b B y (pc + 3) ls st1 kc ks h) : ps_T M P D dA b B y pc ls st kc ks h := by
  intro H locs a J
  have kk := kk H locs a J
  obtain ⟨hx, hb, hml, hown, hts, hns, hK, hRm, hnm, hbB⟩ := C
  have hRm : M.2.2.2.1 = pp_rm P y := hRm
  have hroom := (oR y pc idx z n kd ci (Or.inl hc) hm).1 (by omega)
  have hlk : pk_math ws (pp_nm P y).cls idx kd := by
    rcases oM y idx z n kd ci hm with ⟨q, -⟩ | ⟨-, q⟩ | q
    · omega
    · exact q
    · exfalso
      obtain ⟨j, hj⟩ : ∃ j, kd = j + 7 := ⟨kd - 7, by omega⟩
      subst hj
      exact q
  have hml2 : (mc_c M).maxLocals = a.size := hml.trans J.2.1.2.1.symm
  unfold pm_math at hst
  split at hst
  · cases hst
    obtain ⟨g0, g1, g2, g3⟩ := hlk
    refine va_mmax hx hb hml2 hown (hts _ g1) (hts _ g2) (hts _ g0) (hts _ g3) (by rw [hRm]; exact hroom.1) ?_ (by rw [hRm]; exact h1) (by rw [hRm]; exact h2) hd kk
    rw [pr_sum, hRm]
    have := hroom.2
    simp only [List.length_cons] at h9
    omega
  · cases hst
    obtain ⟨g0, g1, g2, g3⟩ := hlk
    refine va_mmin hx hb hml2 hown (hts _ g1) (hts _ g2) (hts _ g0) (hts _ g3) (by rw [hRm]; exact hroom.1) ?_ (by rw [hRm]; exact h1) (by rw [hRm]; exact h2) hd kk
    rw [pr_sum, hRm]
    have := hroom.2
    simp only [List.length_cons] at h9
    omega
  · cases hst
    obtain ⟨g0, g1, g2, g3⟩ := hlk
    refine va_mabs hx hb hml2 hown (hts _ g1) (hts _ g2) (hts _ g0) (hts _ g3) (by rw [hRm]; exact hroom.1) ?_ (by rw [hRm]; exact h1) (by rw [hRm]; exact h2) hd kk
    rw [pr_sum, hRm]
    have := hroom.2
    simp only [List.length_cons] at h9
    omega
  · cases hst
end PCS
end
section
/-! A RUN of the pure machine is a run of the model. -/
section PDS
variable {M : MC} {P : PP} {D : va_G} {dA : Nat → ClassId} {b B y : Nat} {ws ns : List Cond} {pc kc ks : Nat} {ls : List (Option PV)} {st : List PV} {h : PH}
/-- the frame goes on at X -/
abbrev ps_X (M : MC) (P : PP) (D : va_G) (dA : Nat → ClassId) (b B y : Nat) (X : PX) : Prop := ps_T M P D dA b B y X.1 X.2.1 X.2.2.1 X.2.2.2.1 X.2.2.2.2.1 X.2.2.2.2.2
theorem pm_nx_inj {pc kc ks : Nat} {ls : List (Option PV)} {st : List PV} {h : PH} {X : PX} (e : pm_nx pc ls st kc ks h = some X) : X = (pc, ls, st, kc, ks, h) := by
  have e2 : (some (pc, ls, st, kc, ks, h) : Option PX) = some X := e
  exact (Option.some.inj e2).symm
set_option maxHeartbeats 4000000 in
theorem ps_j (C : ps_C M P D dA b B y ws ns) (ok : pk_all P ws ns) {ins : Instr} (hc : pp_code P y pc = some ins) {X : PX} (hi : pm_j P y ins pc ls st kc ks h = some X) (k : ps_X M P D dA b B y X) : ps_T M P D dA b B y pc ls st kc ks h := by
  obtain ⟨oC, oK, oF, oP, oM, oZ, oR, oV, oN, oA, oG, oS⟩ := ok
  obtain ⟨len, hd, hlen⟩ := oC y pc ins hc
  cases ins with
  | iconst n =>
    cases hlen 1 rfl
    cases pm_nx_inj (show pm_nx (pc + 1) ls (.inl (Int32.ofInt n) :: st) kc ks h = _ from hi)
    exact ps_iconst C hd k
  | bipush n =>
    cases hlen 2 rfl
    cases pm_nx_inj (show pm_nx (pc + 2) ls (.inl (Int8.ofInt n).toInt32 :: st) kc ks h = _ from hi)
    exact ps_bipush C hd k
  | sipush n =>
    cases hlen 3 rfl
    cases pm_nx_inj (show pm_nx (pc + 3) ls (.inl (Int16.ofInt n).toInt32 :: st) kc ks h = _ from hi)
    exact ps_sipush C hd k
  | ldc idx =>
    cases hlen 2 rfl
    have hi : pm_ldc P y idx pc ls st kc ks h = _ := hi
    unfold pm_ldc at hi
    split at hi
    · rename_i v hv
      cases pm_nx_inj hi
      exact ps_ldc C oV hv hd k
    · cases hi
  | aconst_null =>
    cases hlen 1 rfl
    cases pm_nx_inj (show pm_nx (pc + 1) ls (.inr none :: st) kc ks h = _ from hi)
    exact ps_null C hd k
  | iload_n i =>
    cases hlen 1 rfl
    have hi : pm_iload i.val 1 pc ls st kc ks h = _ := hi
    unfold pm_iload at hi
    split at hi
    · rename_i v hv
      cases pm_nx_inj hi
      exact ps_iload_n C hv hd k
    · cases hi
  | iload i =>
    cases hlen 2 rfl
    have hi : pm_iload i 2 pc ls st kc ks h = _ := hi
    unfold pm_iload at hi
    split at hi
    · rename_i v hv
      cases pm_nx_inj hi
      exact ps_iload C hv hd k
    · cases hi
  | aload_n i =>
    cases hlen 1 rfl
    have hi : pm_aload i.val 1 pc ls st kc ks h = _ := hi
    unfold pm_aload at hi
    split at hi
    · rename_i v hv
      cases pm_nx_inj hi
      exact ps_aload_n C hv hd k
    · cases hi
  | aload i =>
    cases hlen 2 rfl
    have hi : pm_aload i 2 pc ls st kc ks h = _ := hi
    unfold pm_aload at hi
    split at hi
    · rename_i v hv
      cases pm_nx_inj hi
      exact ps_aload C hv hd k
    · cases hi
  | istore_n i =>
    cases hlen 1 rfl
    have hi : pm_istore i.val 1 pc ls st kc ks h = _ := hi
    unfold pm_istore at hi
    split at hi
    · split at hi
      · rename_i hlt
        cases pm_nx_inj hi
        exact ps_istore_n C hlt hd k
      · cases hi
    · cases hi
  | istore i =>
    cases hlen 2 rfl
    have hi : pm_istore i 2 pc ls st kc ks h = _ := hi
    unfold pm_istore at hi
    split at hi
    · split at hi
      · rename_i hlt
        cases pm_nx_inj hi
        exact ps_istore C hlt hd k
      · cases hi
    · cases hi
  | astore_n i =>
    cases hlen 1 rfl
    have hi : pm_astore i.val 1 pc ls st kc ks h = _ := hi
    unfold pm_astore at hi
    split at hi
    · split at hi
      · rename_i hlt
        cases pm_nx_inj hi
        exact ps_astore_n C hlt hd k
      · cases hi
    · cases hi
  | astore i =>
    cases hlen 2 rfl
    have hi : pm_astore i 2 pc ls st kc ks h = _ := hi
    unfold pm_astore at hi
    split at hi
    · split at hi
      · rename_i hlt
        cases pm_nx_inj hi
        exact ps_astore C hlt hd k
      · cases hi
    · cases hi
  | iinc i d =>
    cases hlen 3 rfl
    have hi : pm_iinc i d pc ls st kc ks h = _ := hi
    unfold pm_iinc at hi
    split at hi
    · rename_i v hv
      cases pm_nx_inj hi
      exact ps_iinc C hv hd k
    · cases hi
  | iadd =>
    cases hlen 1 rfl
    have hi : pm_op2 .iadd pc ls st kc ks h = _ := hi
    unfold pm_op2 at hi
    split at hi
    · split at hi
      · rename_i z hz
        cases pm_nx_inj hi
        exact ps_op2 C hz hd k
      · cases hi
    · cases hi
  | isub =>
    cases hlen 1 rfl
    have hi : pm_op2 .isub pc ls st kc ks h = _ := hi
    unfold pm_op2 at hi
    split at hi
    · split at hi
      · rename_i z hz
        cases pm_nx_inj hi
        exact ps_op2 C hz hd k
      · cases hi
    · cases hi
  | imul =>
    cases hlen 1 rfl
    have hi : pm_op2 .imul pc ls st kc ks h = _ := hi
    unfold pm_op2 at hi
    split at hi
    · split at hi
      · rename_i z hz
        cases pm_nx_inj hi
        exact ps_op2 C hz hd k
      · cases hi
    · cases hi
  | idiv =>
    cases hlen 1 rfl
    have hi : pm_op2 .idiv pc ls st kc ks h = _ := hi
    unfold pm_op2 at hi
    split at hi
    · split at hi
      · rename_i z hz
        cases pm_nx_inj hi
        exact ps_op2 C hz hd k
      · cases hi
    · cases hi
  | irem =>
    cases hlen 1 rfl
    have hi : pm_op2 .irem pc ls st kc ks h = _ := hi
    unfold pm_op2 at hi
    split at hi
    · split at hi
      · rename_i z hz
        cases pm_nx_inj hi
        exact ps_op2 C hz hd k
      · cases hi
    · cases hi
  | iand =>
    cases hlen 1 rfl
    have hi : pm_op2 .iand pc ls st kc ks h = _ := hi
    unfold pm_op2 at hi
    split at hi
    · split at hi
      · rename_i z hz
        cases pm_nx_inj hi
        exact ps_op2 C hz hd k
      · cases hi
    · cases hi
  | ior =>
    cases hlen 1 rfl
    have hi : pm_op2 .ior pc ls st kc ks h = _ := hi
    unfold pm_op2 at hi
    split at hi
    · split at hi
      · rename_i z hz
        cases pm_nx_inj hi
        exact ps_op2 C hz hd k
      · cases hi
    · cases hi
  | ixor =>
    cases hlen 1 rfl
    have hi : pm_op2 .ixor pc ls st kc ks h = _ := hi
    unfold pm_op2 at hi
    split at hi
    · split at hi
      · rename_i z hz
        cases pm_nx_inj hi
        exact ps_op2 C hz hd k
      · cases hi
    · cases hi
  | ishl =>
    cases hlen 1 rfl
    have hi : pm_op2 .ishl pc ls st kc ks h = _ := hi
    unfold pm_op2 at hi
    split at hi
    · split at hi
      · rename_i z hz
        cases pm_nx_inj hi
        exact ps_op2 C hz hd k
      · cases hi
    · cases hi
  | ishr =>
    cases hlen 1 rfl
    have hi : pm_op2 .ishr pc ls st kc ks h = _ := hi
    unfold pm_op2 at hi
    split at hi
    · split at hi
      · rename_i z hz
        cases pm_nx_inj hi
        exact ps_op2 C hz hd k
      · cases hi
    · cases hi
  | iushr =>
    cases hlen 1 rfl
    have hi : pm_op2 .iushr pc ls st kc ks h = _ := hi
    unfold pm_op2 at hi
    split at hi
    · split at hi
      · rename_i z hz
        cases pm_nx_inj hi
        exact ps_op2 C hz hd k
      · cases hi
    · cases hi
  | ineg =>
    cases hlen 1 rfl
    cases st with
    | nil => exact nomatch (show (none : Option PX) = _ from hi)
    | cons v r =>
      cases v with
      | inl x =>
        cases pm_nx_inj (show pm_nx (pc + 1) ls (.inl (-x) :: r) kc ks h = _ from hi)
        exact ps_ineg C hd k
      | inr x => exact nomatch (show (none : Option PX) = _ from hi)
  | dup =>
    cases hlen 1 rfl
    cases st with
    | nil => exact nomatch (show (none : Option PX) = _ from hi)
    | cons v r =>
      cases pm_nx_inj (show pm_nx (pc + 1) ls (v :: v :: r) kc ks h = _ from hi)
      exact ps_dup C hd k
  | pop =>
    cases hlen 1 rfl
    cases st with
    | nil => exact nomatch (show (none : Option PX) = _ from hi)
    | cons v r =>
      cases pm_nx_inj (show pm_nx (pc + 1) ls r kc ks h = _ from hi)
      exact ps_pop C hd k
  | dup_x1 =>
    cases hlen 1 rfl
    rcases st with _ | ⟨v, _ | ⟨w, r⟩⟩
    · exact nomatch (show (none : Option PX) = _ from hi)
    · exact nomatch (show (none : Option PX) = _ from hi)
    · cases pm_nx_inj (show pm_nx (pc + 1) ls (v :: w :: v :: r) kc ks h = _ from hi)
      exact ps_dup_x1 C hd k
  | dup_x2 =>
    cases hlen 1 rfl
    rcases st with _ | ⟨v, _ | ⟨w, _ | ⟨u, r⟩⟩⟩
    · exact nomatch (show (none : Option PX) = _ from hi)
    · exact nomatch (show (none : Option PX) = _ from hi)
    · exact nomatch (show (none : Option PX) = _ from hi)
    · cases pm_nx_inj (show pm_nx (pc + 1) ls (v :: w :: u :: v :: r) kc ks h = _ from hi)
      exact ps_dup_x2 C hd k
  | dup2 =>
    cases hlen 1 rfl
    rcases st with _ | ⟨v, _ | ⟨w, r⟩⟩
    · exact nomatch (show (none : Option PX) = _ from hi)
    · exact nomatch (show (none : Option PX) = _ from hi)
    · cases pm_nx_inj (show pm_nx (pc + 1) ls (v :: w :: v :: w :: r) kc ks h = _ from hi)
      exact ps_dup2 C hd k
  | goto off =>
    cases hlen 3 rfl
    have hi : pm_goto off pc ls st kc ks h = _ := hi
    unfold pm_goto at hi
    split at hi
    · rename_i t ht
      cases pm_nx_inj hi
      exact ps_goto C ht hd k
    · cases hi
  | ifCond c off =>
    cases hlen 3 rfl
    have hi : pm_if1 c off pc ls st kc ks h = _ := hi
    unfold pm_if1 at hi
    split at hi
    · split at hi
      · rename_i t ht
        cases pm_nx_inj hi
        exact ps_if1 C ht hd k
      · cases hi
    · cases hi
  | if_icmp c off =>
    cases hlen 3 rfl
    have hi : pm_if2 c off pc ls st kc ks h = _ := hi
    unfold pm_if2 at hi
    split at hi
    · split at hi
      · rename_i t ht
        cases pm_nx_inj hi
        exact ps_if2 C ht hd k
      · cases hi
    · cases hi
  | if_acmp c off =>
    cases hlen 3 rfl
    have hi : pm_ifa c off pc ls st kc ks h = _ := hi
    unfold pm_ifa at hi
    split at hi
    · split at hi
      · rename_i t ht
        cases pm_nx_inj hi
        exact ps_ifa C ht hd k
      · cases hi
    · cases hi
  | ifnull off =>
    cases hlen 3 rfl
    have hi : pm_ifn false off pc ls st kc ks h = _ := hi
    unfold pm_ifn at hi
    split at hi
    · split at hi
      · rename_i t ht
        cases pm_nx_inj hi
        exact ps_ifnull C ht hd k
      · cases hi
    · cases hi
  | ifnonnull off =>
    cases hlen 3 rfl
    have hi : pm_ifn true off pc ls st kc ks h = _ := hi
    unfold pm_ifn at hi
    split at hi
    · split at hi
      · rename_i t ht
        cases pm_nx_inj hi
        exact ps_ifnonnull C ht hd k
      · cases hi
    · cases hi
  | getfield idx =>
    cases hlen 3 rfl
    have hi : pm_get P y idx pc ls st kc ks h = _ := hi
    unfold pm_get at hi
    split at hi
    · rename_i ci fk i r hf
      split at hi
      · rename_i cj fs hi2
        split at hi
        · rename_i e
          subst e
          split at hi
          · rename_i v hv
            cases pm_nx_inj hi
            exact ps_get C oK oF (by assumption) hi2 hv hd k
          · cases hi
        · cases hi
      · cases hi
    · cases hi
  | putfield idx =>
    cases hlen 3 rfl
    have hi : pm_put P y idx pc ls st kc ks h = _ := hi
    unfold pm_put at hi
    split at hi
    · rename_i ci fk v i r hf
      split at hi
      · rename_i cj fs hi2
        split at hi
        · rename_i e
          obtain ⟨e1, e2, e3⟩ := e
          subst e1
          cases pm_nx_inj hi
          exact ps_put C oK oF oP hc (by assumption) hi2 e2 e3 hd k
        · cases hi
      · cases hi
    · cases hi
  | iaload =>
    cases hlen 1 rfl
    have hi : pm_iald pc ls st kc ks h = _ := hi
    unfold pm_iald at hi
    split at hi
    · split at hi
      · rename_i hi2
        split at hi
        · rename_i e
          cases pm_nx_inj hi
          exact ps_iald C hi2 e.1 e.2 hd k
        · cases hi
      · cases hi
    · cases hi
  | baload =>
    cases hlen 1 rfl
    have hi : pm_zald pc ls st kc ks h = _ := hi
    unfold pm_zald at hi
    split at hi
    · split at hi
      · rename_i hi2
        split at hi
        · rename_i e
          obtain ⟨e1, e2⟩ := e
          subst e1
          cases pm_nx_inj hi
          exact ps_zald C hi2 e2 hd k
        · cases hi
      · cases hi
    · cases hi
  | aaload =>
    cases hlen 1 rfl
    have hi : pm_aald P pc ls st kc ks h = _ := hi
    unfold pm_aald at hi
    split at hi
    · split at hi
      · rename_i hi2
        split at hi
        · rename_i e
          cases pm_nx_inj hi
          exact ps_aald C hi2 e.1 e.2 hd k
        · cases hi
      · cases hi
    · cases hi
  | iastore =>
    cases hlen 1 rfl
    have hi : pm_iast pc ls st kc ks h = _ := hi
    unfold pm_iast at hi
    split at hi
    · split at hi
      · rename_i hi2
        split at hi
        · rename_i e
          obtain ⟨e1, e2⟩ := e
          subst e1
          cases pm_nx_inj hi
          exact ps_iast C hi2 e2 hd k
        · cases hi
      · cases hi
    · cases hi
  | bastore =>
    cases hlen 1 rfl
    have hi : pm_zast pc ls st kc ks h = _ := hi
    unfold pm_zast at hi
    split at hi
    · split at hi
      · rename_i hi2
        split at hi
        · rename_i e
          obtain ⟨e1, e2⟩ := e
          subst e1
          cases pm_nx_inj hi
          exact ps_zast C hi2 e2 hd k
        · cases hi
      · cases hi
    · cases hi
  | aastore =>
    cases hlen 1 rfl
    have hi : pm_aast P pc ls st kc ks h = _ := hi
    unfold pm_aast at hi
    split at hi
    · split at hi
      · rename_i hi2 hv2
        split at hi
        · rename_i e
          obtain ⟨e1, e2, e3⟩ := e
          subst e1
          cases pm_nx_inj hi
          exact ps_aast C hi2 hv2 e2 e3 hd k
        · cases hi
      · cases hi
    · cases hi
  | arraylength =>
    cases hlen 1 rfl
    have hi : pm_alen pc ls st kc ks h = _ := hi
    unfold pm_alen at hi
    split at hi
    · split at hi
      · rename_i hi2
        split at hi
        · rename_i e
          cases pm_nx_inj hi
          exact ps_alen C hi2 e hd k
        · cases hi
      · cases hi
    · cases hi
  | new idx =>
    cases hlen 3 rfl
    have hi : pm_new P y idx pc ls st kc ks h = _ := hi
    unfold pm_new at hi
    split at hi
    · rename_i ci hcl
      split at hi
      · rename_i r hr
        split at hi
        · rename_i e
          cases pm_nx_inj hi
          exact ps_new C oK oN hcl hr e.1 e.2 hd k
        · cases hi
      · cases hi
    · cases hi
  | newarray t =>
    cases hlen 2 rfl
    have hi : pm_newa P y t pc ls st kc ks h = _ := hi
    unfold pm_newa at hi
    split at hi
    · rename_i ak n r hak
      split at hi
      · rename_i e
        cases pm_nx_inj hi
        exact ps_newa C oA (by assumption) e.1 e.2.1 e.2.2.1 e.2.2.2 hd k
      · cases hi
    · cases hi
  | anewarray idx =>
    cases hlen 3 rfl
    have hi : pm_newq P y idx pc ls st kc ks h = _ := hi
    unfold pm_newq at hi
    split at hi
    · rename_i ci n r hcl
      split at hi
      · rename_i e
        cases pm_nx_inj hi
        exact ps_newq C oN (by assumption) e.1 e.2.1 e.2.2.1 e.2.2.2.1 e.2.2.2.2 hd k
      · cases hi
    · cases hi
  | tableswitch d lo hi2 offs =>
    have hi : pm_sw d lo hi2 offs pc ls st kc ks h = _ := hi
    unfold pm_sw at hi
    split at hi
    · rename_i x r
      split at hi
      · rename_i off ho
        split at hi
        · rename_i t ht
          cases pm_nx_inj hi
          split at ho
          · rename_i hx
            cases ho
            exact ps_swOut C hx ht hd k
          · rename_i hx
            exact ps_swIn C hx ho ht hd k
        · cases hi
      · cases hi
    · cases hi
  | _ => exact nomatch (show (none : Option PX) = _ from hi)
end PDS
end
section
/-! the whole step, and the run -/
section PES
variable {M : MC} {P : PP} {D : va_G} {dA : Nat → ClassId} {b B y : Nat} {ws ns : List Cond} {pc kc ks : Nat} {ls : List (Option PV)} {st : List PV} {h : PH}
theorem pm_map_inl {o : Option PX} {X : PX} (e : (o.map Sum.inl : Option PO) = some (.inl X)) : o = some X := by
  cases o with
  | none => cases e
  | some Y => cases e; rfl
theorem pm_map_inr {o : Option PX} {x : (Nat × List PV × List PV) ⊕ Option PV} (e : (o.map Sum.inl : Option PO) = some (.inr x)) : False := by
  cases o with
  | none => cases e
  | some Y => cases e
/-- the six instructions that call or return -/
def pm_sp (ins : Instr) : Bool := match ins with
  | .invokestatic _ => true
  | .invokevirtual _ => true
  | .invokespecial _ => true
  | .ireturn => true
  | .areturn => true
  | .return_ => true
  | _ => false
theorem pm_i_j {ins : Instr} (hs : pm_sp ins = false) : pm_i P y ins pc ls st kc ks h = (pm_j P y ins pc ls st kc ks h).map Sum.inl := by
  cases ins with
  | invokestatic => cases hs
  | invokevirtual => cases hs
  | invokespecial => cases hs
  | ireturn => cases hs
  | areturn => cases hs
  | return_ => cases hs
  | _ => rfl
/-- a call's three parts -/
theorem pm_call_next {w idx : Nat} {X : PX} (hi : pm_call P y w idx pc ls st kc ks h = some (.inl X)) : (∃ (z n ci i : Nat) (r : List PV), pp_mth P (pp_own P y) idx = some (z, n, 6, ci) ∧ w = 2 ∧ st = .inr (some i) :: r ∧ r.length ≤ 8 ∧ X = (pc + 3, ls, r, kc, ks, h)) ∨
    ∃ (z n kd ci : Nat) (st1 : List PV), pp_mth P (pp_own P y) idx = some (z, n, kd, ci) ∧ 6 < kd ∧ w = 0 ∧ kc ≤ (pp_rm P y).cells ∧ ks ≤ (pp_rm P y).slots ∧ pm_math kd st = some st1 ∧ st1.length ≤ 9 ∧ X = (pc + 3, ls, st1, kc, ks, h) := by
  unfold pm_call at hi
  split at hi
  · rename_i z n kd ci hm
    split at hi
    · rename_i hkd
      subst hkd
      left
      split at hi
      · rename_i e
        split at hi
        · rename_i i r
          cases hi
          exact ⟨z, n, ci, i, r, hm, e.1, rfl, e.2, rfl⟩
        · cases hi
      · cases hi
    · split at hi
      · rename_i hkd
        right
        split at hi
        · rename_i e
          split at hi
          · rename_i st1 hst
            split at hi
            · rename_i h9
              cases hi
              exact ⟨z, n, kd, ci, st1, hm, hkd, e.1, e.2.1, e.2.2, hst, h9, rfl⟩
            · cases hi
          · cases hi
        · cases hi
      · split at hi
        · cases hi
        · cases hi
  · cases hi
theorem pm_call_call {w idx z : Nat} {as rest : List PV} (hi : pm_call P y w idx pc ls st kc ks h = some (.inr (.inl (z, as, rest)))) : ∃ n kd ci : Nat, pp_mth P (pp_own P y) idx = some (z, n, kd, ci) ∧ kd < 6 ∧ kd / 2 = w ∧ n ≤ st.length ∧ (st.drop n).length ≤ 8 ∧ kc + (pp_rm P z).cells ≤ (pp_rm P y).cells ∧ ks + (pp_rm P z).slots ≤ (pp_rm P y).slots ∧ pm_rcv kd ci st n h = true ∧ as = (st.take n).reverse ∧ rest = st.drop n := by
  unfold pm_call at hi
  split at hi
  · rename_i z1 n kd ci hm
    split at hi
    · split at hi
      · split at hi
        · cases hi
        · cases hi
      · cases hi
    · rename_i hkd
      split at hi
      · split at hi
        · split at hi
          · split at hi
            · cases hi
            · cases hi
          · cases hi
        · cases hi
      · rename_i hkd2
        split at hi
        · rename_i e
          cases hi
          exact ⟨n, kd, ci, hm, by omega, e.1, e.2.1, e.2.2.1, e.2.2.2.1, e.2.2.2.2.1, e.2.2.2.2.2, rfl, rfl⟩
        · cases hi
  · cases hi
theorem pm_call_ret {w idx : Nat} {r : Option PV} (hi : pm_call P y w idx pc ls st kc ks h = some (.inr (.inr r))) : False := by
  unfold pm_call at hi
  split at hi
  · split at hi
    · split at hi
      · split at hi
        · cases hi
        · cases hi
      · cases hi
    · split at hi
      · split at hi
        · split at hi
          · split at hi
            · cases hi
            · cases hi
          · cases hi
        · cases hi
      · split at hi
        · cases hi
        · cases hi
  · cases hi
theorem pm_rcv_obj {kd ci n : Nat} (hk : kd = 2 ∨ kd = 3) (e : pm_rcv kd ci st n h = true) : ∃ (i : Nat) (fs : List PV), st[n - 1]? = some (.inr (some i)) ∧ h[i]? = some (.inr (.inr (ci, fs))) := by
  rcases hk with rfl | rfl
  · simp only [pm_rcv] at e
    split at e
    · rename_i i hi
      split at e
      · rename_i cj fs hj
        have e1 : cj = ci := by simpa using e
        subst e1
        exact ⟨i, fs, hi, hj⟩
      · cases e
    · cases e
  · simp only [pm_rcv] at e
    split at e
    · rename_i i hi
      split at e
      · rename_i cj fs hj
        have e1 : cj = ci := by simpa using e
        subst e1
        exact ⟨i, fs, hi, hj⟩
      · cases e
    · cases e
theorem pm_rcv_ref {kd ci n : Nat} (hk : kd = 4 ∨ kd = 5) (e : pm_rcv kd ci st n h = true) : ∃ i : Nat, st[n - 1]? = some (.inr (some i)) := by
  rcases hk with rfl | rfl
  · simp only [pm_rcv] at e
    split at e
    · rename_i i hi
      exact ⟨i, hi⟩
    · cases e
  · simp only [pm_rcv] at e
    split at e
    · rename_i i hi
      exact ⟨i, hi⟩
    · cases e
theorem pm_ret_next {ins : Instr} {x : PX} (hi : pm_ret P y ins st kc ks = some (.inl x)) : False := by
  unfold pm_ret at hi
  split at hi
  · split at hi
    · split at hi
      · cases hi
      · cases hi
    · split at hi
      · cases hi
      · cases hi
    · cases hi
    · cases hi
  · cases hi
theorem pm_ret_call {ins : Instr} {x : Nat × List PV × List PV} (hi : pm_ret P y ins st kc ks = some (.inr (.inl x))) : False := by
  unfold pm_ret at hi
  split at hi
  · split at hi
    · split at hi
      · cases hi
      · cases hi
    · split at hi
      · cases hi
      · cases hi
    · cases hi
    · cases hi
  · cases hi
theorem ps_obj2 (C : ps_C M P D dA b B y ws ns) (ok : pk_all P ws ns) {idx w : Nat} (hw : ¬ w = 0) (hc : pp_code P y pc = some (.invokespecial idx)) {X : PX} (hi : pm_call P y w idx pc ls st kc ks h = some (.inl X)) (k : ps_X M P D dA b B y X) : ps_T M P D dA b B y pc ls st kc ks h := by
  obtain ⟨len, hd, hlen⟩ := ok.1 y pc _ hc
  cases hlen 3 rfl
  rcases pm_call_next hi with ⟨z, n, ci, i, r, hm, -, rfl, h8, rfl⟩ | ⟨z, n, kd, ci, st1, hm, -, q, -⟩
  · exact ps_obj C ok.2.2.2.2.1 ok.2.2.2.2.2.2.1 hc hm rfl h8 hd k
  · exact absurd q hw
set_option maxHeartbeats 1000000 in
theorem ps_next (C : ps_C M P D dA b B y ws ns) (ok : pk_all P ws ns) {ins : Instr} (hc : pp_code P y pc = some ins) {X : PX} (hi : pm_i P y ins pc ls st kc ks h = some (.inl X)) (k : ps_X M P D dA b B y X) : ps_T M P D dA b B y pc ls st kc ks h := by
  cases ins with
  | invokestatic idx =>
    obtain ⟨len, hd, hlen⟩ := ok.1 y pc _ hc
    cases hlen 3 rfl
    rcases pm_call_next (show pm_call P y 0 idx pc ls st kc ks h = _ from hi) with ⟨z, n, ci, i, r, hm, e, -⟩ | ⟨z, n, kd, ci, st1, hm, hkd, -, h1, h2, hst, h9, rfl⟩
    · exact absurd e (by decide)
    · exact ps_math C ok.2.2.2.2.1 ok.2.2.2.2.2.2.1 hc hm hkd h1 h2 hst h9 hd k
  | invokevirtual idx =>
    rcases pm_call_next (show pm_call P y 1 idx pc ls st kc ks h = _ from hi) with ⟨z, n, ci, i, r, hm, e, -⟩ | ⟨z, n, kd, ci, st1, hm, hkd, e, -⟩
    · exact absurd e (by decide)
    · exact absurd e (by decide)
  | invokespecial idx => exact ps_obj2 C ok (by decide) hc (show pm_call P y 2 idx pc ls st kc ks h = _ from hi) k
  | ireturn => exact absurd (show pm_ret P y .ireturn st kc ks = _ from hi) (fun q => pm_ret_next q)
  | areturn => exact absurd (show pm_ret P y .areturn st kc ks = _ from hi) (fun q => pm_ret_next q)
  | return_ => exact absurd (show pm_ret P y .return_ st kc ks = _ from hi) (fun q => pm_ret_next q)
  | _ => exact ps_j C ok hc (pm_map_inl ((pm_i_j (by rfl)).symm.trans hi)) k
set_option maxHeartbeats 1000000 in
theorem ps_icall (C : ps_C M P D dA b B y ws ns) (ok : pk_all P ws ns) {ins : Instr} (hc : pp_code P y pc = some ins) {z : Nat} {as rest : List PV} (hi : pm_i P y ins pc ls st kc ks h = some (.inr (.inl (z, as, rest)))) {r : Option PV} {h1 : PH} (hM : as.length ≤ pp_ml P z → plainName (pp_nm P z).cls = true → ps_Met M.2.1 P D dA b B ws ns z as h r h1)
    (kk : ps_T M P D dA b B y (pc + 3) ls (r.toList ++ rest) (kc + (pp_rm P z).cells) (ks + (pp_rm P z).slots) h1) : ps_T M P D dA b B y pc ls st kc ks h := by
  obtain ⟨oC, oK, oF, oP, oM, oZ, oR, oV, oN, oA, oG, oS⟩ := ok
  obtain ⟨len, hd, hlen⟩ := oC y pc ins hc
  cases ins with
  | invokestatic idx =>
    cases hlen 3 rfl
    obtain ⟨n, kd, ci, hm, hk6, hw, hn, h8, hcc, hcs, hrc, rfl, rfl⟩ := pm_call_call (show pm_call P y 0 idx pc ls st kc ks h = _ from hi)
    have hz := oZ y idx z n kd ci hm hk6
    exact ps_callS C oM oZ oR oG oS hc hm (by omega) hn h8 hcc hcs (hM (by rw [List.length_reverse, List.length_take]; omega) hz.2.2.2.2.2) hd kk
  | invokevirtual idx =>
    cases hlen 3 rfl
    obtain ⟨n, kd, ci, hm, hk6, hw, hn, h8, hcc, hcs, hrc, rfl, rfl⟩ := pm_call_call (show pm_call P y 1 idx pc ls st kc ks h = _ from hi)
    have hz := oZ y idx z n kd ci hm hk6
    obtain ⟨i, fs, hv, hj⟩ := pm_rcv_obj (by omega) hrc
    exact ps_callV C oM oZ oR oG oS hc hm (by omega) hn h8 hv hj hcc hcs (hM (by rw [List.length_reverse, List.length_take]; omega) hz.2.2.2.2.2) hd kk
  | invokespecial idx =>
    cases hlen 3 rfl
    obtain ⟨n, kd, ci, hm, hk6, hw, hn, h8, hcc, hcs, hrc, rfl, rfl⟩ := pm_call_call (show pm_call P y 2 idx pc ls st kc ks h = _ from hi)
    have hz := oZ y idx z n kd ci hm hk6
    obtain ⟨i, hv⟩ := pm_rcv_ref (by omega) hrc
    exact ps_callI C oM oZ oR oG oS hc hm (by omega) hn h8 hv hcc hcs (hM (by rw [List.length_reverse, List.length_take]; omega) hz.2.2.2.2.2) hd kk
  | ireturn => exact absurd (show pm_ret P y .ireturn st kc ks = _ from hi) (fun q => pm_ret_call q)
  | areturn => exact absurd (show pm_ret P y .areturn st kc ks = _ from hi) (fun q => pm_ret_call q)
  | return_ => exact absurd (show pm_ret P y .return_ st kc ks = _ from hi) (fun q => pm_ret_call q)
  | _ => exact (pm_map_inr ((pm_i_j (by rfl)).symm.trans hi)).elim
/-- an end: what stands on the stack, what is returned -/
theorem pm_ret_ret {ins : Instr} {r : Option PV} (hi : pm_ret P y ins st kc ks = some (.inr (.inr r))) : kc ≤ (pp_rm P y).cells ∧ ks ≤ (pp_rm P y).slots ∧
    ((∃ (x : Int32) (ty : FieldType), ins = .ireturn ∧ st = [.inl x] ∧ pp_ret P y = some ty ∧ pm_fit ty (.inl x) = true ∧ r = some (.inl x)) ∨ (∃ (x : Option Nat) (ty : FieldType), ins = .areturn ∧ st = [.inr x] ∧ pp_ret P y = some ty ∧ pm_fit ty (.inr x) = true ∧ r = some (.inr x)) ∨ (ins = .return_ ∧ st = [] ∧ pp_ret P y = none ∧ r = none)) := by
  unfold pm_ret at hi
  split at hi
  · rename_i e
    refine ⟨e.1, e.2, ?_⟩
    split at hi
    · rename_i x ty hty
      split at hi
      · rename_i hf
        cases hi
        exact Or.inl ⟨x, ty, rfl, rfl, hty, hf, rfl⟩
      · cases hi
    · rename_i x ty hty
      split at hi
      · rename_i hf
        cases hi
        exact Or.inr (Or.inl ⟨x, ty, rfl, rfl, hty, hf, rfl⟩)
      · cases hi
    · rename_i hty
      cases hi
      exact Or.inr (Or.inr ⟨rfl, rfl, hty, rfl⟩)
    · cases hi
  · cases hi
theorem pm_i_ret {ins : Instr} {r : Option PV} (hi : pm_i P y ins pc ls st kc ks h = some (.inr (.inr r))) : pm_ret P y ins st kc ks = some (.inr (.inr r)) := by
  cases ins with
  | ireturn => exact hi
  | areturn => exact hi
  | return_ => exact hi
  | invokestatic idx => exact (pm_call_ret (show pm_call P y 0 idx pc ls st kc ks h = _ from hi)).elim
  | invokevirtual idx => exact (pm_call_ret (show pm_call P y 1 idx pc ls st kc ks h = _ from hi)).elim
  | invokespecial idx => exact (pm_call_ret (show pm_call P y 2 idx pc ls st kc ks h = _ from hi)).elim
  | _ => exact (pm_map_inr ((pm_i_j (by rfl)).symm.trans hi)).elim
end PES
section PER
variable {p : Program} {l : Launch} {e : Env} {R : Room} {s : State} {m : MethodId} {args : Array Value} {below : List Frame} {meth : Method} {c : Code}
variable {P : PP} {D : va_G} {dA : Nat → ClassId} {b B y : Nat} {ws ns : List Cond} {pc kc ks : Nat} {ls : List (Option PV)} {st : List PV} {h : PH}
/-- the end of a method that was called -/
theorem ps_end (ok : pk_all P ws ns) (hr : meth.sig.returnType = pp_ret P y) (hlocks : meth.locks = false) {r : Option PV} (C : ps_C (p, l, e, R, s, m, args, below, meth, c, MQ below (ps_Qc P D dA b B r h) args s (pp_rm P y).cells (pp_rm P y).slots (fun q => B ≤ q)) P D dA b B y ws ns) {ins : Instr} (hc : pp_code P y pc = some ins) (hi : pm_i P y ins pc ls st kc ks h = some (.inr (.inr r))) :
    ps_T (p, l, e, R, s, m, args, below, meth, c, MQ below (ps_Qc P D dA b B r h) args s (pp_rm P y).cells (pp_rm P y).slots (fun q => B ≤ q)) P D dA b B y pc ls st kc ks h := by
  intro H locs a J
  obtain ⟨len, hd, hlen⟩ := ok.1 y pc _ hc
  obtain ⟨h1, h2, h3⟩ := pm_ret_ret (pm_i_ret hi)
  have hx : p.tables.exec = Jvm.exec := C.1
  have hb : c.code = pp_by P y := C.2.1
  have fin : ∀ t : State, t.heap = H → s.WarmedH t.vm → ∀ v, v = r.map (pr_v b B) → ps_Qc P D dA b B r h args s (.returned v) t := by
    intro t ht hW v hv
    subst hv
    exact ⟨rfl, by rw [ht]; exact J.1.moved hW.alike, fun q hq => by rw [ht]; exact J.2.2.2 q hq⟩
  rcases h3 with ⟨x, ty, rfl, rfl, hty, hf, rfl⟩ | ⟨x, ty, rfl, rfl, hty, hf, rfl⟩ | ⟨rfl, rfl, hty, rfl⟩
  · cases hlen 1 rfl
    exact W.widen h1 h2 (W.zret (v := x) hx hb (hr.trans hty) (pr_fit b B hf).1 (fun t ht hW => fin t ht hW _ rfl) J.2.2.1 hd hlocks)
  · cases hlen 1 rfl
    refine W.widen h1 h2 (W.aret (v := pr_v b B (.inr x)) hx hb (hr.trans hty) ?_ ?_ (fun t ht hW => fin t ht hW _ rfl) J.2.2.1 hd hlocks)
    · cases ty with
      | object n => exact Or.inl ⟨n, rfl⟩
      | array t => exact Or.inr ⟨t, rfl⟩
      | _ => cases hf
    · cases x with
      | none => exact Or.inl rfl
      | some x => exact Or.inr ⟨_, rfl⟩
  · cases hlen 1 rfl
    exact W.widen h1 h2 (W.vret hx hb (hr.trans hty) (fun t ht hW => fin t ht hW _ rfl) J.2.2.1 hd hlocks)
end PER
/-- a run from X: for every frame whose ends are good -/
def ps_S (P : PP) (ws ns : List Cond) (n : Nat) : Prop := ∀ (y : Nat) (X : PX) (r : Option PV) (h1 : PH), pm_run P n y X = some (r, h1) → ∀ (M : MC) (D : va_G) (dA : Nat → ClassId) (b B : Nat), ps_C M P D dA b B y ws ns →
  (∀ (pc : Nat) (ins : Instr) (ls : List (Option PV)) (st : List PV) (kc ks : Nat), pp_code P y pc = some ins → pm_i P y ins pc ls st kc ks h1 = some (.inr (.inr r)) → ps_T M P D dA b B y pc ls st kc ks h1) → ps_X M P D dA b B y X
theorem ps_met (P : PP) (ws ns : List Cond) (ok : pk_all P ws ns) {n : Nat} (S : ps_S P ws ns n) (l : Launch) (D : va_G) (dA : Nat → ClassId) (b B : Nat) (hbB : b < B) {z : Nat} {as : List PV} {h : PH} {r : Option PV} {h1 : PH} (hrun : pm_run P n z (pm_en P z as h) = some (r, h1)) (hlen : as.length ≤ pp_ml P z) (hpl : plainName (pp_nm P z).cls = true) :
    ps_Met l P D dA b B ws ns z as h r h1 := by
  refine Met.ofW (cc := pp_by P z) (maxL := pp_ml P z) (ret := pp_ret P z) hpl rfl ?_
  intro p e s m args below meth c s1 Bd hml hv
  obtain ⟨rfl, hR, hK, hns⟩ := hv
  have hts := atoms_spec (ws := ps_ws P ws z) Bd.pre
  have hown : s.vm.findClass (pp_nm P z).cls = some m.cls := findClass_of_methodNamed Bd.named
  have hnm : (pp_nm P z).name = "<init>" → meth.name = "<init>" := fun q => (name_of_methodNamed Bd.named Bd.method).1.trans q
  have C : ps_C (p, l, e, pp_rm P z, s, m, (as.map (pr_v b B)).toArray, below, meth, c, MQ below (ps_Qc P D dA b B r h1) (as.map (pr_v b B)).toArray s (pp_rm P z).cells (pp_rm P z).slots (fun q => B ≤ q)) P D dA b B z ws ns :=
    ⟨Bd.exec, Bd.bytes, hml, hown, fun w hw => hts w (List.mem_cons_of_mem _ hw), hns, hK, rfl, hnm, hbB⟩
  have T := S z _ r h1 hrun _ D dA b B C (fun pc ins ls st kc ks hc hi => ps_end ok Bd.returns Bd.notSynchronized C hc hi)
  rw [lg_entry_eq]
  exact T s.heap [] _ ⟨hR, pr_L.entry b B as (pp_ml P z) hlen, fun q hq => (by cases hq), fun _ _ => rfl⟩
theorem ps_run (P : PP) (ws ns : List Cond) (ok : pk_all P ws ns) : ∀ n, ps_S P ws ns n := by
  intro n
  induction n with
  | zero =>
    intro y X r h1 hrun
    cases hrun
  | succ n ih =>
    intro y X r h1 hrun M D dA b B C hQ
    have hs : ∀ o, pm_s P y X = some o → ∃ ins, pp_code P y X.1 = some ins ∧ pm_i P y ins X.1 X.2.1 X.2.2.1 X.2.2.2.1 X.2.2.2.2.1 X.2.2.2.2.2 = some o := by
      intro o ho
      unfold pm_s at ho
      split at ho
      · rename_i ins hins
        exact ⟨ins, hins, ho⟩
      · cases ho
    rw [pm_run] at hrun
    split at hrun
    · cases hrun
    · rename_i X1 hX
      obtain ⟨ins, hc, hi⟩ := hs _ hX
      exact ps_next C ok hc hi (ih y X1 r h1 hrun M D dA b B C hQ)
    · rename_i z as rest hX
      obtain ⟨ins, hc, hi⟩ := hs _ hX
      split at hrun
      · cases hrun
      · rename_i r1 h2 hrun1
        exact ps_icall C ok hc hi (fun hlen hpl => ps_met P ws ns ok ih M.2.1 D dA b B C.2.2.2.2.2.2.2.2.2 hrun1 hlen hpl) (ih y _ r h1 hrun M D dA b B C hQ)
    · rename_i r1 hX
      obtain ⟨ins, hc, hi⟩ := hs _ hX
      cases hrun
      exact hQ _ ins _ _ _ _ hc hi
end
section
/-! REASONING about the pure machine, goal first: pw P y X Q: from X the method y comes to its end, and there Q. pz: from its entry. -/
theorem pm_more (P : PP) : ∀ (n : Nat) (y : Nat) (X : PX) (o : Option PV × PH), pm_run P n y X = some o → pm_run P (n + 1) y X = some o := by
  intro n
  induction n with
  | zero =>
    intro y X o e
    cases e
  | succ n ih =>
    intro y X o e
    rw [pm_run] at e
    rw [pm_run]
    split at e
    · cases e
    · rename_i X1 hX
      exact ih y X1 o e
    · rename_i z as rest hX
      split at e
      · cases e
      · rename_i r1 h2 hrun1
        rw [ih _ _ _ hrun1]
        exact ih _ _ _ e
    · rename_i r1 hX
      exact e
theorem pm_mono (P : PP) {n m : Nat} (h : n ≤ m) {y : Nat} {X : PX} {o : Option PV × PH} (e : pm_run P n y X = some o) : pm_run P m y X = some o := by
  induction h with
  | refl => exact e
  | step _ ih => exact pm_more P _ _ _ _ ih
def pw (P : PP) (y : Nat) (X : PX) (Q : Option PV → PH → Prop) : Prop := ∃ (n : Nat) (r : Option PV) (h1 : PH), pm_run P n y X = some (r, h1) ∧ Q r h1
def pz (P : PP) (z : Nat) (as : List PV) (h : PH) (Q : Option PV → PH → Prop) : Prop := pw P z (pm_en P z as h) Q
theorem pw_mono {P : PP} {y : Nat} {X : PX} {Q Q1 : Option PV → PH → Prop} (w : pw P y X Q) (k : ∀ r h1, Q r h1 → Q1 r h1) : pw P y X Q1 := by
  obtain ⟨n, r, h1, e, q⟩ := w
  exact ⟨n, r, h1, e, k r h1 q⟩
theorem pz_mono {P : PP} {z : Nat} {as : List PV} {h : PH} {Q Q1 : Option PV → PH → Prop} (w : pz P z as h Q) (k : ∀ r h1, Q r h1 → Q1 r h1) : pz P z as h Q1 := pw_mono w k
theorem pw_next {P : PP} {y : Nat} {X X1 : PX} {Q : Option PV → PH → Prop} (hs : pm_s P y X = some (.inl X1)) (k : pw P y X1 Q) : pw P y X Q := by
  obtain ⟨n, r, h1, e, q⟩ := k
  refine ⟨n + 1, r, h1, ?_, q⟩
  rw [pm_run, hs]
  exact e
theorem pw_ret {P : PP} {y : Nat} {X : PX} {r : Option PV} {Q : Option PV → PH → Prop} (hs : pm_s P y X = some (.inr (.inr r))) (q : Q r X.2.2.2.2.2) : pw P y X Q := by
  refine ⟨1, r, X.2.2.2.2.2, ?_, q⟩
  rw [pm_run, hs]
theorem pw_call {P : PP} {y z : Nat} {X : PX} {as rest : List PV} {Q : Option PV → PH → Prop} (hs : pm_s P y X = some (.inr (.inl (z, as, rest))))
    (k : pz P z as X.2.2.2.2.2 (fun r h1 => pw P y (X.1 + 3, X.2.1, r.toList ++ rest, X.2.2.2.1 + (pp_rm P z).cells, X.2.2.2.2.1 + (pp_rm P z).slots, h1) Q)) : pw P y X Q := by
  obtain ⟨n, r, h1, e, n2, r2, h2, e2, q⟩ := k
  refine ⟨(n + n2) + 1, r2, h2, ?_, q⟩
  rw [pm_run, hs]
  simp only
  rw [pm_mono P (Nat.le_add_right n n2) e]
  exact pm_mono P (Nat.le_add_left n2 n) e2
section PWS
variable {P : PP} {y pc kc ks : Nat} {ls : List (Option PV)} {st : List PV} {h : PH} {Q : Option PV → PH → Prop}
theorem pw_i {ins : Instr} {X1 : PX} (hc : pp_code P y pc = some ins) (hi : pm_i P y ins pc ls st kc ks h = some (.inl X1)) (k : pw P y X1 Q) : pw P y (pc, ls, st, kc, ks, h) Q := by
  refine pw_next ?_ k
  unfold pm_s
  rw [hc]
  exact hi
theorem pw_iconst {n : Int} {v : Int32} (hc : pp_code P y pc = some (.iconst n)) (hv : Int32.ofInt n = v) (k : pw P y (pc + 1, ls, .inl v :: st, kc, ks, h) Q) : pw P y (pc, ls, st, kc, ks, h) Q := by
  subst hv; exact pw_i hc rfl k
theorem pw_bipush {n : Int} {v : Int32} (hc : pp_code P y pc = some (.bipush n)) (hv : (Int8.ofInt n).toInt32 = v) (k : pw P y (pc + 2, ls, .inl v :: st, kc, ks, h) Q) : pw P y (pc, ls, st, kc, ks, h) Q := by
  subst hv; exact pw_i hc rfl k
theorem pw_sipush {n : Int} {v : Int32} (hc : pp_code P y pc = some (.sipush n)) (hv : (Int16.ofInt n).toInt32 = v) (k : pw P y (pc + 3, ls, .inl v :: st, kc, ks, h) Q) : pw P y (pc, ls, st, kc, ks, h) Q := by
  subst hv; exact pw_i hc rfl k
theorem pw_ldc {idx : Nat} {v : Int32} (hc : pp_code P y pc = some (.ldc idx)) (hv : pp_cst P (pp_own P y) idx = some v) (k : pw P y (pc + 2, ls, .inl v :: st, kc, ks, h) Q) : pw P y (pc, ls, st, kc, ks, h) Q := by
  refine pw_i hc (?_ : Option.map Sum.inl (pm_ldc P y idx pc ls st kc ks h) = _) k
  simp only [pm_ldc, hv, pm_nx, Option.map_some]
theorem pw_null (hc : pp_code P y pc = some .aconst_null) (k : pw P y (pc + 1, ls, .inr none :: st, kc, ks, h) Q) : pw P y (pc, ls, st, kc, ks, h) Q := pw_i hc rfl k
theorem pw_iload_n {i : Fin 4} {x : Int32} (hc : pp_code P y pc = some (.iload_n i)) (hl : ls[i.val]? = some (some (.inl x))) (k : pw P y (pc + 1, ls, .inl x :: st, kc, ks, h) Q) : pw P y (pc, ls, st, kc, ks, h) Q := by
  refine pw_i hc (?_ : Option.map Sum.inl (pm_iload i.val 1 pc ls st kc ks h) = _) k
  simp only [pm_iload, hl, pm_nx, Option.map_some]
theorem pw_iload {i : Nat} {x : Int32} (hc : pp_code P y pc = some (.iload i)) (hl : ls[i]? = some (some (.inl x))) (k : pw P y (pc + 2, ls, .inl x :: st, kc, ks, h) Q) : pw P y (pc, ls, st, kc, ks, h) Q := by
  refine pw_i hc (?_ : Option.map Sum.inl (pm_iload i 2 pc ls st kc ks h) = _) k
  simp only [pm_iload, hl, pm_nx, Option.map_some]
theorem pw_aload_n {i : Fin 4} {x : Option Nat} (hc : pp_code P y pc = some (.aload_n i)) (hl : ls[i.val]? = some (some (.inr x))) (k : pw P y (pc + 1, ls, .inr x :: st, kc, ks, h) Q) : pw P y (pc, ls, st, kc, ks, h) Q := by
  refine pw_i hc (?_ : Option.map Sum.inl (pm_aload i.val 1 pc ls st kc ks h) = _) k
  simp only [pm_aload, hl, pm_nx, Option.map_some]
theorem pw_aload {i : Nat} {x : Option Nat} (hc : pp_code P y pc = some (.aload i)) (hl : ls[i]? = some (some (.inr x))) (k : pw P y (pc + 2, ls, .inr x :: st, kc, ks, h) Q) : pw P y (pc, ls, st, kc, ks, h) Q := by
  refine pw_i hc (?_ : Option.map Sum.inl (pm_aload i 2 pc ls st kc ks h) = _) k
  simp only [pm_aload, hl, pm_nx, Option.map_some]
theorem pw_istore_n {i : Fin 4} {x : Int32} {ls1 : List (Option PV)} (hc : pp_code P y pc = some (.istore_n i)) (hi : i.val < ls.length) (hl : ls.set i.val (some (.inl x)) = ls1) (k : pw P y (pc + 1, ls1, st, kc, ks, h) Q) : pw P y (pc, ls, .inl x :: st, kc, ks, h) Q := by
  subst hl
  refine pw_i hc (?_ : Option.map Sum.inl (pm_istore i.val 1 pc ls (.inl x :: st) kc ks h) = _) k
  simp only [pm_istore, if_pos hi, pm_nx, Option.map_some]
theorem pw_istore {i : Nat} {x : Int32} {ls1 : List (Option PV)} (hc : pp_code P y pc = some (.istore i)) (hi : i < ls.length) (hl : ls.set i (some (.inl x)) = ls1) (k : pw P y (pc + 2, ls1, st, kc, ks, h) Q) : pw P y (pc, ls, .inl x :: st, kc, ks, h) Q := by
  subst hl
  refine pw_i hc (?_ : Option.map Sum.inl (pm_istore i 2 pc ls (.inl x :: st) kc ks h) = _) k
  simp only [pm_istore, if_pos hi, pm_nx, Option.map_some]
theorem pw_astore_n {i : Fin 4} {x : Option Nat} {ls1 : List (Option PV)} (hc : pp_code P y pc = some (.astore_n i)) (hi : i.val < ls.length) (hl : ls.set i.val (some (.inr x)) = ls1) (k : pw P y (pc + 1, ls1, st, kc, ks, h) Q) : pw P y (pc, ls, .inr x :: st, kc, ks, h) Q := by
  subst hl
  refine pw_i hc (?_ : Option.map Sum.inl (pm_astore i.val 1 pc ls (.inr x :: st) kc ks h) = _) k
  simp only [pm_astore, if_pos hi, pm_nx, Option.map_some]
theorem pw_astore {i : Nat} {x : Option Nat} {ls1 : List (Option PV)} (hc : pp_code P y pc = some (.astore i)) (hi : i < ls.length) (hl : ls.set i (some (.inr x)) = ls1) (k : pw P y (pc + 2, ls1, st, kc, ks, h) Q) : pw P y (pc, ls, .inr x :: st, kc, ks, h) Q := by
  subst hl
  refine pw_i hc (?_ : Option.map Sum.inl (pm_astore i 2 pc ls (.inr x :: st) kc ks h) = _) k
  simp only [pm_astore, if_pos hi, pm_nx, Option.map_some]
theorem pw_iinc {i : Nat} {d : Int} {x v : Int32} {ls1 : List (Option PV)} (hc : pp_code P y pc = some (.iinc i d)) (hl : ls[i]? = some (some (.inl x))) (hv : x + Int32.ofInt d = v) (hl1 : ls.set i (some (.inl v)) = ls1) (k : pw P y (pc + 3, ls1, st, kc, ks, h) Q) : pw P y (pc, ls, st, kc, ks, h) Q := by
  subst hl1
  subst hv
  refine pw_i hc (?_ : Option.map Sum.inl (pm_iinc i d pc ls st kc ks h) = _) k
  simp only [pm_iinc, hl, pm_nx, Option.map_some]
theorem pw_iadd {u v z : Int32} (hc : pp_code P y pc = some .iadd) (hz : u + v = z) (k : pw P y (pc + 1, ls, .inl z :: st, kc, ks, h) Q) : pw P y (pc, ls, .inl v :: .inl u :: st, kc, ks, h) Q := by
  subst hz; exact pw_i hc rfl k
theorem pw_isub {u v z : Int32} (hc : pp_code P y pc = some .isub) (hz : u - v = z) (k : pw P y (pc + 1, ls, .inl z :: st, kc, ks, h) Q) : pw P y (pc, ls, .inl v :: .inl u :: st, kc, ks, h) Q := by
  subst hz; exact pw_i hc rfl k
theorem pw_imul {u v z : Int32} (hc : pp_code P y pc = some .imul) (hz : u * v = z) (k : pw P y (pc + 1, ls, .inl z :: st, kc, ks, h) Q) : pw P y (pc, ls, .inl v :: .inl u :: st, kc, ks, h) Q := by
  subst hz; exact pw_i hc rfl k
theorem pw_iand {u v z : Int32} (hc : pp_code P y pc = some .iand) (hz : u &&& v = z) (k : pw P y (pc + 1, ls, .inl z :: st, kc, ks, h) Q) : pw P y (pc, ls, .inl v :: .inl u :: st, kc, ks, h) Q := by
  subst hz; exact pw_i hc rfl k
theorem pw_ior {u v z : Int32} (hc : pp_code P y pc = some .ior) (hz : u ||| v = z) (k : pw P y (pc + 1, ls, .inl z :: st, kc, ks, h) Q) : pw P y (pc, ls, .inl v :: .inl u :: st, kc, ks, h) Q := by
  subst hz; exact pw_i hc rfl k
theorem pw_ixor {u v z : Int32} (hc : pp_code P y pc = some .ixor) (hz : u ^^^ v = z) (k : pw P y (pc + 1, ls, .inl z :: st, kc, ks, h) Q) : pw P y (pc, ls, .inl v :: .inl u :: st, kc, ks, h) Q := by
  subst hz; exact pw_i hc rfl k
theorem pw_ishl {u v z : Int32} (hc : pp_code P y pc = some .ishl) (hz : u <<< (v &&& 31) = z) (k : pw P y (pc + 1, ls, .inl z :: st, kc, ks, h) Q) : pw P y (pc, ls, .inl v :: .inl u :: st, kc, ks, h) Q := by
  subst hz; exact pw_i hc rfl k
theorem pw_ishr {u v z : Int32} (hc : pp_code P y pc = some .ishr) (hz : u >>> (v &&& 31) = z) (k : pw P y (pc + 1, ls, .inl z :: st, kc, ks, h) Q) : pw P y (pc, ls, .inl v :: .inl u :: st, kc, ks, h) Q := by
  subst hz; exact pw_i hc rfl k
theorem pw_iushr {u v z : Int32} (hc : pp_code P y pc = some .iushr) (hz : (u.toUInt32 >>> (v.toUInt32 &&& Int32.toUInt32 31)).toInt32 = z) (k : pw P y (pc + 1, ls, .inl z :: st, kc, ks, h) Q) : pw P y (pc, ls, .inl v :: .inl u :: st, kc, ks, h) Q := by
  subst hz; exact pw_i hc rfl k
theorem pw_idiv {u v z : Int32} (hc : pp_code P y pc = some .idiv) (hv : ¬ v = 0) (hz : u / v = z) (k : pw P y (pc + 1, ls, .inl z :: st, kc, ks, h) Q) : pw P y (pc, ls, .inl v :: .inl u :: st, kc, ks, h) Q := by
  subst hz
  refine pw_i hc (?_ : Option.map Sum.inl (pm_op2 .idiv pc ls (.inl v :: .inl u :: st) kc ks h) = _) k
  simp only [pm_op2, pm_bin, if_neg hv, pm_nx, Option.map_some]
theorem pw_irem {u v z : Int32} (hc : pp_code P y pc = some .irem) (hv : ¬ v = 0) (hz : u - u / v * v = z) (k : pw P y (pc + 1, ls, .inl z :: st, kc, ks, h) Q) : pw P y (pc, ls, .inl v :: .inl u :: st, kc, ks, h) Q := by
  subst hz
  refine pw_i hc (?_ : Option.map Sum.inl (pm_op2 .irem pc ls (.inl v :: .inl u :: st) kc ks h) = _) k
  simp only [pm_op2, pm_bin, if_neg hv, pm_nx, Option.map_some]
theorem pw_ineg {u z : Int32} (hc : pp_code P y pc = some .ineg) (hz : -u = z) (k : pw P y (pc + 1, ls, .inl z :: st, kc, ks, h) Q) : pw P y (pc, ls, .inl u :: st, kc, ks, h) Q := by
  subst hz; exact pw_i hc rfl k
theorem pw_dup {v : PV} (hc : pp_code P y pc = some .dup) (k : pw P y (pc + 1, ls, v :: v :: st, kc, ks, h) Q) : pw P y (pc, ls, v :: st, kc, ks, h) Q := pw_i hc rfl k
theorem pw_pop {v : PV} (hc : pp_code P y pc = some .pop) (k : pw P y (pc + 1, ls, st, kc, ks, h) Q) : pw P y (pc, ls, v :: st, kc, ks, h) Q := pw_i hc rfl k
theorem pw_dup_x1 {v w : PV} (hc : pp_code P y pc = some .dup_x1) (k : pw P y (pc + 1, ls, v :: w :: v :: st, kc, ks, h) Q) : pw P y (pc, ls, v :: w :: st, kc, ks, h) Q := pw_i hc rfl k
theorem pw_dup_x2 {v w u : PV} (hc : pp_code P y pc = some .dup_x2) (k : pw P y (pc + 1, ls, v :: w :: u :: v :: st, kc, ks, h) Q) : pw P y (pc, ls, v :: w :: u :: st, kc, ks, h) Q := pw_i hc rfl k
theorem pw_dup2 {v w : PV} (hc : pp_code P y pc = some .dup2) (k : pw P y (pc + 1, ls, v :: w :: v :: w :: st, kc, ks, h) Q) : pw P y (pc, ls, v :: w :: st, kc, ks, h) Q := pw_i hc rfl k
theorem pw_goto {off : Int} {t : Nat} (hc : pp_code P y pc = some (.goto off)) (ht : pm_tg pc off = some t) (k : pw P y (t, ls, st, kc, ks, h) Q) : pw P y (pc, ls, st, kc, ks, h) Q := by
  refine pw_i hc (?_ : Option.map Sum.inl (pm_goto off pc ls st kc ks h) = _) k
  simp only [pm_goto, ht, pm_nx, Option.map_some]
theorem pw_if1 {c : Jvm.ClassFile.Cond} {off : Int} {t : Nat} {x : Int32} (hc : pp_code P y pc = some (.ifCond c off)) (ht : pm_tg pc off = some t) (kt : pm_cnd c x 0 = true → pw P y (t, ls, st, kc, ks, h) Q) (kf : pm_cnd c x 0 = false → pw P y (pc + 3, ls, st, kc, ks, h) Q) : pw P y (pc, ls, .inl x :: st, kc, ks, h) Q := by
  cases hb : pm_cnd c x 0 with
  | true =>
    refine pw_i hc (?_ : Option.map Sum.inl (pm_if1 c off pc ls (.inl x :: st) kc ks h) = _) (kt hb)
    simp only [pm_if1, ht, hb, pm_br, pm_nx, Option.map_some]
  | false =>
    refine pw_i hc (?_ : Option.map Sum.inl (pm_if1 c off pc ls (.inl x :: st) kc ks h) = _) (kf hb)
    simp only [pm_if1, ht, hb, pm_br, pm_nx, Option.map_some]
theorem pw_if2 {c : Jvm.ClassFile.Cond} {off : Int} {t : Nat} {x z : Int32} (hc : pp_code P y pc = some (.if_icmp c off)) (ht : pm_tg pc off = some t) (kt : pm_cnd c x z = true → pw P y (t, ls, st, kc, ks, h) Q) (kf : pm_cnd c x z = false → pw P y (pc + 3, ls, st, kc, ks, h) Q) : pw P y (pc, ls, .inl z :: .inl x :: st, kc, ks, h) Q := by
  cases hb : pm_cnd c x z with
  | true =>
    refine pw_i hc (?_ : Option.map Sum.inl (pm_if2 c off pc ls (.inl z :: .inl x :: st) kc ks h) = _) (kt hb)
    simp only [pm_if2, ht, hb, pm_br, pm_nx, Option.map_some]
  | false =>
    refine pw_i hc (?_ : Option.map Sum.inl (pm_if2 c off pc ls (.inl z :: .inl x :: st) kc ks h) = _) (kf hb)
    simp only [pm_if2, ht, hb, pm_br, pm_nx, Option.map_some]
theorem pw_aeq {off : Int} {t : Nat} {x z : Option Nat} (hc : pp_code P y pc = some (.if_acmp .eq off)) (ht : pm_tg pc off = some t) (kt : x = z → pw P y (t, ls, st, kc, ks, h) Q) (kf : ¬ x = z → pw P y (pc + 3, ls, st, kc, ks, h) Q) : pw P y (pc, ls, .inr z :: .inr x :: st, kc, ks, h) Q := by
  by_cases hb : x = z
  · refine pw_i hc (?_ : Option.map Sum.inl (pm_ifa .eq off pc ls (.inr z :: .inr x :: st) kc ks h) = _) (kt hb)
    simp only [pm_ifa, pm_ac, ht, decide_eq_true hb, pm_br, pm_nx, Option.map_some]
  · refine pw_i hc (?_ : Option.map Sum.inl (pm_ifa .eq off pc ls (.inr z :: .inr x :: st) kc ks h) = _) (kf hb)
    simp only [pm_ifa, pm_ac, ht, decide_eq_false hb, pm_br, pm_nx, Option.map_some]
theorem pw_ane {off : Int} {t : Nat} {x z : Option Nat} (hc : pp_code P y pc = some (.if_acmp .ne off)) (ht : pm_tg pc off = some t) (kt : ¬ x = z → pw P y (t, ls, st, kc, ks, h) Q) (kf : x = z → pw P y (pc + 3, ls, st, kc, ks, h) Q) : pw P y (pc, ls, .inr z :: .inr x :: st, kc, ks, h) Q := by
  by_cases hb : x = z
  · refine pw_i hc (?_ : Option.map Sum.inl (pm_ifa .ne off pc ls (.inr z :: .inr x :: st) kc ks h) = _) (kf hb)
    have e : decide (¬ x = z) = false := decide_eq_false (fun q => q hb)
    simp only [pm_ifa, pm_ac, ht, e, pm_br, pm_nx, Option.map_some]
  · refine pw_i hc (?_ : Option.map Sum.inl (pm_ifa .ne off pc ls (.inr z :: .inr x :: st) kc ks h) = _) (kt hb)
    have e : decide (¬ x = z) = true := decide_eq_true hb
    simp only [pm_ifa, pm_ac, ht, e, pm_br, pm_nx, Option.map_some]
theorem pw_ifnullN {off : Int} {t : Nat} (hc : pp_code P y pc = some (.ifnull off)) (ht : pm_tg pc off = some t) (k : pw P y (t, ls, st, kc, ks, h) Q) : pw P y (pc, ls, .inr none :: st, kc, ks, h) Q := by
  refine pw_i hc (?_ : Option.map Sum.inl (pm_ifn false off pc ls (.inr none :: st) kc ks h) = _) k
  simp only [pm_ifn, ht, Bool.not_false, pm_br, pm_nx, Option.map_some]
theorem pw_ifnull {off : Int} {t i : Nat} (hc : pp_code P y pc = some (.ifnull off)) (ht : pm_tg pc off = some t) (k : pw P y (pc + 3, ls, st, kc, ks, h) Q) : pw P y (pc, ls, .inr (some i) :: st, kc, ks, h) Q := by
  refine pw_i hc (?_ : Option.map Sum.inl (pm_ifn false off pc ls (.inr (some i) :: st) kc ks h) = _) k
  simp only [pm_ifn, ht, pm_br, pm_nx, Option.map_some]
theorem pw_ifnonnullN {off : Int} {t : Nat} (hc : pp_code P y pc = some (.ifnonnull off)) (ht : pm_tg pc off = some t) (k : pw P y (pc + 3, ls, st, kc, ks, h) Q) : pw P y (pc, ls, .inr none :: st, kc, ks, h) Q := by
  refine pw_i hc (?_ : Option.map Sum.inl (pm_ifn true off pc ls (.inr none :: st) kc ks h) = _) k
  simp only [pm_ifn, ht, Bool.not_true, pm_br, pm_nx, Option.map_some]
theorem pw_ifnonnull {off : Int} {t i : Nat} (hc : pp_code P y pc = some (.ifnonnull off)) (ht : pm_tg pc off = some t) (k : pw P y (t, ls, st, kc, ks, h) Q) : pw P y (pc, ls, .inr (some i) :: st, kc, ks, h) Q := by
  refine pw_i hc (?_ : Option.map Sum.inl (pm_ifn true off pc ls (.inr (some i) :: st) kc ks h) = _) k
  simp only [pm_ifn, ht, pm_br, pm_nx, Option.map_some]
/-! cells of the pure heap -/
theorem pw_get {idx ci fk i : Nat} {fs : List PV} {v : PV} (hc : pp_code P y pc = some (.getfield idx)) (hf : pp_fld P (pp_own P y) idx = some (ci, fk)) (ho : h[i]? = some (.inr (.inr (ci, fs)))) (hv : fs[fk]? = some v) (k : pw P y (pc + 3, ls, v :: st, kc, ks, h) Q) : pw P y (pc, ls, .inr (some i) :: st, kc, ks, h) Q := by
  refine pw_i hc (?_ : Option.map Sum.inl (pm_get P y idx pc ls (.inr (some i) :: st) kc ks h) = _) k
  simp only [pm_get, hf, ho, hv, if_true, pm_nx, Option.map_some]
theorem pw_put {idx ci fk i : Nat} {fs fs1 : List PV} {v : PV} (hc : pp_code P y pc = some (.putfield idx)) (hf : pp_fld P (pp_own P y) idx = some (ci, fk)) (ho : h[i]? = some (.inr (.inr (ci, fs)))) (hl : fk < fs.length) (hv : pm_fit (pm_fty P ci fk) v = true) (e : fs.set fk v = fs1)
    (k : ∀ h1 : PH, h1 = h.set i (.inr (.inr (ci, fs1))) → pw P y (pc + 3, ls, st, kc, ks, h1) Q) : pw P y (pc, ls, v :: .inr (some i) :: st, kc, ks, h) Q := by
  subst e
  refine pw_i hc (?_ : Option.map Sum.inl (pm_put P y idx pc ls (v :: .inr (some i) :: st) kc ks h) = _) (k _ rfl)
  simp only [pm_put, hf, ho, hl, hv, and_self, if_true, pm_nx, Option.map_some]
theorem pw_iald {i n : Nat} {f : Nat → Int32} {j x : Int32} (hc : pp_code P y pc = some .iaload) (ho : h[i]? = some (.inl (0, n, f))) (hj : pm_in j n = true) (hx : f j.toNatClampNeg = x) (k : pw P y (pc + 1, ls, .inl x :: st, kc, ks, h) Q) : pw P y (pc, ls, .inl j :: .inr (some i) :: st, kc, ks, h) Q := by
  subst hx
  refine pw_i hc (?_ : Option.map Sum.inl (pm_iald pc ls (.inl j :: .inr (some i) :: st) kc ks h) = _) k
  simp only [pm_iald, ho, hj, true_or, and_self, if_true, pm_nx, Option.map_some]
theorem pw_sald {i n : Nat} {f : Nat → Int32} {j x : Int32} (hc : pp_code P y pc = some .iaload) (ho : h[i]? = some (.inl (2, n, f))) (hj : pm_in j n = true) (hx : f j.toNatClampNeg = x) (k : pw P y (pc + 1, ls, .inl x :: st, kc, ks, h) Q) : pw P y (pc, ls, .inl j :: .inr (some i) :: st, kc, ks, h) Q := by
  subst hx
  refine pw_i hc (?_ : Option.map Sum.inl (pm_iald pc ls (.inl j :: .inr (some i) :: st) kc ks h) = _) k
  simp only [pm_iald, ho, hj, or_true, and_self, if_true, pm_nx, Option.map_some]
theorem pw_zald {i n : Nat} {f : Nat → Int32} {j x : Int32} (hc : pp_code P y pc = some .baload) (ho : h[i]? = some (.inl (1, n, f))) (hj : pm_in j n = true) (hx : f j.toNatClampNeg = x) (k : pw P y (pc + 1, ls, .inl x :: st, kc, ks, h) Q) : pw P y (pc, ls, .inl j :: .inr (some i) :: st, kc, ks, h) Q := by
  subst hx
  refine pw_i hc (?_ : Option.map Sum.inl (pm_zald pc ls (.inl j :: .inr (some i) :: st) kc ks h) = _) k
  simp only [pm_zald, ho, hj, and_self, if_true, pm_nx, Option.map_some]
theorem pw_aald {i ci n : Nat} {f : Nat → Option Nat} {j : Int32} {x : Option Nat} (hc : pp_code P y pc = some .aaload) (ho : h[i]? = some (.inr (.inl (ci, n, f)))) (ha : ((pp_cl P)[ci]?.map (fun q => q.2.2)) = some true) (hj : pm_in j n = true) (hx : f j.toNatClampNeg = x) (k : pw P y (pc + 1, ls, .inr x :: st, kc, ks, h) Q) : pw P y (pc, ls, .inl j :: .inr (some i) :: st, kc, ks, h) Q := by
  subst hx
  refine pw_i hc (?_ : Option.map Sum.inl (pm_aald P pc ls (.inl j :: .inr (some i) :: st) kc ks h) = _) k
  simp only [pm_aald, ho]
  rw [if_pos ⟨ha, hj⟩]
  rfl
theorem pw_iast {i n : Nat} {f : Nat → Int32} {j x : Int32} (hc : pp_code P y pc = some .iastore) (ho : h[i]? = some (.inl (0, n, f))) (hj : pm_in j n = true)
    (k : ∀ h1 : PH, h1 = h.set i (.inl (0, n, upd f j.toNatClampNeg x)) → pw P y (pc + 1, ls, st, kc, ks, h1) Q) : pw P y (pc, ls, .inl x :: .inl j :: .inr (some i) :: st, kc, ks, h) Q := by
  refine pw_i hc (?_ : Option.map Sum.inl (pm_iast pc ls (.inl x :: .inl j :: .inr (some i) :: st) kc ks h) = _) (k _ rfl)
  simp only [pm_iast, ho, hj, and_self, if_true, pm_nx, Option.map_some]
theorem pw_zast {i n : Nat} {f : Nat → Int32} {j x : Int32} (hc : pp_code P y pc = some .bastore) (ho : h[i]? = some (.inl (1, n, f))) (hj : pm_in j n = true)
    (k : ∀ h1 : PH, h1 = h.set i (.inl (1, n, upd f j.toNatClampNeg (x &&& 1))) → pw P y (pc + 1, ls, st, kc, ks, h1) Q) : pw P y (pc, ls, .inl x :: .inl j :: .inr (some i) :: st, kc, ks, h) Q := by
  refine pw_i hc (?_ : Option.map Sum.inl (pm_zast pc ls (.inl x :: .inl j :: .inr (some i) :: st) kc ks h) = _) (k _ rfl)
  simp only [pm_zast, ho, hj, and_self, if_true, pm_nx, Option.map_some]
theorem pw_aast {i ci n v : Nat} {f : Nat → Option Nat} {fs : List PV} {j : Int32} (hc : pp_code P y pc = some .aastore) (ho : h[i]? = some (.inr (.inl (ci, n, f)))) (hv : h[v]? = some (.inr (.inr (ci, fs)))) (ha : ((pp_cl P)[ci]?.map (fun q => q.2.2)) = some true) (hj : pm_in j n = true)
    (k : ∀ h1 : PH, h1 = h.set i (.inr (.inl (ci, n, va_up f j.toNatClampNeg (some v)))) → pw P y (pc + 1, ls, st, kc, ks, h1) Q) : pw P y (pc, ls, .inr (some v) :: .inl j :: .inr (some i) :: st, kc, ks, h) Q := by
  refine pw_i hc (?_ : Option.map Sum.inl (pm_aast P pc ls (.inr (some v) :: .inl j :: .inr (some i) :: st) kc ks h) = _) (k _ rfl)
  simp only [pm_aast, ho, hv]
  rw [if_pos ⟨trivial, ha, hj⟩]
  rfl
theorem pw_alen {i kd n : Nat} {f : Nat → Int32} {v : Int32} (hc : pp_code P y pc = some .arraylength) (ho : h[i]? = some (.inl (kd, n, f))) (hk : kd < 3) (hv : Int32.ofNat n = v) (k : pw P y (pc + 1, ls, .inl v :: st, kc, ks, h) Q) : pw P y (pc, ls, .inr (some i) :: st, kc, ks, h) Q := by
  subst hv
  refine pw_i hc (?_ : Option.map Sum.inl (pm_alen pc ls (.inr (some i) :: st) kc ks h) = _) k
  simp only [pm_alen, ho, hk, if_true, pm_nx, Option.map_some]
theorem pw_new {idx ci q : Nat} {r : vw_C × List FieldType × Bool} (hc : pp_code P y pc = some (.new idx)) (hn : pp_cls P (pp_own P y) idx = some ci) (hr : (pp_cl P)[ci]? = some r) (h1 : kc + 1 ≤ (pp_rm P y).cells) (h2 : ks + r.1.2.2 ≤ (pp_rm P y).slots) (hq : h.length = q)
    (k : pw P y (pc + 3, ls, .inr (some q) :: st, kc + 1, ks + r.1.2.2, h ++ [.inr (.inr (ci, r.2.1.map pm_dfl))]) Q) : pw P y (pc, ls, st, kc, ks, h) Q := by
  subst hq
  refine pw_i hc (?_ : Option.map Sum.inl (pm_new P y idx pc ls st kc ks h) = _) k
  simp only [pm_new, hn, hr]
  rw [if_pos ⟨h1, h2⟩]
  rfl
theorem pw_newa {t : ArrayType} {kd q n1 : Nat} {n : Int32} (hc : pp_code P y pc = some (.newarray t)) (hk : pm_ak t = some kd) (hn : ¬ n < 0) (hn1 : n.toNatClampNeg = n1) (hz : n1 ≤ 100000) (h1 : kc + 1 ≤ (pp_rm P y).cells) (h2 : ks + n1 ≤ (pp_rm P y).slots) (hq : h.length = q)
    (k : pw P y (pc + 2, ls, .inr (some q) :: st, kc + 1, ks + n1, h ++ [.inl (kd, n1, fun _ => 0)]) Q) : pw P y (pc, ls, .inl n :: st, kc, ks, h) Q := by
  subst hq
  subst hn1
  refine pw_i hc (?_ : Option.map Sum.inl (pm_newa P y t pc ls (.inl n :: st) kc ks h) = _) k
  simp only [pm_newa, hk]
  rw [if_pos ⟨hn, hz, h1, h2⟩]
  rfl
theorem pw_newq {idx ci q n1 : Nat} {n : Int32} (hc : pp_code P y pc = some (.anewarray idx)) (hcl : pp_cls P (pp_own P y) idx = some ci) (ha : ((pp_cl P)[ci]?.map (fun q => q.2.2)) = some true) (hn : ¬ n < 0) (hn1 : n.toNatClampNeg = n1) (hz : n1 ≤ 100000) (h1 : kc + 1 ≤ (pp_rm P y).cells) (h2 : ks + n1 ≤ (pp_rm P y).slots) (hq : h.length = q)
    (k : pw P y (pc + 3, ls, .inr (some q) :: st, kc + 1, ks + n1, h ++ [.inr (.inl (ci, n1, fun _ => none))]) Q) : pw P y (pc, ls, .inl n :: st, kc, ks, h) Q := by
  subst hq
  subst hn1
  refine pw_i hc (?_ : Option.map Sum.inl (pm_newq P y idx pc ls (.inl n :: st) kc ks h) = _) k
  simp only [pm_newq, hcl]
  rw [if_pos ⟨ha, hn, hz, h1, h2⟩]
  rfl
theorem pw_sw {d lo hi off : Int} {offs : Array Int} {t : Nat} {x : Int32} (hc : pp_code P y pc = some (.tableswitch d lo hi offs)) (ho : (if x.toInt < lo ∨ hi < x.toInt then some d else offs[(x.toInt - lo).toNat]?) = some off) (ht : pm_tg pc off = some t) (k : pw P y (t, ls, st, kc, ks, h) Q) : pw P y (pc, ls, .inl x :: st, kc, ks, h) Q := by
  refine pw_i hc (?_ : Option.map Sum.inl (pm_sw d lo hi offs pc ls (.inl x :: st) kc ks h) = _) k
  simp only [pm_sw, ho, ht, pm_nx, Option.map_some]
/-! calls and ends -/
theorem pw_calls {idx z n kd ci : Nat} {as rest : List PV} (hc : pp_code P y pc = some (.invokestatic idx)) (hm : pp_mth P (pp_own P y) idx = some (z, n, kd, ci)) (h6 : kd < 6) (hw : kd / 2 = 0) (hn : n ≤ st.length) (h8 : (st.drop n).length ≤ 8) (h1 : kc + (pp_rm P z).cells ≤ (pp_rm P y).cells) (h2 : ks + (pp_rm P z).slots ≤ (pp_rm P y).slots) (has : (st.take n).reverse = as) (hrest : st.drop n = rest)
    (k : pz P z as h (fun r h1 => pw P y (pc + 3, ls, r.toList ++ rest, kc + (pp_rm P z).cells, ks + (pp_rm P z).slots, h1) Q)) : pw P y (pc, ls, st, kc, ks, h) Q := by
  subst has
  subst hrest
  refine pw_call (X := (pc, ls, st, kc, ks, h)) ?_ k
  have hr : pm_rcv kd ci st n h = true := by
    have h3 : kd = 0 ∨ kd = 1 := by omega
    rcases h3 with rfl | rfl <;> rfl
  unfold pm_s
  simp only [hc]
  show pm_call P y 0 idx pc ls st kc ks h = _
  unfold pm_call
  simp only [hm]
  rw [if_neg (by omega), if_neg (by omega), if_pos ⟨hw, hn, h8, h1, h2, hr⟩]
theorem pw_callv {idx z n kd ci i : Nat} {as rest fs : List PV} (hc : pp_code P y pc = some (.invokevirtual idx)) (hm : pp_mth P (pp_own P y) idx = some (z, n, kd, ci)) (h6 : kd < 6) (hw : kd / 2 = 1) (hn : n ≤ st.length) (h8 : (st.drop n).length ≤ 8) (h1 : kc + (pp_rm P z).cells ≤ (pp_rm P y).cells) (h2 : ks + (pp_rm P z).slots ≤ (pp_rm P y).slots) (hv : st[n - 1]? = some (.inr (some i))) (ho : h[i]? = some (.inr (.inr (ci, fs)))) (has : (st.take n).reverse = as) (hrest : st.drop n = rest)
    (k : pz P z as h (fun r h1 => pw P y (pc + 3, ls, r.toList ++ rest, kc + (pp_rm P z).cells, ks + (pp_rm P z).slots, h1) Q)) : pw P y (pc, ls, st, kc, ks, h) Q := by
  subst has
  subst hrest
  refine pw_call (X := (pc, ls, st, kc, ks, h)) ?_ k
  have hr : pm_rcv kd ci st n h = true := by
    have h3 : kd = 2 ∨ kd = 3 := by omega
    rcases h3 with rfl | rfl <;> simp only [pm_rcv, hv, ho, beq_self_eq_true]
  unfold pm_s
  simp only [hc]
  show pm_call P y 1 idx pc ls st kc ks h = _
  unfold pm_call
  simp only [hm]
  rw [if_neg (by omega), if_neg (by omega), if_pos ⟨hw, hn, h8, h1, h2, hr⟩]
theorem pw_calli {idx z n kd ci i : Nat} {as rest : List PV} (hc : pp_code P y pc = some (.invokespecial idx)) (hm : pp_mth P (pp_own P y) idx = some (z, n, kd, ci)) (h6 : kd = 4 ∨ kd = 5) (hn : n ≤ st.length) (h8 : (st.drop n).length ≤ 8) (h1 : kc + (pp_rm P z).cells ≤ (pp_rm P y).cells) (h2 : ks + (pp_rm P z).slots ≤ (pp_rm P y).slots) (hv : st[n - 1]? = some (.inr (some i))) (has : (st.take n).reverse = as) (hrest : st.drop n = rest)
    (k : pz P z as h (fun r h1 => pw P y (pc + 3, ls, r.toList ++ rest, kc + (pp_rm P z).cells, ks + (pp_rm P z).slots, h1) Q)) : pw P y (pc, ls, st, kc, ks, h) Q := by
  subst has
  subst hrest
  refine pw_call (X := (pc, ls, st, kc, ks, h)) ?_ k
  have hr : pm_rcv kd ci st n h = true := by
    rcases h6 with rfl | rfl <;> simp only [pm_rcv, hv]
  unfold pm_s
  simp only [hc]
  show pm_call P y 2 idx pc ls st kc ks h = _
  unfold pm_call
  simp only [hm]
  rw [if_neg (by omega), if_neg (by omega), if_pos ⟨by omega, hn, h8, h1, h2, hr⟩]
theorem pw_obj {idx z n ci i : Nat} (hc : pp_code P y pc = some (.invokespecial idx)) (hm : pp_mth P (pp_own P y) idx = some (z, n, 6, ci)) (h8 : st.length ≤ 8) (k : pw P y (pc + 3, ls, st, kc, ks, h) Q) : pw P y (pc, ls, .inr (some i) :: st, kc, ks, h) Q := by
  refine pw_i hc (?_ : pm_call P y 2 idx pc ls (.inr (some i) :: st) kc ks h = _) k
  unfold pm_call
  simp only [hm, if_true]
  rw [if_pos ⟨trivial, by simpa using h8⟩]
theorem pw_math {idx z n kd ci : Nat} {st1 : List PV} (hc : pp_code P y pc = some (.invokestatic idx)) (hm : pp_mth P (pp_own P y) idx = some (z, n, kd, ci)) (h6 : 6 < kd) (h1 : kc ≤ (pp_rm P y).cells) (h2 : ks ≤ (pp_rm P y).slots) (hst : pm_math kd st = some st1) (h9 : st1.length ≤ 9) (k : pw P y (pc + 3, ls, st1, kc, ks, h) Q) : pw P y (pc, ls, st, kc, ks, h) Q := by
  refine pw_i hc (?_ : pm_call P y 0 idx pc ls st kc ks h = _) k
  unfold pm_call
  simp only [hm]
  rw [if_neg (by omega), if_pos h6, if_pos ⟨trivial, h1, h2⟩]
  simp only [hst]
  rw [if_pos h9]
theorem pw_s {ins : Instr} {r : Option PV} (hc : pp_code P y pc = some ins) (hi : pm_i P y ins pc ls st kc ks h = some (.inr (.inr r))) (q : Q r h) : pw P y (pc, ls, st, kc, ks, h) Q := by
  refine pw_ret (X := (pc, ls, st, kc, ks, h)) (r := r) ?_ q
  unfold pm_s
  simp only [hc]
  exact hi
theorem pw_iret {x : Int32} {ty : FieldType} (hc : pp_code P y pc = some .ireturn) (hty : pp_ret P y = some ty) (h1 : kc ≤ (pp_rm P y).cells) (h2 : ks ≤ (pp_rm P y).slots) (hf : pm_fit ty (.inl x) = true) (q : Q (some (.inl x)) h) : pw P y (pc, ls, [.inl x], kc, ks, h) Q := by
  refine pw_s hc (?_ : pm_ret P y .ireturn [.inl x] kc ks = _) q
  unfold pm_ret
  rw [if_pos ⟨h1, h2⟩]
  simp only [hty, hf, if_true]
theorem pw_aret {x : Option Nat} {ty : FieldType} (hc : pp_code P y pc = some .areturn) (hty : pp_ret P y = some ty) (h1 : kc ≤ (pp_rm P y).cells) (h2 : ks ≤ (pp_rm P y).slots) (hf : pm_fit ty (.inr x) = true) (q : Q (some (.inr x)) h) : pw P y (pc, ls, [.inr x], kc, ks, h) Q := by
  refine pw_s hc (?_ : pm_ret P y .areturn [.inr x] kc ks = _) q
  unfold pm_ret
  rw [if_pos ⟨h1, h2⟩]
  simp only [hty, hf, if_true]
theorem pw_vret (hc : pp_code P y pc = some .return_) (hty : pp_ret P y = none) (h1 : kc ≤ (pp_rm P y).cells) (h2 : ks ≤ (pp_rm P y).slots) (q : Q none h) : pw P y (pc, ls, [], kc, ks, h) Q := by
  refine pw_s hc (?_ : pm_ret P y .return_ [] kc ks = _) q
  unfold pm_ret
  rw [if_pos ⟨h1, h2⟩]
  simp only [hty]
end PWS
end
section
/-! SHAPED HEAPS: a heap is built out of its shape (a list: which cell is what) and four functions: F int fields, G numbers in arrays, R references in arrays, O reference fields. Reading and writing are reading and writing of these functions. -/
/-- (0, kind, [], length): numbers; (1, kind, [], length): references; (2, kind, fields: 0 int, 1 reference, 0): an object -/
abbrev SK : Type := Nat × Nat × List Nat × Nat
abbrev FN : Type := Nat → Nat → Int32
abbrev RN : Type := Nat → Nat → Option Nat
def bf (t : Nat) (x : Int32) (r : Option Nat) : PV := match t with
  | 0 => .inl x
  | _ => .inr r
def bcell (i : Nat) (s : SK) (F G : FN) (R O : RN) : PC := match s.1 with
  | 0 => .inl (s.2.1, s.2.2.2, G i)
  | 1 => .inr (.inl (s.2.1, s.2.2.2, R i))
  | _ => .inr (.inr (s.2.1, s.2.2.1.mapIdx (fun k t => bf t (F i k) (O i k))))
def hb (L : List SK) (F G : FN) (R O : RN) : PH := L.mapIdx (fun i s => bcell i s F G R O)
def up2 {α : Type} (F : Nat → Nat → α) (i k : Nat) (x : α) : Nat → Nat → α := fun i1 k1 => if i1 = i ∧ k1 = k then x else F i1 k1
theorem up2_eq {α : Type} {F : Nat → Nat → α} {i k : Nat} {x : α} : up2 F i k x i k = x := by simp [up2]
theorem up2_ne {α : Type} {F : Nat → Nat → α} {i k i1 k1 : Nat} {x : α} (h : ¬ (i1 = i ∧ k1 = k)) : up2 F i k x i1 k1 = F i1 k1 := by simp only [up2, if_neg h]
theorem up2_ne1 {α : Type} {F : Nat → Nat → α} {i k i1 k1 : Nat} {x : α} (h : i1 ≠ i) : up2 F i k x i1 k1 = F i1 k1 := up2_ne (fun q => h q.1)
theorem up2_ne2 {α : Type} {F : Nat → Nat → α} {i k k1 : Nat} {x : α} (h : k1 ≠ k) : up2 F i k x i k1 = F i k1 := up2_ne (fun q => h q.2)
theorem up2_row {α : Type} {F : Nat → Nat → α} {i k i1 : Nat} {x : α} (h : i1 ≠ i) : up2 F i k x i1 = F i1 := by
  funext k1
  exact up2_ne1 h
theorem hb_at {L : List SK} {F G : FN} {R O : RN} {i : Nat} {s : SK} (hs : L[i]? = some s) : (hb L F G R O)[i]? = some (bcell i s F G R O) := by
  unfold hb
  rw [List.getElem?_mapIdx, hs]
  rfl
theorem hb_len {L : List SK} {F G : FN} {R O : RN} : (hb L F G R O).length = L.length := by
  unfold hb
  exact List.length_mapIdx
theorem hb_set {L : List SK} {F G F1 G1 : FN} {R O R1 O1 : RN} {i : Nat} {s : SK} {c : PC} (hs : L[i]? = some s) (hc : c = bcell i s F1 G1 R1 O1) (ho : ∀ i1, i1 ≠ i → F1 i1 = F i1 ∧ G1 i1 = G i1 ∧ R1 i1 = R i1 ∧ O1 i1 = O i1) : (hb L F G R O).set i c = hb L F1 G1 R1 O1 := by
  have hl : i < (hb L F G R O).length := by rw [hb_len]; exact (List.getElem?_eq_some_iff.mp hs).1
  apply List.ext_getElem?
  intro j
  by_cases hj : j = i
  · subst hj
    rw [List.getElem?_set_self hl, hb_at hs, hc]
  · rw [List.getElem?_set_ne (Ne.symm hj)]
    unfold hb
    rw [List.getElem?_mapIdx, List.getElem?_mapIdx]
    obtain ⟨e1, e2, e3, e4⟩ := ho j hj
    cases L[j]? with
    | none => rfl
    | some t =>
      show some _ = some _
      unfold bcell
      rw [e1, e2, e3, e4]
section PXS
variable {P : PP} {y pc kc ks : Nat} {ls : List (Option PV)} {st : List PV} {Q : Option PV → PH → Prop} {L : List SK} {F G : FN} {R O : RN}
theorem bcell_fs {i ci n fk t : Nat} {tg : List Nat} (ht : tg[fk]? = some t) : (tg.mapIdx (fun k t => bf t (F i k) (O i k)))[fk]? = some (bf t (F i fk) (O i fk)) := by
  rw [List.getElem?_mapIdx, ht]
  rfl
theorem px_get {idx ci fk i : Nat} {tg : List Nat} (hc : pp_code P y pc = some (.getfield idx)) (hf : pp_fld P (pp_own P y) idx = some (ci, fk)) (hs : L[i]? = some (2, ci, tg, 0)) (ht : tg[fk]? = some 0) (k : pw P y (pc + 3, ls, .inl (F i fk) :: st, kc, ks, hb L F G R O) Q) : pw P y (pc, ls, .inr (some i) :: st, kc, ks, hb L F G R O) Q :=
  pw_get hc hf (hb_at hs) (bcell_fs (ci := ci) (n := 0) ht) k
theorem px_getr {idx ci fk i : Nat} {tg : List Nat} {r : Option Nat} (hc : pp_code P y pc = some (.getfield idx)) (hf : pp_fld P (pp_own P y) idx = some (ci, fk)) (hs : L[i]? = some (2, ci, tg, 0)) (ht : tg[fk]? = some 1) (hr : O i fk = r) (k : pw P y (pc + 3, ls, .inr r :: st, kc, ks, hb L F G R O) Q) : pw P y (pc, ls, .inr (some i) :: st, kc, ks, hb L F G R O) Q := by
  subst hr
  exact pw_get hc hf (hb_at hs) (bcell_fs (ci := ci) (n := 0) ht) k
theorem bcell_put {i fk : Nat} {tg : List Nat} {x : Int32} (ht : tg[fk]? = some 0) : (tg.mapIdx (fun k t => bf t (F i k) (O i k))).set fk (.inl x) = tg.mapIdx (fun k t => bf t (up2 F i fk x i k) (O i k)) := by
  have hl : fk < (tg.mapIdx (fun k t => bf t (F i k) (O i k))).length := by rw [List.length_mapIdx]; exact (List.getElem?_eq_some_iff.mp ht).1
  apply List.ext_getElem?
  intro j
  by_cases hj : j = fk
  · subst hj
    rw [List.getElem?_set_self hl, List.getElem?_mapIdx, ht]
    show some _ = some (bf 0 _ _)
    rw [up2_eq]
    rfl
  · rw [List.getElem?_set_ne (Ne.symm hj), List.getElem?_mapIdx, List.getElem?_mapIdx]
    cases tg[j]? with
    | none => rfl
    | some t =>
      show some (bf t (F i j) (O i j)) = some (bf t (up2 F i fk x i j) (O i j))
      rw [up2_ne2 hj]
theorem bcell_putr {i fk : Nat} {tg : List Nat} {x : Option Nat} (ht : tg[fk]? = some 1) : (tg.mapIdx (fun k t => bf t (F i k) (O i k))).set fk (.inr x) = tg.mapIdx (fun k t => bf t (F i k) (up2 O i fk x i k)) := by
  have hl : fk < (tg.mapIdx (fun k t => bf t (F i k) (O i k))).length := by rw [List.length_mapIdx]; exact (List.getElem?_eq_some_iff.mp ht).1
  apply List.ext_getElem?
  intro j
  by_cases hj : j = fk
  · subst hj
    rw [List.getElem?_set_self hl, List.getElem?_mapIdx, ht]
    show some _ = some (bf 1 _ _)
    rw [up2_eq]
    rfl
  · rw [List.getElem?_set_ne (Ne.symm hj), List.getElem?_mapIdx, List.getElem?_mapIdx]
    cases tg[j]? with
    | none => rfl
    | some t =>
      show some (bf t (F i j) (O i j)) = some (bf t (F i j) (up2 O i fk x i j))
      rw [up2_ne2 hj]
theorem px_put {idx ci fk i : Nat} {tg : List Nat} {x : Int32} (hc : pp_code P y pc = some (.putfield idx)) (hf : pp_fld P (pp_own P y) idx = some (ci, fk)) (hs : L[i]? = some (2, ci, tg, 0)) (ht : tg[fk]? = some 0) (hv : pm_fit (pm_fty P ci fk) (.inl x) = true) (k : pw P y (pc + 3, ls, st, kc, ks, hb L (up2 F i fk x) G R O) Q) : pw P y (pc, ls, .inl x :: .inr (some i) :: st, kc, ks, hb L F G R O) Q := by
  refine pw_put hc hf (hb_at hs) (by rw [List.length_mapIdx]; exact (List.getElem?_eq_some_iff.mp ht).1) hv (bcell_put ht) (fun h1 e => ?_)
  have e2 := e.trans (hb_set (F1 := up2 F i fk x) (G1 := G) (R1 := R) (O1 := O) hs rfl (fun i1 h1 => ⟨up2_row h1, rfl, rfl, rfl⟩))
  rw [e2]
  exact k
theorem px_putr {idx ci fk i : Nat} {tg : List Nat} {x : Option Nat} (hc : pp_code P y pc = some (.putfield idx)) (hf : pp_fld P (pp_own P y) idx = some (ci, fk)) (hs : L[i]? = some (2, ci, tg, 0)) (ht : tg[fk]? = some 1) (hv : pm_fit (pm_fty P ci fk) (.inr x) = true) (k : pw P y (pc + 3, ls, st, kc, ks, hb L F G R (up2 O i fk x)) Q) : pw P y (pc, ls, .inr x :: .inr (some i) :: st, kc, ks, hb L F G R O) Q := by
  refine pw_put hc hf (hb_at hs) (by rw [List.length_mapIdx]; exact (List.getElem?_eq_some_iff.mp ht).1) hv (bcell_putr ht) (fun h1 e => ?_)
  have e2 := e.trans (hb_set (F1 := F) (G1 := G) (R1 := R) (O1 := up2 O i fk x) hs rfl (fun i1 h1 => ⟨rfl, rfl, rfl, up2_row h1⟩))
  rw [e2]
  exact k
theorem px_iald {i n j1 : Nat} {j : Int32} (hc : pp_code P y pc = some .iaload) (hs : L[i]? = some (0, 0, [], n)) (hj : pm_in j n = true) (hj1 : j.toNatClampNeg = j1) (k : pw P y (pc + 1, ls, .inl (G i j1) :: st, kc, ks, hb L F G R O) Q) : pw P y (pc, ls, .inl j :: .inr (some i) :: st, kc, ks, hb L F G R O) Q := by
  subst hj1
  exact pw_iald hc (hb_at hs) hj rfl k
theorem px_sald {i n j1 : Nat} {j : Int32} (hc : pp_code P y pc = some .iaload) (hs : L[i]? = some (0, 2, [], n)) (hj : pm_in j n = true) (hj1 : j.toNatClampNeg = j1) (k : pw P y (pc + 1, ls, .inl (G i j1) :: st, kc, ks, hb L F G R O) Q) : pw P y (pc, ls, .inl j :: .inr (some i) :: st, kc, ks, hb L F G R O) Q := by
  subst hj1
  exact pw_sald hc (hb_at hs) hj rfl k
theorem px_zald {i n j1 : Nat} {j : Int32} (hc : pp_code P y pc = some .baload) (hs : L[i]? = some (0, 1, [], n)) (hj : pm_in j n = true) (hj1 : j.toNatClampNeg = j1) (k : pw P y (pc + 1, ls, .inl (G i j1) :: st, kc, ks, hb L F G R O) Q) : pw P y (pc, ls, .inl j :: .inr (some i) :: st, kc, ks, hb L F G R O) Q := by
  subst hj1
  exact pw_zald hc (hb_at hs) hj rfl k
theorem px_aald {i ci n j1 : Nat} {j : Int32} {r : Option Nat} (hc : pp_code P y pc = some .aaload) (hs : L[i]? = some (1, ci, [], n)) (ha : ((pp_cl P)[ci]?.map (fun q => q.2.2)) = some true) (hj : pm_in j n = true) (hj1 : j.toNatClampNeg = j1) (hr : R i j1 = r) (k : pw P y (pc + 1, ls, .inr r :: st, kc, ks, hb L F G R O) Q) : pw P y (pc, ls, .inl j :: .inr (some i) :: st, kc, ks, hb L F G R O) Q := by
  subst hj1
  exact pw_aald hc (hb_at hs) ha hj hr k
theorem up2_upd {F : FN} {i k : Nat} {x : Int32} : upd (F i) k x = up2 F i k x i := by
  funext j
  simp [upd, up2]
theorem up2_vaup {F : RN} {i k : Nat} {x : Option Nat} : va_up (F i) k x = up2 F i k x i := by
  funext j
  simp [va_up, up2]
theorem px_iast {i n j1 : Nat} {j x : Int32} (hc : pp_code P y pc = some .iastore) (hs : L[i]? = some (0, 0, [], n)) (hj : pm_in j n = true) (hj1 : j.toNatClampNeg = j1) (k : pw P y (pc + 1, ls, st, kc, ks, hb L F (up2 G i j1 x) R O) Q) : pw P y (pc, ls, .inl x :: .inl j :: .inr (some i) :: st, kc, ks, hb L F G R O) Q := by
  subst hj1
  refine pw_iast hc (hb_at hs) hj (fun h1 e => ?_)
  rw [up2_upd] at e
  have e2 := e.trans (hb_set (F1 := F) (G1 := up2 G i j.toNatClampNeg x) (R1 := R) (O1 := O) hs rfl (fun i1 h1 => ⟨rfl, up2_row h1, rfl, rfl⟩))
  rw [e2]
  exact k
theorem px_zast {i n j1 : Nat} {j x x1 : Int32} (hc : pp_code P y pc = some .bastore) (hs : L[i]? = some (0, 1, [], n)) (hj : pm_in j n = true) (hj1 : j.toNatClampNeg = j1) (hx : x &&& 1 = x1) (k : pw P y (pc + 1, ls, st, kc, ks, hb L F (up2 G i j1 x1) R O) Q) : pw P y (pc, ls, .inl x :: .inl j :: .inr (some i) :: st, kc, ks, hb L F G R O) Q := by
  subst hj1
  subst hx
  refine pw_zast hc (hb_at hs) hj (fun h1 e => ?_)
  rw [up2_upd] at e
  have e2 := e.trans (hb_set (F1 := F) (G1 := up2 G i j.toNatClampNeg (x &&& 1)) (R1 := R) (O1 := O) hs rfl (fun i1 h1 => ⟨rfl, up2_row h1, rfl, rfl⟩))
  rw [e2]
  exact k
theorem px_aast {i ci n v j1 : Nat} {tg : List Nat} {j : Int32} (hc : pp_code P y pc = some .aastore) (hs : L[i]? = some (1, ci, [], n)) (hv : L[v]? = some (2, ci, tg, 0)) (ha : ((pp_cl P)[ci]?.map (fun q => q.2.2)) = some true) (hj : pm_in j n = true) (hj1 : j.toNatClampNeg = j1) (k : pw P y (pc + 1, ls, st, kc, ks, hb L F G (up2 R i j1 (some v)) O) Q) : pw P y (pc, ls, .inr (some v) :: .inl j :: .inr (some i) :: st, kc, ks, hb L F G R O) Q := by
  subst hj1
  refine pw_aast hc (hb_at hs) (hb_at hv) ha hj (fun h1 e => ?_)
  rw [up2_vaup] at e
  have e2 := e.trans (hb_set (F1 := F) (G1 := G) (R1 := up2 R i j.toNatClampNeg (some v)) (O1 := O) hs rfl (fun i1 h1 => ⟨rfl, rfl, up2_row h1, rfl⟩))
  rw [e2]
  exact k
theorem px_alen {i kd n : Nat} {v : Int32} (hc : pp_code P y pc = some .arraylength) (hs : L[i]? = some (0, kd, [], n)) (hk : kd < 3) (hv : Int32.ofNat n = v) (k : pw P y (pc + 1, ls, .inl v :: st, kc, ks, hb L F G R O) Q) : pw P y (pc, ls, .inr (some i) :: st, kc, ks, hb L F G R O) Q :=
  pw_alen hc (hb_at hs) hk hv k
/-- a virtual call on a cell of the shape -/
theorem px_callv {idx z n kd ci i : Nat} {as rest : List PV} {tg : List Nat} (hc : pp_code P y pc = some (.invokevirtual idx)) (hm : pp_mth P (pp_own P y) idx = some (z, n, kd, ci)) (h6 : kd < 6) (hw : kd / 2 = 1) (hn : n ≤ st.length) (h8 : (st.drop n).length ≤ 8) (h1 : kc + (pp_rm P z).cells ≤ (pp_rm P y).cells) (h2 : ks + (pp_rm P z).slots ≤ (pp_rm P y).slots) (hv : st[n - 1]? = some (.inr (some i))) (hs : L[i]? = some (2, ci, tg, 0)) (has : (st.take n).reverse = as) (hrest : st.drop n = rest)
    (k : pz P z as (hb L F G R O) (fun r h1 => pw P y (pc + 3, ls, r.toList ++ rest, kc + (pp_rm P z).cells, ks + (pp_rm P z).slots, h1) Q)) : pw P y (pc, ls, st, kc, ks, hb L F G R O) Q :=
  pw_callv hc hm h6 hw hn h8 h1 h2 hv (hb_at hs) has hrest k
end PXS
end
section
/-! THE START: out of the tables' words, what pr_K asks. -/
theorem pl_K {P : PP} {ws : List Cond} (oK : pk_K P ws) (oA : pk_A ws) {args : Array Value} {s : State} (hts : ∀ w ∈ ws, w.before args s = true) (hAO : ∀ (ci : Nat) (r : vw_C × List FieldType × Bool), (pp_cl P)[ci]? = some r → r.2.2 = true → va_AO r.1.1 s) : ∃ (D : va_G) (dA : Nat → ClassId), pr_K P D dA s := by
  have h1 : ∀ ci : Nat, ∃ x : ClassId × (Nat → Nat), ∀ r, (pp_cl P)[ci]? = some r → u_Kn s r.1.1 r.1.2.1 r.1.2.2 x.1 x.2 := by
    intro ci
    cases hr : (pp_cl P)[ci]? with
    | none => exact ⟨(0, fun _ => 0), fun r h => by cases h⟩
    | some r =>
      obtain ⟨hin, -, -, -, -, hinst, -⟩ := oK ci r hr
      obtain ⟨cC, iS, hK⟩ := u_known hts hin (hts _ hinst)
      exact ⟨(cC, iS), fun r2 h2 => by cases h2; exact hK⟩
  have h2 : ∀ ci : Nat, ∃ x : ClassId, ∀ r, (pp_cl P)[ci]? = some r → r.2.2 = true → ArrOfT s x (.object r.1.1) ∧ va_RA s x (.object r.1.1) := by
    intro ci
    cases hr : (pp_cl P)[ci]? with
    | none => exact ⟨0, fun r h => by cases h⟩
    | some r =>
      by_cases hb : r.2.2 = true
      · obtain ⟨comp, c, k, f1, f2, f3, f4, f5⟩ := Cond.arrayOver_spec (hAO ci r hr hb)
        exact ⟨c, fun r2 h2 _ => by cases h2; exact ⟨fun n z => ⟨fun k h => (by cases h), k, f3, comp, f4⟩, k, comp, f3, f4, f1, f5⟩⟩
      · exact ⟨0, fun r2 h2 h3 => by cases h2; exact absurd h3 hb⟩
  obtain ⟨cI, kI, compI, i1, i2, i3⟩ := Cond.arrayClass_spec (hts _ oA.1)
  obtain ⟨cZ, kZ, compZ, z1, z2, z3⟩ := Cond.arrayClass_spec (hts _ oA.2)
  refine ⟨(fun ci => (Classical.choose (h1 ci)).1, fun ci => (Classical.choose (h1 ci)).2), fun k => if k = 0 then cI else if k = 1 then cZ else Classical.choose (h2 (k - 3)), ⟨fun c q hq => ?_, fun k q hk => (by cases hk)⟩, ⟨fun n z => ⟨fun k h => (by cases h), kI, i2, compI, i3⟩, i1⟩, ⟨fun n z => ⟨fun k h => (by cases h), kZ, z2, compZ, z3⟩, z1⟩, fun ci r hr hb => ⟨hAO ci r hr hb, ?_⟩⟩
  · rw [List.getElem?_map] at hq
    cases hr : (pp_cl P)[c]? with
    | none => rw [hr] at hq; cases hq
    | some r =>
      rw [hr] at hq
      cases hq
      exact Classical.choose_spec (h1 c) r hr
  · have e : (if ci + 3 = 0 then cI else if ci + 3 = 1 then cZ else Classical.choose (h2 (ci + 3 - 3))) = Classical.choose (h2 ci) := by
      rw [if_neg (by omega), if_neg (by omega)]
    show ArrOfT s (if ci + 3 = 0 then cI else if ci + 3 = 1 then cZ else Classical.choose (h2 (ci + 3 - 3))) _ ∧ va_RA s (if ci + 3 = 0 then cI else if ci + 3 = 1 then cZ else Classical.choose (h2 (ci + 3 - 3))) _
    rw [e]
    exact Classical.choose_spec (h2 ci) r hr hb
end
section
-- ===== PART A: goes FIRST, ahead of the names: the tables' words, and 'selects' of the private methods out of them =====
/-- a private method of a class that the tables say can be made, by its rows of tables_1 -/
def lw_okq (q : MethodName × Nat) : Prop := (q.1.cls ≠ "java/lang/invoke/MethodHandle" ∧ q.1.cls ≠ "java/lang/invoke/VarHandle") ∧ Cond.instantiable q.1.cls q.2 ∈ tables_1 ∧ Cond.privateMethod q.1 ∈ tables_1 ∧ Cond.instanceMethod q.1 ∈ tables_1
theorem lw_p0 : lw_okq (⟨"SubflowBundle", "isAnyIn", "(I)Z"⟩, 6) := ⟨⟨by decide +kernel, by decide +kernel⟩, List.mem_of_getElem? (i := 14) (by decide +kernel), List.mem_of_getElem? (i := 319) (by decide +kernel), List.mem_of_getElem? (i := 320) (by decide +kernel)⟩
theorem lw_p1 : lw_okq (⟨"SubflowBundle$HostA", "sendFirst", "(LSubflowBundle$Path;LSubflowBundle$Segment;I)V"⟩, 9) := ⟨⟨by decide +kernel, by decide +kernel⟩, List.mem_of_getElem? (i := 208) (by decide +kernel), List.mem_of_getElem? (i := 339) (by decide +kernel), List.mem_of_getElem? (i := 340) (by decide +kernel)⟩
theorem lw_p2 : lw_okq (⟨"SubflowBundle$HostA", "transmit", "(LSubflowBundle$Path;LSubflowBundle$Segment;I)V"⟩, 9) := ⟨⟨by decide +kernel, by decide +kernel⟩, List.mem_of_getElem? (i := 208) (by decide +kernel), List.mem_of_getElem? (i := 343) (by decide +kernel), List.mem_of_getElem? (i := 344) (by decide +kernel)⟩
theorem lw_p3 : lw_okq (⟨"SubflowBundle", "isInUse", "(I)Z"⟩, 6) := ⟨⟨by decide +kernel, by decide +kernel⟩, List.mem_of_getElem? (i := 14) (by decide +kernel), List.mem_of_getElem? (i := 371) (by decide +kernel), List.mem_of_getElem? (i := 372) (by decide +kernel)⟩
theorem lw_p4 : lw_okq (⟨"SubflowBundle", "tick", "()I"⟩, 6) := ⟨⟨by decide +kernel, by decide +kernel⟩, List.mem_of_getElem? (i := 14) (by decide +kernel), List.mem_of_getElem? (i := 413) (by decide +kernel), List.mem_of_getElem? (i := 414) (by decide +kernel)⟩
theorem lw_p5 : lw_okq (⟨"SubflowBundle", "deliverForward", "(I)I"⟩, 6) := ⟨⟨by decide +kernel, by decide +kernel⟩, List.mem_of_getElem? (i := 14) (by decide +kernel), List.mem_of_getElem? (i := 417) (by decide +kernel), List.mem_of_getElem? (i := 418) (by decide +kernel)⟩
theorem lw_p6 : lw_okq (⟨"SubflowBundle$HostB", "hearData", "(LSubflowBundle$Copy;LSubflowBundle$Arrivals;)V"⟩, 8) := ⟨⟨by decide +kernel, by decide +kernel⟩, List.mem_of_getElem? (i := 246) (by decide +kernel), List.mem_of_getElem? (i := 437) (by decide +kernel), List.mem_of_getElem? (i := 438) (by decide +kernel)⟩
theorem lw_p7 : lw_okq (⟨"SubflowBundle$HostB", "limit", "()I"⟩, 8) := ⟨⟨by decide +kernel, by decide +kernel⟩, List.mem_of_getElem? (i := 246) (by decide +kernel), List.mem_of_getElem? (i := 445) (by decide +kernel), List.mem_of_getElem? (i := 446) (by decide +kernel)⟩
theorem lw_p8 : lw_okq (⟨"SubflowBundle$HostB", "answer", "(LSubflowBundle$Path;ILSubflowBundle$Arrivals;I)V"⟩, 8) := ⟨⟨by decide +kernel, by decide +kernel⟩, List.mem_of_getElem? (i := 246) (by decide +kernel), List.mem_of_getElem? (i := 453) (by decide +kernel), List.mem_of_getElem? (i := 454) (by decide +kernel)⟩
theorem lw_p9 : lw_okq (⟨"SubflowBundle", "deliverBack", "(I)I"⟩, 6) := ⟨⟨by decide +kernel, by decide +kernel⟩, List.mem_of_getElem? (i := 14) (by decide +kernel), List.mem_of_getElem? (i := 459) (by decide +kernel), List.mem_of_getElem? (i := 460) (by decide +kernel)⟩
theorem lw_p10 : lw_okq (⟨"SubflowBundle$HostA", "settleBelow", "(LSubflowBundle$Path;I)LSubflowBundle$Segment;"⟩, 9) := ⟨⟨by decide +kernel, by decide +kernel⟩, List.mem_of_getElem? (i := 208) (by decide +kernel), List.mem_of_getElem? (i := 469) (by decide +kernel), List.mem_of_getElem? (i := 470) (by decide +kernel)⟩
theorem lw_p11 : lw_okq (⟨"SubflowBundle$HostA", "isAnyOpen", "()Z"⟩, 9) := ⟨⟨by decide +kernel, by decide +kernel⟩, List.mem_of_getElem? (i := 208) (by decide +kernel), List.mem_of_getElem? (i := 494) (by decide +kernel), List.mem_of_getElem? (i := 495) (by decide +kernel)⟩
theorem lw_p12 : lw_okq (⟨"SubflowBundle$HostA", "quickestThatCan", "(I)LSubflowBundle$Path;"⟩, 9) := ⟨⟨by decide +kernel, by decide +kernel⟩, List.mem_of_getElem? (i := 208) (by decide +kernel), List.mem_of_getElem? (i := 498) (by decide +kernel), List.mem_of_getElem? (i := 499) (by decide +kernel)⟩
theorem lw_p13 : lw_okq (⟨"SubflowBundle$HostA", "firstUnit", "(LSubflowBundle$Path;)I"⟩, 9) := ⟨⟨by decide +kernel, by decide +kernel⟩, List.mem_of_getElem? (i := 208) (by decide +kernel), List.mem_of_getElem? (i := 507) (by decide +kernel), List.mem_of_getElem? (i := 508) (by decide +kernel)⟩
theorem lw_p14 : lw_okq (⟨"SubflowBundle$HostA", "isLoose", "(ILSubflowBundle$Path;)Z"⟩, 9) := ⟨⟨by decide +kernel, by decide +kernel⟩, List.mem_of_getElem? (i := 208) (by decide +kernel), List.mem_of_getElem? (i := 511) (by decide +kernel), List.mem_of_getElem? (i := 512) (by decide +kernel)⟩
theorem lw_p15 : lw_okq (⟨"SubflowBundle$HostA", "nextSegment", "(LSubflowBundle$Path;)LSubflowBundle$Segment;"⟩, 9) := ⟨⟨by decide +kernel, by decide +kernel⟩, List.mem_of_getElem? (i := 208) (by decide +kernel), List.mem_of_getElem? (i := 519) (by decide +kernel), List.mem_of_getElem? (i := 520) (by decide +kernel)⟩
def lw_privs_1 : List (MethodName × Nat) := [(⟨"SubflowBundle", "isAnyIn", "(I)Z"⟩, 6), (⟨"SubflowBundle$HostA", "sendFirst", "(LSubflowBundle$Path;LSubflowBundle$Segment;I)V"⟩, 9), (⟨"SubflowBundle$HostA", "transmit", "(LSubflowBundle$Path;LSubflowBundle$Segment;I)V"⟩, 9), (⟨"SubflowBundle", "isInUse", "(I)Z"⟩, 6), (⟨"SubflowBundle", "tick", "()I"⟩, 6), (⟨"SubflowBundle", "deliverForward", "(I)I"⟩, 6), (⟨"SubflowBundle$HostB", "hearData", "(LSubflowBundle$Copy;LSubflowBundle$Arrivals;)V"⟩, 8), (⟨"SubflowBundle$HostB", "limit", "()I"⟩, 8), (⟨"SubflowBundle$HostB", "answer", "(LSubflowBundle$Path;ILSubflowBundle$Arrivals;I)V"⟩, 8), (⟨"SubflowBundle", "deliverBack", "(I)I"⟩, 6), (⟨"SubflowBundle$HostA", "settleBelow", "(LSubflowBundle$Path;I)LSubflowBundle$Segment;"⟩, 9), (⟨"SubflowBundle$HostA", "isAnyOpen", "()Z"⟩, 9), (⟨"SubflowBundle$HostA", "quickestThatCan", "(I)LSubflowBundle$Path;"⟩, 9), (⟨"SubflowBundle$HostA", "firstUnit", "(LSubflowBundle$Path;)I"⟩, 9), (⟨"SubflowBundle$HostA", "isLoose", "(ILSubflowBundle$Path;)Z"⟩, 9), (⟨"SubflowBundle$HostA", "nextSegment", "(LSubflowBundle$Path;)LSubflowBundle$Segment;"⟩, 9)]
theorem lw_r1 : ∀ q ∈ lw_privs_1, lw_okq q := List.forall_mem_cons.mpr ⟨lw_p0, List.forall_mem_cons.mpr ⟨lw_p1, List.forall_mem_cons.mpr ⟨lw_p2, List.forall_mem_cons.mpr ⟨lw_p3, List.forall_mem_cons.mpr ⟨lw_p4, List.forall_mem_cons.mpr ⟨lw_p5, List.forall_mem_cons.mpr ⟨lw_p6, List.forall_mem_cons.mpr ⟨lw_p7, List.forall_mem_cons.mpr ⟨lw_p8, List.forall_mem_cons.mpr ⟨lw_p9, List.forall_mem_cons.mpr ⟨lw_p10, List.forall_mem_cons.mpr ⟨lw_p11, List.forall_mem_cons.mpr ⟨lw_p12, List.forall_mem_cons.mpr ⟨lw_p13, List.forall_mem_cons.mpr ⟨lw_p14, List.forall_mem_cons.mpr ⟨lw_p15, fun _ h => absurd h List.not_mem_nil⟩⟩⟩⟩⟩⟩⟩⟩⟩⟩⟩⟩⟩⟩⟩⟩
theorem lw_p16 : lw_okq (⟨"SubflowBundle$HostA", "countCarried", "(II)V"⟩, 9) := ⟨⟨by decide +kernel, by decide +kernel⟩, List.mem_of_getElem? (i := 208) (by decide +kernel), List.mem_of_getElem? (i := 523) (by decide +kernel), List.mem_of_getElem? (i := 524) (by decide +kernel)⟩
theorem lw_p17 : lw_okq (⟨"SubflowBundle", "headOf", "(LSubflowBundle$Copy;I)I"⟩, 6) := ⟨⟨by decide +kernel, by decide +kernel⟩, List.mem_of_getElem? (i := 14) (by decide +kernel), List.mem_of_getElem? (i := 552) (by decide +kernel), List.mem_of_getElem? (i := 553) (by decide +kernel)⟩
theorem lw_p18 : lw_okq (⟨"SubflowBundleModel", "begin", "(III)V"⟩, 39) := ⟨⟨by decide +kernel, by decide +kernel⟩, List.mem_of_getElem? (i := 605) (by decide +kernel), List.mem_of_getElem? (i := 738) (by decide +kernel), List.mem_of_getElem? (i := 739) (by decide +kernel)⟩
theorem lw_p19 : lw_okq (⟨"SubflowBundleModel", "transmit", "(II)V"⟩, 39) := ⟨⟨by decide +kernel, by decide +kernel⟩, List.mem_of_getElem? (i := 605) (by decide +kernel), List.mem_of_getElem? (i := 742) (by decide +kernel), List.mem_of_getElem? (i := 743) (by decide +kernel)⟩
theorem lw_p20 : lw_okq (⟨"SubflowBundleModel", "ship", "(IIIIII)V"⟩, 39) := ⟨⟨by decide +kernel, by decide +kernel⟩, List.mem_of_getElem? (i := 605) (by decide +kernel), List.mem_of_getElem? (i := 746) (by decide +kernel), List.mem_of_getElem? (i := 747) (by decide +kernel)⟩
theorem lw_p21 : lw_okq (⟨"SubflowBundleModel", "put", "(IIIIIII)V"⟩, 39) := ⟨⟨by decide +kernel, by decide +kernel⟩, List.mem_of_getElem? (i := 605) (by decide +kernel), List.mem_of_getElem? (i := 750) (by decide +kernel), List.mem_of_getElem? (i := 751) (by decide +kernel)⟩
theorem lw_p22 : lw_okq (⟨"SubflowBundleModel", "shut", "(I)V"⟩, 39) := ⟨⟨by decide +kernel, by decide +kernel⟩, List.mem_of_getElem? (i := 605) (by decide +kernel), List.mem_of_getElem? (i := 758) (by decide +kernel), List.mem_of_getElem? (i := 759) (by decide +kernel)⟩
theorem lw_p23 : lw_okq (⟨"SubflowBundleModel", "deliver", "(I)I"⟩, 39) := ⟨⟨by decide +kernel, by decide +kernel⟩, List.mem_of_getElem? (i := 605) (by decide +kernel), List.mem_of_getElem? (i := 778) (by decide +kernel), List.mem_of_getElem? (i := 779) (by decide +kernel)⟩
theorem lw_p24 : lw_okq (⟨"SubflowBundleModel", "drop", "(II)V"⟩, 39) := ⟨⟨by decide +kernel, by decide +kernel⟩, List.mem_of_getElem? (i := 605) (by decide +kernel), List.mem_of_getElem? (i := 782) (by decide +kernel), List.mem_of_getElem? (i := 783) (by decide +kernel)⟩
theorem lw_p25 : lw_okq (⟨"SubflowBundleModel", "atB", "(IIIII)V"⟩, 39) := ⟨⟨by decide +kernel, by decide +kernel⟩, List.mem_of_getElem? (i := 605) (by decide +kernel), List.mem_of_getElem? (i := 786) (by decide +kernel), List.mem_of_getElem? (i := 787) (by decide +kernel)⟩
theorem lw_p26 : lw_okq (⟨"SubflowBundleModel", "atA", "(IIIII)V"⟩, 39) := ⟨⟨by decide +kernel, by decide +kernel⟩, List.mem_of_getElem? (i := 605) (by decide +kernel), List.mem_of_getElem? (i := 794) (by decide +kernel), List.mem_of_getElem? (i := 795) (by decide +kernel)⟩
theorem lw_p27 : lw_okq (⟨"SubflowBundleModel", "measure", "(II)V"⟩, 39) := ⟨⟨by decide +kernel, by decide +kernel⟩, List.mem_of_getElem? (i := 605) (by decide +kernel), List.mem_of_getElem? (i := 798) (by decide +kernel), List.mem_of_getElem? (i := 799) (by decide +kernel)⟩
theorem lw_p28 : lw_okq (⟨"SubflowBundleModel", "ring", "(I)V"⟩, 39) := ⟨⟨by decide +kernel, by decide +kernel⟩, List.mem_of_getElem? (i := 605) (by decide +kernel), List.mem_of_getElem? (i := 802) (by decide +kernel), List.mem_of_getElem? (i := 803) (by decide +kernel)⟩
theorem lw_p29 : lw_okq (⟨"SubflowBundleModel", "sends", "()Z"⟩, 39) := ⟨⟨by decide +kernel, by decide +kernel⟩, List.mem_of_getElem? (i := 605) (by decide +kernel), List.mem_of_getElem? (i := 806) (by decide +kernel), List.mem_of_getElem? (i := 807) (by decide +kernel)⟩
theorem lw_p30 : lw_okq (⟨"SubflowBundleModel", "open3", "(I)I"⟩, 39) := ⟨⟨by decide +kernel, by decide +kernel⟩, List.mem_of_getElem? (i := 605) (by decide +kernel), List.mem_of_getElem? (i := 810) (by decide +kernel), List.mem_of_getElem? (i := 811) (by decide +kernel)⟩
theorem lw_p31 : lw_okq (⟨"SubflowBundleModel", "load", "(I)Z"⟩, 39) := ⟨⟨by decide +kernel, by decide +kernel⟩, List.mem_of_getElem? (i := 605) (by decide +kernel), List.mem_of_getElem? (i := 814) (by decide +kernel), List.mem_of_getElem? (i := 815) (by decide +kernel)⟩
def lw_privs_2 : List (MethodName × Nat) := [(⟨"SubflowBundle$HostA", "countCarried", "(II)V"⟩, 9), (⟨"SubflowBundle", "headOf", "(LSubflowBundle$Copy;I)I"⟩, 6), (⟨"SubflowBundleModel", "begin", "(III)V"⟩, 39), (⟨"SubflowBundleModel", "transmit", "(II)V"⟩, 39), (⟨"SubflowBundleModel", "ship", "(IIIIII)V"⟩, 39), (⟨"SubflowBundleModel", "put", "(IIIIIII)V"⟩, 39), (⟨"SubflowBundleModel", "shut", "(I)V"⟩, 39), (⟨"SubflowBundleModel", "deliver", "(I)I"⟩, 39), (⟨"SubflowBundleModel", "drop", "(II)V"⟩, 39), (⟨"SubflowBundleModel", "atB", "(IIIII)V"⟩, 39), (⟨"SubflowBundleModel", "atA", "(IIIII)V"⟩, 39), (⟨"SubflowBundleModel", "measure", "(II)V"⟩, 39), (⟨"SubflowBundleModel", "ring", "(I)V"⟩, 39), (⟨"SubflowBundleModel", "sends", "()Z"⟩, 39), (⟨"SubflowBundleModel", "open3", "(I)I"⟩, 39), (⟨"SubflowBundleModel", "load", "(I)Z"⟩, 39)]
theorem lw_r2 : ∀ q ∈ lw_privs_2, lw_okq q := List.forall_mem_cons.mpr ⟨lw_p16, List.forall_mem_cons.mpr ⟨lw_p17, List.forall_mem_cons.mpr ⟨lw_p18, List.forall_mem_cons.mpr ⟨lw_p19, List.forall_mem_cons.mpr ⟨lw_p20, List.forall_mem_cons.mpr ⟨lw_p21, List.forall_mem_cons.mpr ⟨lw_p22, List.forall_mem_cons.mpr ⟨lw_p23, List.forall_mem_cons.mpr ⟨lw_p24, List.forall_mem_cons.mpr ⟨lw_p25, List.forall_mem_cons.mpr ⟨lw_p26, List.forall_mem_cons.mpr ⟨lw_p27, List.forall_mem_cons.mpr ⟨lw_p28, List.forall_mem_cons.mpr ⟨lw_p29, List.forall_mem_cons.mpr ⟨lw_p30, List.forall_mem_cons.mpr ⟨lw_p31, fun _ h => absurd h List.not_mem_nil⟩⟩⟩⟩⟩⟩⟩⟩⟩⟩⟩⟩⟩⟩⟩⟩
theorem lw_p32 : lw_okq (⟨"SubflowBundleModel", "length", "()I"⟩, 39) := ⟨⟨by decide +kernel, by decide +kernel⟩, List.mem_of_getElem? (i := 605) (by decide +kernel), List.mem_of_getElem? (i := 818) (by decide +kernel), List.mem_of_getElem? (i := 819) (by decide +kernel)⟩
theorem lw_p33 : lw_okq (⟨"SubflowBundleModel", "loose", "(II)Z"⟩, 39) := ⟨⟨by decide +kernel, by decide +kernel⟩, List.mem_of_getElem? (i := 605) (by decide +kernel), List.mem_of_getElem? (i := 822) (by decide +kernel), List.mem_of_getElem? (i := 823) (by decide +kernel)⟩
theorem lw_p34 : lw_okq (⟨"SubflowBundleModel", "there", "(IZI)Z"⟩, 39) := ⟨⟨by decide +kernel, by decide +kernel⟩, List.mem_of_getElem? (i := 605) (by decide +kernel), List.mem_of_getElem? (i := 834) (by decide +kernel), List.mem_of_getElem? (i := 835) (by decide +kernel)⟩
theorem lw_p35 : lw_okq (⟨"SubflowBundleModel", "check", "(II)I"⟩, 39) := ⟨⟨by decide +kernel, by decide +kernel⟩, List.mem_of_getElem? (i := 605) (by decide +kernel), List.mem_of_getElem? (i := 850) (by decide +kernel), List.mem_of_getElem? (i := 851) (by decide +kernel)⟩
def lw_privs_3 : List (MethodName × Nat) := [(⟨"SubflowBundleModel", "length", "()I"⟩, 39), (⟨"SubflowBundleModel", "loose", "(II)Z"⟩, 39), (⟨"SubflowBundleModel", "there", "(IZI)Z"⟩, 39), (⟨"SubflowBundleModel", "check", "(II)I"⟩, 39)]
theorem lw_r3 : ∀ q ∈ lw_privs_3, lw_okq q := List.forall_mem_cons.mpr ⟨lw_p32, List.forall_mem_cons.mpr ⟨lw_p33, List.forall_mem_cons.mpr ⟨lw_p34, List.forall_mem_cons.mpr ⟨lw_p35, fun _ h => absurd h List.not_mem_nil⟩⟩⟩⟩
def lw_privs : List (MethodName × Nat) := lw_privs_1 ++ (lw_privs_2 ++ (lw_privs_3))
def lw_tbl : List Cond := k2_sels lw_privs ++ tables_1
theorem lw_privs_ok : ∀ q ∈ lw_privs, lw_okq q := by
  show ∀ q ∈ lw_privs_1 ++ (lw_privs_2 ++ (lw_privs_3)), lw_okq q
  exact List.forall_mem_append.mpr ⟨lw_r1, List.forall_mem_append.mpr ⟨lw_r2, lw_r3⟩⟩
end
section
/-! THE PROGRAM as tables of the pure machine: made by a program (wip/whole/gen/names.py) out of javap and the tables of the Statement. -/
def kC0 : String := "SubflowBundle$Arrivals"
def kT0 : u_T := fun k => match k with
  | 0 => ("SubflowBundle$Arrivals", "isTaken", "[Z", true)
  | _ => ("SubflowBundle$Arrivals", "expected", "I", false)
def kY0 : List FieldType := [.array .boolean, .int]
def kC1 : String := "SubflowBundle$Copy"
def kT1 : u_T := fun k => match k with
  | 0 => ("SubflowBundle$Copy", "kind", "I", false)
  | 1 => ("SubflowBundle$Copy", "units", "I", false)
  | 2 => ("SubflowBundle$Copy", "first", "I", false)
  | 3 => ("SubflowBundle$Copy", "second", "I", false)
  | 4 => ("SubflowBundle$Copy", "third", "I", false)
  | _ => ("SubflowBundle$Copy", "due", "I", false)
def kY1 : List FieldType := [.int, .int, .int, .int, .int, .int]
def kC2 : String := "SubflowBundle$HostA"
def kT2 : u_T := fun k => match k with
  | 0 => ("SubflowBundle$HostA", "stream", "LSubflowBundle$Stream;", true)
  | 1 => ("SubflowBundle$HostA", "paths", "[LSubflowBundle$Path;", true)
  | 2 => ("SubflowBundle$HostA", "mss", "I", true)
  | 3 => ("SubflowBundle$HostA", "isSettled", "[Z", true)
  | 4 => ("SubflowBundle$HostA", "wasCarried", "[Z", true)
  | 5 => ("SubflowBundle$HostA", "acknowledged", "I", false)
  | 6 => ("SubflowBundle$HostA", "edge", "I", false)
  | 7 => ("SubflowBundle$HostA", "reinjected", "I", false)
  | _ => ("SubflowBundle$HostA", "everOpen", "Z", false)
def kY2 : List FieldType := [.object "SubflowBundle$Stream", .array (.object "SubflowBundle$Path"), .int, .array .boolean, .array .boolean, .int, .int, .int, .boolean]
def kC3 : String := "SubflowBundle$HostB"
def kT3 : u_T := fun k => match k with
  | 0 => ("SubflowBundle$HostB", "stream", "LSubflowBundle$Stream;", true)
  | 1 => ("SubflowBundle$HostB", "buffer", "I", true)
  | 2 => ("SubflowBundle$HostB", "token", "I", true)
  | 3 => ("SubflowBundle$HostB", "arrivals", "[LSubflowBundle$Arrivals;", true)
  | 4 => ("SubflowBundle$HostB", "hasUnit", "[Z", true)
  | 5 => ("SubflowBundle$HostB", "received", "I", false)
  | 6 => ("SubflowBundle$HostB", "unitsRead", "I", false)
  | _ => ("SubflowBundle$HostB", "tookSyn", "Z", false)
def kY3 : List FieldType := [.object "SubflowBundle$Stream", .int, .int, .array (.object "SubflowBundle$Arrivals"), .array .boolean, .int, .int, .boolean]
def kC4 : String := "SubflowBundle$Path"
def kT4 : u_T := fun k => match k with
  | 0 => ("SubflowBundle$Path", "forward", "LSubflowBundle$Pipe;", true)
  | 1 => ("SubflowBundle$Path", "back", "LSubflowBundle$Pipe;", true)
  | 2 => ("SubflowBundle$Path", "segments", "[LSubflowBundle$Segment;", true)
  | 3 => ("SubflowBundle$Path", "segmentCount", "I", false)
  | 4 => ("SubflowBundle$Path", "nextNumber", "I", false)
  | 5 => ("SubflowBundle$Path", "state", "I", false)
  | 6 => ("SubflowBundle$Path", "delay", "I", false)
  | 7 => ("SubflowBundle$Path", "synToken", "I", false)
  | 8 => ("SubflowBundle$Path", "timeout", "I", false)
  | 9 => ("SubflowBundle$Path", "timer", "I", false)
  | 10 => ("SubflowBundle$Path", "isMeasured", "Z", false)
  | 11 => ("SubflowBundle$Path", "smoothed", "I", false)
  | 12 => ("SubflowBundle$Path", "variation", "I", false)
  | _ => ("SubflowBundle$Path", "sendings", "I", false)
def kY4 : List FieldType := [.object "SubflowBundle$Pipe", .object "SubflowBundle$Pipe", .array (.object "SubflowBundle$Segment"), .int, .int, .int, .int, .int, .int, .int, .boolean, .int, .int, .int]
def kC5 : String := "SubflowBundle$Pipe"
def kT5 : u_T := fun k => match k with
  | 0 => ("SubflowBundle$Pipe", "copies", "[LSubflowBundle$Copy;", true)
  | _ => ("SubflowBundle$Pipe", "size", "I", false)
def kY5 : List FieldType := [.array (.object "SubflowBundle$Copy"), .int]
def kC6 : String := "SubflowBundle$Segment"
def kT6 : u_T := fun k => match k with
  | 0 => ("SubflowBundle$Segment", "number", "I", false)
  | 1 => ("SubflowBundle$Segment", "numbers", "I", false)
  | 2 => ("SubflowBundle$Segment", "unit", "I", false)
  | 3 => ("SubflowBundle$Segment", "units", "I", false)
  | 4 => ("SubflowBundle$Segment", "sentAt", "I", false)
  | _ => ("SubflowBundle$Segment", "times", "I", false)
def kY6 : List FieldType := [.int, .int, .int, .int, .int, .int]
def kC7 : String := "SubflowBundle$Stream"
def kT7 : u_T := fun k => match k with
  | 0 => ("SubflowBundle$Stream", "values", "[I", true)
  | 1 => ("SubflowBundle$Stream", "length", "I", false)
  | _ => ("SubflowBundle$Stream", "isEnded", "Z", false)
def kY7 : List FieldType := [.array .int, .int, .boolean]
def kC8 : String := "SubflowBundle"
def kT8 : u_T := fun k => match k with
  | 0 => ("SubflowBundle", "ownToken", "I", true)
  | 1 => ("SubflowBundle", "stream", "LSubflowBundle$Stream;", true)
  | 2 => ("SubflowBundle", "paths", "[LSubflowBundle$Path;", true)
  | 3 => ("SubflowBundle", "a", "LSubflowBundle$HostA;", true)
  | 4 => ("SubflowBundle", "b", "LSubflowBundle$HostB;", true)
  | _ => ("SubflowBundle", "now", "I", false)
def kY8 : List FieldType := [.int, .object "SubflowBundle$Stream", .array (.object "SubflowBundle$Path"), .object "SubflowBundle$HostA", .object "SubflowBundle$HostB", .int]
def kC9 : String := "SubflowBundleModel"
def kT9 : u_T := fun k => match k with
  | 0 => ("SubflowBundleModel", "mss", "I", true)
  | 1 => ("SubflowBundleModel", "buffer", "I", true)
  | 2 => ("SubflowBundleModel", "token", "I", true)
  | 3 => ("SubflowBundleModel", "now", "I", false)
  | 4 => ("SubflowBundleModel", "text", "[I", true)
  | 5 => ("SubflowBundleModel", "count", "I", false)
  | 6 => ("SubflowBundleModel", "ended", "Z", false)
  | 7 => ("SubflowBundleModel", "took", "[Z", true)
  | 8 => ("SubflowBundleModel", "has", "[Z", true)
  | 9 => ("SubflowBundleModel", "met", "Z", false)
  | 10 => ("SubflowBundleModel", "next", "I", false)
  | 11 => ("SubflowBundleModel", "state", "[I", true)
  | 12 => ("SubflowBundleModel", "delays", "[I", true)
  | 13 => ("SubflowBundleModel", "tokens", "[I", true)
  | 14 => ("SubflowBundleModel", "timeouts", "[I", true)
  | 15 => ("SubflowBundleModel", "timer", "[I", true)
  | 16 => ("SubflowBundleModel", "measured", "[Z", true)
  | 17 => ("SubflowBundleModel", "s", "[I", true)
  | 18 => ("SubflowBundleModel", "v", "[I", true)
  | 19 => ("SubflowBundleModel", "low", "[I", true)
  | 20 => ("SubflowBundleModel", "high", "[I", true)
  | 21 => ("SubflowBundleModel", "sents", "[I", true)
  | 22 => ("SubflowBundleModel", "known", "I", false)
  | 23 => ("SubflowBundleModel", "edge", "I", false)
  | 24 => ("SubflowBundleModel", "again", "I", false)
  | 25 => ("SubflowBundleModel", "wasOpen", "Z", false)
  | 26 => ("SubflowBundleModel", "unit", "[I", true)
  | 27 => ("SubflowBundleModel", "size", "[I", true)
  | 28 => ("SubflowBundleModel", "begun", "[I", true)
  | 29 => ("SubflowBundleModel", "tries", "[I", true)
  | 30 => ("SubflowBundleModel", "place", "[I", true)
  | 31 => ("SubflowBundleModel", "borne", "[Z", true)
  | 32 => ("SubflowBundleModel", "filled", "[I", true)
  | 33 => ("SubflowBundleModel", "kind", "[I", true)
  | 34 => ("SubflowBundleModel", "one", "[I", true)
  | 35 => ("SubflowBundleModel", "two", "[I", true)
  | 36 => ("SubflowBundleModel", "three", "[I", true)
  | 37 => ("SubflowBundleModel", "units", "[I", true)
  | _ => ("SubflowBundleModel", "due", "[I", true)
def kY9 : List FieldType := [.int, .int, .int, .int, .array .int, .int, .boolean, .array .boolean, .array .boolean, .boolean, .int, .array .int, .array .int, .array .int, .array .int, .array .int, .array .boolean, .array .int, .array .int, .array .int, .array .int, .array .int, .int, .int, .int, .boolean, .array .int, .array .int, .array .int, .array .int, .array .int, .array .boolean, .array .int, .array .int, .array .int, .array .int, .array .int, .array .int, .array .int]
def pCl : List (vw_C × List FieldType × Bool) := [((kC0, kT0, 2), kY0, true), ((kC1, kT1, 6), kY1, true), ((kC2, kT2, 9), kY2, false), ((kC3, kT3, 8), kY3, false), ((kC4, kT4, 14), kY4, true), ((kC5, kT5, 2), kY5, false), ((kC6, kT6, 6), kY6, true), ((kC7, kT7, 3), kY7, false), ((kC8, kT8, 6), kY8, false), ((kC9, kT9, 39), kY9, false)]
/-- SubflowBundle.<init>(III)V -/
def pT0 : List (Option Instr) := [some (.aload_n 0), some (.invokespecial 3), none, none, some (.iload_n 2), some (.iconst 4), some (.bipush 56), none, some (.invokestatic 9), none, none, some (.istore 4), none, some (.aload_n 0), some (.iload_n 3), some (.invokestatic 13), none, none, some (.putfield 17), none, none, some (.aload_n 0), some (.new 21), none, none, some .dup, some (.invokespecial 23), none, none, some (.putfield 24), none, none, some (.aload_n 0), some (.iconst 4), some (.anewarray 28), none, none, some (.putfield 30), none, none, some (.iconst 0), some (.istore 5), none, some (.iload 5), none, some (.iconst 4), some (.if_icmp .ge 23), none, none, some (.aload_n 0), some (.getfield 30), none, none, some (.iload 5), none, some (.new 28), none, none, some .dup, some (.invokespecial 34), none, none, some .aastore, some (.iinc 5 1), none, none, some (.goto (-23)), none, none, some (.aload_n 0), some (.new 35), none, none, some .dup, some (.aload_n 0), some (.getfield 24), none, none, some (.aload_n 0), some (.getfield 30), none, none, some (.iload_n 1), some (.iconst 1), some (.bipush 7), none, some (.invokestatic 9), none, none, some (.iload 4), none, some (.invokespecial 37), none, none, some (.putfield 40), none, none, some (.aload_n 0), some (.new 44), none, none, some .dup, some (.aload_n 0), some (.getfield 24), none, none, some (.iload 4), none, some (.aload_n 0), some (.getfield 17), none, none, some (.invokespecial 46), none, none, some (.putfield 49), none, none, some (.aload_n 0), some (.iconst 0), some (.putfield 53), none, none, some .return_]
/-- SubflowBundle.clamp(III)I -/
def pT1 : List (Option Instr) := [some (.iload_n 1), some (.iload_n 2), some (.iload_n 0), some (.invokestatic 165), none, none, some (.invokestatic 170), none, none, some .ireturn]
/-- SubflowBundle.tokenOf(I)I -/
def pT2 : List (Option Instr) := [some (.iload_n 0), some (.bipush 7), none, some (.invokestatic 173), none, none, some (.ldc 178), none, some .imul, some (.ldc 179), none, some .iadd, some (.istore_n 1), some (.iload_n 1), some (.iload_n 1), some (.bipush 16), none, some .iushr, some .ixor, some .ireturn]
/-- java/lang/Integer.rotateLeft(II)I -/
def pT3 : List (Option Instr) := [some (.iload_n 0), some (.iload_n 1), some .ishl, some (.iload_n 0), some (.iload_n 1), some .ineg, some .iushr, some .ior, some .ireturn]
/-- SubflowBundle$Stream.<init>()V -/
def pT4 : List (Option Instr) := [some (.aload_n 0), some (.invokespecial 3), none, none, some (.aload_n 0), some (.sipush 401), none, none, some (.newarray .int), none, some (.putfield 9), none, none, some .return_]
/-- SubflowBundle$Path.<init>()V -/
def pT5 : List (Option Instr) := [some (.aload_n 0), some (.invokespecial 3), none, none, some (.aload_n 0), some (.new 9), none, none, some .dup, some (.invokespecial 11), none, none, some (.putfield 12), none, none, some (.aload_n 0), some (.new 9), none, none, some .dup, some (.invokespecial 11), none, none, some (.putfield 18), none, none, some (.aload_n 0), some (.iconst 3), some (.anewarray 21), none, none, some (.putfield 23), none, none, some (.aload_n 0), some (.iconst 0), some (.putfield 27), none, none, some (.aload_n 0), some (.bipush 16), none, some (.putfield 31), none, none, some (.aload_n 0), some (.iconst (-1)), some (.putfield 34), none, none, some (.iconst 0), some (.istore_n 1), some (.iload_n 1), some (.iconst 3), some (.if_icmp .ge 22), none, none, some (.aload_n 0), some (.getfield 23), none, none, some (.iload_n 1), some (.new 21), none, none, some .dup, some (.invokespecial 37), none, none, some .aastore, some (.iinc 1 1), none, none, some (.goto (-21)), none, none, some .return_]
/-- SubflowBundle$Pipe.<init>()V -/
def pT6 : List (Option Instr) := [some (.aload_n 0), some (.invokespecial 3), none, none, some (.aload_n 0), some (.bipush 6), none, some (.anewarray 9), none, none, some (.putfield 11), none, none, some (.iconst 0), some (.istore_n 1), some (.iload_n 1), some (.bipush 6), none, some (.if_icmp .ge 22), none, none, some (.aload_n 0), some (.getfield 11), none, none, some (.iload_n 1), some (.new 9), none, none, some .dup, some (.invokespecial 17), none, none, some .aastore, some (.iinc 1 1), none, none, some (.goto (-22)), none, none, some .return_]
/-- SubflowBundle$Copy.<init>()V -/
def pT7 : List (Option Instr) := [some (.aload_n 0), some (.invokespecial 1), none, none, some .return_]
/-- SubflowBundle$Segment.<init>()V -/
def pT8 : List (Option Instr) := [some (.aload_n 0), some (.invokespecial 1), none, none, some .return_]
/-- SubflowBundle$HostA.<init>(LSubflowBundle$Stream;[LSubflowBundle$Path;II)V -/
def pT9 : List (Option Instr) := [some (.aload_n 0), some (.invokespecial 3), none, none, some (.aload_n 0), some (.sipush 401), none, none, some (.newarray .boolean), none, some (.putfield 9), none, none, some (.aload_n 0), some (.sipush 401), none, none, some (.newarray .boolean), none, some (.putfield 15), none, none, some (.aload_n 0), some (.aload_n 1), some (.putfield 18), none, none, some (.aload_n 0), some (.aload_n 2), some (.putfield 22), none, none, some (.aload_n 0), some (.iload_n 3), some (.putfield 26), none, none, some (.aload_n 0), some (.iload 4), none, some (.putfield 30), none, none, some .return_]
/-- SubflowBundle$HostB.<init>(LSubflowBundle$Stream;II)V -/
def pT10 : List (Option Instr) := [some (.aload_n 0), some (.invokespecial 3), none, none, some (.aload_n 0), some (.iconst 4), some (.anewarray 9), none, none, some (.putfield 11), none, none, some (.aload_n 0), some (.sipush 401), none, none, some (.newarray .boolean), none, some (.putfield 17), none, none, some (.aload_n 0), some (.aload_n 1), some (.putfield 21), none, none, some (.aload_n 0), some (.iload_n 2), some (.putfield 25), none, none, some (.aload_n 0), some (.iload_n 3), some (.putfield 29), none, none, some (.iconst 0), some (.istore 4), none, some (.iload 4), none, some (.iconst 4), some (.if_icmp .ge 23), none, none, some (.aload_n 0), some (.getfield 11), none, none, some (.iload 4), none, some (.new 9), none, none, some .dup, some (.invokespecial 32), none, none, some .aastore, some (.iinc 4 1), none, none, some (.goto (-23)), none, none, some .return_]
/-- SubflowBundle$Arrivals.<init>()V -/
def pT11 : List (Option Instr) := [some (.aload_n 0), some (.invokespecial 3), none, none, some (.aload_n 0), some (.sipush 402), none, none, some (.newarray .boolean), none, some (.putfield 9), none, none, some .return_]
/-- SubflowBundle.open(III)Z -/
def pT12 : List (Option Instr) := [some (.iload_n 1), some (.invokestatic 56), none, none, some (.ifCond .eq 26), none, none, some (.aload_n 0), some (.getfield 30), none, none, some (.iload_n 1), some .aaload, some (.getfield 60), none, none, some (.ifCond .ne 14), none, none, some (.iload_n 2), some (.iconst 1), some (.if_icmp .lt 9), none, none, some (.iload_n 2), some (.bipush 40), none, some (.if_icmp .le 5), none, none, some (.iconst 0), some .ireturn, some (.aload_n 0), some (.getfield 40), none, none, some (.getfield 63), none, none, some (.ifCond .ne 13), none, none, some (.aload_n 0), some (.iconst 1), some (.invokevirtual 67), none, none, some (.ifCond .eq 5), none, none, some (.iconst 0), some .ireturn, some (.aload_n 0), some (.getfield 30), none, none, some (.iload_n 1), some .aaload, some (.iload_n 2), some (.putfield 70), none, none, some (.aload_n 0), some (.getfield 40), none, none, some (.aload_n 0), some (.getfield 30), none, none, some (.iload_n 1), some .aaload, some (.iload_n 3), some (.aload_n 0), some (.getfield 53), none, none, some (.invokevirtual 73), none, none, some (.iconst 1), some .ireturn]
/-- SubflowBundle.isPath(I)Z -/
def pT13 : List (Option Instr) := [some (.iload_n 0), some (.ifCond .lt 12), none, none, some (.iload_n 0), some (.iconst 4), some (.if_icmp .ge 7), none, none, some (.iconst 1), some (.goto 4), none, none, some (.iconst 0), some .ireturn]
/-- SubflowBundle.isAnyIn(I)Z -/
def pT14 : List (Option Instr) := [some (.iconst 0), some (.istore_n 2), some (.iload_n 2), some (.iconst 4), some (.if_icmp .ge 24), none, none, some (.aload_n 0), some (.getfield 30), none, none, some (.iload_n 2), some .aaload, some (.getfield 60), none, none, some (.iload_n 1), some (.if_icmp .ne 5), none, none, some (.iconst 1), some .ireturn, some (.iinc 2 1), none, none, some (.goto (-23)), none, none, some (.iconst 0), some .ireturn]
/-- SubflowBundle$HostA.sendSyn(LSubflowBundle$Path;II)V -/
def pT15 : List (Option Instr) := [some (.aload_n 1), some (.iconst 1), some (.putfield 33), none, none, some (.aload_n 1), some (.iload_n 2), some (.putfield 38), none, none, some (.aload_n 0), some (.aload_n 1), some (.aload_n 1), some (.iconst 1), some (.iconst 0), some (.iconst 0), some (.invokevirtual 41), none, none, some (.iload_n 3), some (.invokevirtual 45), none, none, some .return_]
/-- SubflowBundle$Path.addSegment(III)LSubflowBundle$Segment; -/
def pT16 : List (Option Instr) := [some (.aload_n 0), some (.invokevirtual 52), none, none, some (.ifCond .ne 5), none, none, some .aconst_null, some .areturn, some (.aload_n 0), some (.getfield 23), none, none, some (.aload_n 0), some (.getfield 49), none, none, some .aaload, some (.astore 4), none, some (.aload 4), none, some (.aload_n 0), some (.getfield 56), none, none, some (.iload_n 1), some (.iload_n 2), some (.iload_n 3), some (.invokevirtual 59), none, none, some (.aload_n 0), some .dup, some (.getfield 49), none, none, some (.iconst 1), some .iadd, some (.putfield 49), none, none, some (.aload_n 0), some .dup, some (.getfield 56), none, none, some (.iload_n 1), some .iadd, some (.putfield 56), none, none, some (.aload 4), none, some .areturn]
/-- SubflowBundle$Path.hasRoom()Z -/
def pT17 : List (Option Instr) := [some (.aload_n 0), some (.getfield 49), none, none, some (.iconst 3), some (.if_icmp .ge 7), none, none, some (.iconst 1), some (.goto 4), none, none, some (.iconst 0), some .ireturn]
/-- SubflowBundle$Segment.fill(IIII)V -/
def pT18 : List (Option Instr) := [some (.aload_n 0), some (.iload_n 1), some (.putfield 7), none, none, some (.aload_n 0), some (.iload_n 2), some (.putfield 13), none, none, some (.aload_n 0), some (.iload_n 3), some (.putfield 16), none, none, some (.aload_n 0), some (.iload 4), none, some (.putfield 19), none, none, some (.aload_n 0), some (.iconst 0), some (.putfield 22), none, none, some .return_]
/-- SubflowBundle$HostA.sendFirst(LSubflowBundle$Path;LSubflowBundle$Segment;I)V -/
def pT19 : List (Option Instr) := [some (.aload_n 2), some (.ifnonnull 4), none, none, some .return_, some (.aload_n 1), some (.getfield 101), none, none, some (.iconst (-1)), some (.if_icmp .ne 13), none, none, some (.aload_n 1), some (.iload_n 3), some (.aload_n 1), some (.getfield 98), none, none, some .iadd, some (.putfield 101), none, none, some (.aload_n 0), some (.aload_n 1), some (.aload_n 2), some (.iload_n 3), some (.invokevirtual 121), none, none, some .return_]
/-- SubflowBundle$HostA.transmit(LSubflowBundle$Path;LSubflowBundle$Segment;I)V -/
def pT20 : List (Option Instr) := [some (.aload_n 2), some .dup, some (.getfield 79), none, none, some (.iconst 1), some .iadd, some (.putfield 79), none, none, some (.aload_n 2), some (.iload_n 3), some (.putfield 84), none, none, some (.aload_n 1), some .dup, some (.getfield 167), none, none, some (.iconst 1), some .iadd, some (.putfield 167), none, none, some (.aload_n 1), some (.iconst 0), some (.iload_n 3), some (.invokevirtual 170), none, none, some (.astore 4), none, some (.aload 4), none, some (.ifnonnull 4), none, none, some .return_, some (.aload_n 2), some (.getfield 111), none, none, some (.ifCond .ne 19), none, none, some (.aload 4), none, some (.iconst 0), some (.iconst 0), some (.iconst 0), some (.aload_n 1), some (.getfield 38), none, none, some (.iconst 0), some (.invokevirtual 174), none, none, some (.goto 54), none, none, some (.aload_n 0), some (.getfield 18), none, none, some (.aload_n 2), some (.getfield 108), none, none, some (.aload_n 2), some (.getfield 111), none, none, some .iadd, some (.iconst 1), some .isub, some (.invokevirtual 178), none, none, some (.istore 5), none, some (.aload 4), none, some (.iconst 1), some (.aload_n 2), some (.getfield 111), none, none, some (.aload_n 2), some (.getfield 182), none, none, some (.aload_n 2), some (.getfield 108), none, none, some (.iload 5), none, some (.sipush 256), none, none, some (.if_icmp .ne 7), none, none, some (.iconst 1), some (.goto 4), none, none, some (.iconst 0), some (.invokevirtual 174), none, none, some .return_]
/-- SubflowBundle$Path.dispatch(ZI)LSubflowBundle$Copy; -/
def pT21 : List (Option Instr) := [some (.aload_n 0), some (.getfield 38), none, none, some (.ifCond .ne 7), none, none, some .aconst_null, some (.goto 17), none, none, some (.aload_n 0), some (.iload_n 1), some (.invokevirtual 41), none, none, some (.iload_n 2), some (.aload_n 0), some (.getfield 38), none, none, some .iadd, some (.invokevirtual 45), none, none, some .areturn]
/-- SubflowBundle$Path.pipe(Z)LSubflowBundle$Pipe; -/
def pT22 : List (Option Instr) := [some (.iload_n 1), some (.ifCond .eq 10), none, none, some (.aload_n 0), some (.getfield 18), none, none, some (.goto 7), none, none, some (.aload_n 0), some (.getfield 12), none, none, some .areturn]
/-- SubflowBundle$Pipe.append(I)LSubflowBundle$Copy; -/
def pT23 : List (Option Instr) := [some (.aload_n 0), some (.getfield 18), none, none, some (.bipush 6), none, some (.if_icmp .lt 5), none, none, some .aconst_null, some .areturn, some (.aload_n 0), some (.getfield 11), none, none, some (.aload_n 0), some (.getfield 18), none, none, some .aaload, some (.astore_n 2), some (.aload_n 2), some (.iload_n 1), some (.putfield 22), none, none, some (.aload_n 0), some .dup, some (.getfield 18), none, none, some (.iconst 1), some .iadd, some (.putfield 18), none, none, some (.aload_n 2), some .areturn]
/-- SubflowBundle$Copy.fill(IIIII)V -/
def pT24 : List (Option Instr) := [some (.aload_n 0), some (.iload_n 1), some (.putfield 7), none, none, some (.aload_n 0), some (.iload_n 2), some (.putfield 13), none, none, some (.aload_n 0), some (.iload_n 3), some (.putfield 16), none, none, some (.aload_n 0), some (.iload 4), none, some (.putfield 19), none, none, some (.aload_n 0), some (.iload 5), none, some (.putfield 22), none, none, some .return_]
/-- SubflowBundle$Stream.valueOf(I)I -/
def pT25 : List (Option Instr) := [some (.iload_n 1), some (.ifCond .lt 20), none, none, some (.iload_n 1), some (.aload_n 0), some (.getfield 19), none, none, some (.if_icmp .ge 12), none, none, some (.aload_n 0), some (.getfield 9), none, none, some (.iload_n 1), some .iaload, some (.goto 4), none, none, some (.iconst 0), some .ireturn]
/-- SubflowBundle.close(I)Z -/
def pT26 : List (Option Instr) := [some (.aload_n 0), some (.iload_n 1), some (.invokevirtual 77), none, none, some (.ifCond .ne 5), none, none, some (.iconst 0), some .ireturn, some (.aload_n 0), some (.getfield 30), none, none, some (.iload_n 1), some .aaload, some (.invokevirtual 80), none, none, some (.iconst 1), some .ireturn]
/-- SubflowBundle.isInUse(I)Z -/
def pT27 : List (Option Instr) := [some (.iload_n 1), some (.invokestatic 56), none, none, some (.ifCond .eq 32), none, none, some (.aload_n 0), some (.getfield 30), none, none, some (.iload_n 1), some .aaload, some (.getfield 60), none, none, some (.ifCond .eq 20), none, none, some (.aload_n 0), some (.getfield 30), none, none, some (.iload_n 1), some .aaload, some (.getfield 60), none, none, some (.iconst 4), some (.if_icmp .eq 7), none, none, some (.iconst 1), some (.goto 4), none, none, some (.iconst 0), some .ireturn]
/-- SubflowBundle$Path.shut()V -/
def pT28 : List (Option Instr) := [some (.aload_n 0), some (.iconst 4), some (.putfield 27), none, none, some (.aload_n 0), some (.getfield 12), none, none, some (.invokevirtual 95), none, none, some (.aload_n 0), some (.getfield 18), none, none, some (.invokevirtual 95), none, none, some (.aload_n 0), some (.iconst (-1)), some (.putfield 34), none, none, some (.aload_n 0), some (.iconst 0), some (.putfield 49), none, none, some .return_]
/-- SubflowBundle$Pipe.empty()V -/
def pT29 : List (Option Instr) := [some (.aload_n 0), some (.iconst 0), some (.putfield 18), none, none, some .return_]
/-- SubflowBundle.write(II)I -/
def pT30 : List (Option Instr) := [some (.aload_n 0), some (.getfield 24), none, none, some (.iload_n 1), some (.iload_n 2), some (.invokevirtual 83), none, none, some .ireturn]
/-- SubflowBundle$Stream.append(II)I -/
def pT31 : List (Option Instr) := [some (.aload_n 0), some (.getfield 15), none, none, some (.ifCond .ne 8), none, none, some (.iload_n 1), some (.iconst 1), some (.if_icmp .ge 5), none, none, some (.iconst 0), some .ireturn, some (.iload_n 1), some (.sipush 400), none, none, some (.aload_n 0), some (.getfield 19), none, none, some .isub, some (.invokestatic 23), none, none, some (.istore_n 3), some (.iconst 0), some (.istore 4), none, some (.iload 4), none, some (.iload_n 3), some (.if_icmp .ge 29), none, none, some (.aload_n 0), some (.getfield 9), none, none, some (.aload_n 0), some (.getfield 19), none, none, some (.iload 4), none, some .iadd, some (.iload_n 2), some (.iload 4), none, some .iadd, some (.sipush 255), none, none, some .iand, some .iastore, some (.iinc 4 1), none, none, some (.goto (-29)), none, none, some (.aload_n 0), some .dup, some (.getfield 19), none, none, some (.iload_n 3), some .iadd, some (.putfield 19), none, none, some (.iload_n 3), some .ireturn]
/-- SubflowBundle.finish()Z -/
def pT32 : List (Option Instr) := [some (.aload_n 0), some (.getfield 24), none, none, some (.invokevirtual 87), none, none, some .ireturn]
/-- SubflowBundle$Stream.appendEnd()Z -/
def pT33 : List (Option Instr) := [some (.aload_n 0), some (.getfield 15), none, none, some (.ifCond .ne 13), none, none, some (.aload_n 0), some (.getfield 19), none, none, some (.sipush 401), none, none, some (.if_icmp .lt 5), none, none, some (.iconst 0), some .ireturn, some (.aload_n 0), some (.getfield 9), none, none, some (.aload_n 0), some (.getfield 19), none, none, some (.sipush 256), none, none, some .iastore, some (.aload_n 0), some .dup, some (.getfield 19), none, none, some (.iconst 1), some .iadd, some (.putfield 19), none, none, some (.aload_n 0), some (.iconst 1), some (.putfield 15), none, none, some (.iconst 1), some .ireturn]
/-- SubflowBundle.read()I -/
def pT34 : List (Option Instr) := [some (.aload_n 0), some (.getfield 49), none, none, some (.invokevirtual 91), none, none, some .ireturn]
/-- SubflowBundle$HostB.takeNext()I -/
def pT35 : List (Option Instr) := [some (.aload_n 0), some (.getfield 77), none, none, some (.aload_n 0), some (.getfield 74), none, none, some (.if_icmp .lt 5), none, none, some (.iconst (-1)), some .ireturn, some (.aload_n 0), some (.getfield 21), none, none, some (.aload_n 0), some (.getfield 77), none, none, some (.invokevirtual 90), none, none, some (.istore_n 1), some (.iload_n 1), some (.sipush 256), none, none, some (.if_icmp .ne 6), none, none, some (.bipush (-2)), none, some .ireturn, some (.aload_n 0), some .dup, some (.getfield 77), none, none, some (.iconst 1), some .iadd, some (.putfield 77), none, none, some (.iload_n 1), some .ireturn]
/-- SubflowBundle.pass(I)I -/
def pT36 : List (Option Instr) := [some (.iload_n 1), some (.ifCond .lt 9), none, none, some (.iload_n 1), some (.bipush 60), none, some (.if_icmp .le 5), none, none, some (.iconst (-1)), some .ireturn, some (.iconst 0), some (.istore_n 2), some (.iconst 0), some (.istore_n 3), some (.iload_n 3), some (.iload_n 1), some (.if_icmp .ge 16), none, none, some (.iload_n 2), some (.aload_n 0), some (.invokevirtual 95), none, none, some .iadd, some (.istore_n 2), some (.iinc 3 1), none, none, some (.goto (-15)), none, none, some (.iload_n 2), some .ireturn]
/-- SubflowBundle.tick()I -/
def pT37 : List (Option Instr) := [some (.aload_n 0), some .dup, some (.getfield 53), none, none, some (.iconst 1), some .iadd, some (.putfield 53), none, none, some (.iconst 0), some (.istore_n 1), some (.iconst 0), some (.istore_n 2), some (.iload_n 2), some (.iconst 4), some (.if_icmp .ge 25), none, none, some (.iload_n 1), some (.aload_n 0), some (.iload_n 2), some (.invokevirtual 180), none, none, some .iadd, some (.istore_n 1), some (.iload_n 1), some (.aload_n 0), some (.iload_n 2), some (.invokevirtual 183), none, none, some .iadd, some (.istore_n 1), some (.iinc 2 1), none, none, some (.goto (-24)), none, none, some (.iconst 0), some (.istore_n 2), some (.iload_n 2), some (.iconst 4), some (.if_icmp .ge 42), none, none, some (.aload_n 0), some (.getfield 30), none, none, some (.iload_n 2), some .aaload, some (.getfield 186), none, none, some (.aload_n 0), some (.getfield 53), none, none, some (.if_icmp .ne 20), none, none, some (.aload_n 0), some (.getfield 40), none, none, some (.aload_n 0), some (.getfield 30), none, none, some (.iload_n 2), some .aaload, some (.aload_n 0), some (.getfield 53), none, none, some (.invokevirtual 189), none, none, some (.iinc 2 1), none, none, some (.goto (-41)), none, none, some (.aload_n 0), some (.getfield 40), none, none, some (.aload_n 0), some (.getfield 53), none, none, some (.invokevirtual 193), none, none, some (.iload_n 1), some .ireturn]
/-- SubflowBundle.deliverForward(I)I -/
def pT38 : List (Option Instr) := [some (.iconst 0), some (.istore_n 2), some (.iconst 0), some (.istore_n 3), some (.iload_n 3), some (.bipush 6), none, some (.if_icmp .ge 58), none, none, some (.aload_n 0), some (.getfield 30), none, none, some (.iload_n 1), some .aaload, some (.getfield 197), none, none, some (.aload_n 0), some (.getfield 53), none, none, some (.invokevirtual 201), none, none, some (.astore 4), none, some (.aload 4), none, some (.ifnonnull 6), none, none, some (.goto 32), none, none, some (.iinc 2 1), none, none, some (.aload_n 0), some (.getfield 49), none, none, some (.aload 4), none, some (.iload_n 1), some (.aload_n 0), some (.getfield 30), none, none, some (.iload_n 1), some .aaload, some (.aload_n 0), some (.getfield 53), none, none, some (.invokevirtual 204), none, none, some (.iinc 3 1), none, none, some (.goto (-58)), none, none, some (.iload_n 2), some .ireturn]
/-- SubflowBundle$Pipe.takeDue(I)LSubflowBundle$Copy; -/
def pT39 : List (Option Instr) := [some (.iconst 0), some (.istore_n 2), some (.iload_n 2), some (.aload_n 0), some (.getfield 18), none, none, some (.if_icmp .ge 28), none, none, some (.aload_n 0), some (.getfield 11), none, none, some (.iload_n 2), some .aaload, some (.getfield 22), none, none, some (.iload_n 1), some (.if_icmp .ne 9), none, none, some (.aload_n 0), some (.iload_n 2), some (.invokevirtual 29), none, none, some .areturn, some (.iinc 2 1), none, none, some (.goto (-30)), none, none, some .aconst_null, some .areturn]
/-- SubflowBundle$Pipe.takeOut(I)LSubflowBundle$Copy; -/
def pT40 : List (Option Instr) := [some (.aload_n 0), some (.iload_n 1), some (.invokevirtual 25), none, none, some (.astore_n 2), some (.aload_n 2), some (.ifnonnull 5), none, none, some .aconst_null, some .areturn, some (.iload_n 1), some (.iconst 1), some .iadd, some (.istore_n 3), some (.iload_n 3), some (.aload_n 0), some (.getfield 18), none, none, some (.if_icmp .ge 23), none, none, some (.aload_n 0), some (.getfield 11), none, none, some (.iload_n 3), some (.iconst 1), some .isub, some (.aload_n 0), some (.getfield 11), none, none, some (.iload_n 3), some .aaload, some .aastore, some (.iinc 3 1), none, none, some (.goto (-25)), none, none, some (.aload_n 0), some .dup, some (.getfield 18), none, none, some (.iconst 1), some .isub, some (.putfield 18), none, none, some (.aload_n 0), some (.getfield 11), none, none, some (.aload_n 0), some (.getfield 18), none, none, some (.aload_n 2), some .aastore, some (.aload_n 2), some .areturn]
/-- SubflowBundle$Pipe.copyAt(I)LSubflowBundle$Copy; -/
def pT41 : List (Option Instr) := [some (.iload_n 1), some (.ifCond .lt 20), none, none, some (.iload_n 1), some (.aload_n 0), some (.getfield 18), none, none, some (.if_icmp .ge 12), none, none, some (.aload_n 0), some (.getfield 11), none, none, some (.iload_n 1), some .aaload, some (.goto 4), none, none, some .aconst_null, some .areturn]
/-- SubflowBundle$HostB.hear(LSubflowBundle$Copy;ILSubflowBundle$Path;I)V -/
def pT42 : List (Option Instr) := [some (.aload_n 0), some (.getfield 11), none, none, some (.iload_n 2), some .aaload, some (.astore 5), none, some (.aload_n 1), some (.getfield 33), none, none, some (.iconst 1), some (.if_icmp .ne 13), none, none, some (.aload_n 0), some (.aload_n 1), some (.aload 5), none, some (.invokevirtual 38), none, none, some (.goto 52), none, none, some (.aload 5), none, some (.getfield 42), none, none, some (.ifCond .ne 44), none, none, some (.aload_n 0), some (.getfield 45), none, none, some (.ifCond .eq 25), none, none, some (.aload_n 1), some (.getfield 49), none, none, some (.aload_n 0), some (.getfield 29), none, none, some (.if_icmp .eq 14), none, none, some (.aload_n 0), some (.aload_n 3), some (.iconst 3), some (.aload 5), none, some (.iload 4), none, some (.invokevirtual 52), none, none, some .return_, some (.aload_n 0), some (.iconst 1), some (.putfield 45), none, none, some (.aload 5), none, some (.iconst 0), some (.iconst 1), some (.invokevirtual 56), none, none, some (.aload_n 0), some (.aload_n 3), some (.iconst 2), some (.aload 5), none, some (.iload 4), none, some (.invokevirtual 52), none, none, some .return_]
/-- SubflowBundle$HostB.hearData(LSubflowBundle$Copy;LSubflowBundle$Arrivals;)V -/
def pT43 : List (Option Instr) := [some (.aload_n 1), some (.getfield 49), none, none, some (.aload_n 1), some (.getfield 60), none, none, some .iadd, some (.istore_n 3), some (.aload_n 2), some (.aload_n 1), some (.getfield 63), none, none, some (.invokevirtual 66), none, none, some (.ifCond .ne 11), none, none, some (.iload_n 3), some (.aload_n 0), some (.invokevirtual 70), none, none, some (.if_icmp .le 4), none, none, some .return_, some (.aload_n 2), some (.aload_n 1), some (.getfield 63), none, none, some (.aload_n 1), some (.getfield 60), none, none, some (.invokevirtual 56), none, none, some (.aload_n 1), some (.getfield 49), none, none, some (.istore 4), none, some (.iload 4), none, some (.iload_n 3), some (.if_icmp .ge 25), none, none, some (.iload 4), none, some (.sipush 401), none, none, some (.if_icmp .ge 17), none, none, some (.aload_n 0), some (.getfield 17), none, none, some (.iload 4), none, some (.iconst 1), some .bastore, some (.iinc 4 1), none, none, some (.goto (-25)), none, none, some (.aload_n 0), some (.getfield 74), none, none, some (.sipush 401), none, none, some (.if_icmp .ge 28), none, none, some (.aload_n 0), some (.getfield 17), none, none, some (.aload_n 0), some (.getfield 74), none, none, some .baload, some (.ifCond .eq 16), none, none, some (.aload_n 0), some .dup, some (.getfield 74), none, none, some (.iconst 1), some .iadd, some (.putfield 74), none, none, some (.goto (-32)), none, none, some .return_]
/-- SubflowBundle$Arrivals.took(I)Z -/
def pT44 : List (Option Instr) := [some (.iload_n 1), some (.ifCond .lt 19), none, none, some (.iload_n 1), some (.sipush 402), none, none, some (.if_icmp .ge 12), none, none, some (.aload_n 0), some (.getfield 9), none, none, some (.iload_n 1), some .baload, some (.ifCond .eq 7), none, none, some (.iconst 1), some (.goto 4), none, none, some (.iconst 0), some .ireturn]
/-- SubflowBundle$HostB.limit()I -/
def pT45 : List (Option Instr) := [some (.aload_n 0), some (.getfield 77), none, none, some (.aload_n 0), some (.getfield 25), none, none, some .iadd, some .ireturn]
/-- SubflowBundle$Arrivals.take(II)V -/
def pT46 : List (Option Instr) := [some (.iload_n 1), some (.istore_n 3), some (.iload_n 3), some (.iload_n 1), some (.iload_n 2), some .iadd, some (.if_icmp .ge 23), none, none, some (.iload_n 3), some (.sipush 402), none, none, some (.if_icmp .ge 16), none, none, some (.aload_n 0), some (.getfield 9), none, none, some (.iload_n 3), some (.iconst 1), some .bastore, some (.iinc 3 1), none, none, some (.goto (-24)), none, none, some (.aload_n 0), some (.getfield 15), none, none, some (.sipush 402), none, none, some (.if_icmp .ge 28), none, none, some (.aload_n 0), some (.getfield 9), none, none, some (.aload_n 0), some (.getfield 15), none, none, some .baload, some (.ifCond .eq 16), none, none, some (.aload_n 0), some .dup, some (.getfield 15), none, none, some (.iconst 1), some .iadd, some (.putfield 15), none, none, some (.goto (-32)), none, none, some .return_]
/-- SubflowBundle$HostB.answer(LSubflowBundle$Path;ILSubflowBundle$Arrivals;I)V -/
def pT47 : List (Option Instr) := [some (.aload_n 1), some (.iconst 1), some (.iload 4), none, some (.invokevirtual 80), none, none, some (.astore 5), none, some (.aload 5), none, some (.ifnonnull 4), none, none, some .return_, some (.iload_n 2), some (.iconst 3), some (.if_icmp .ne 16), none, none, some (.aload 5), none, some (.iconst 3), some (.iconst 0), some (.iconst 0), some (.iconst 0), some (.iconst 0), some (.invokevirtual 86), none, none, some (.goto 22), none, none, some (.aload 5), none, some (.iconst 2), some (.iconst 0), some (.aload_n 3), some (.getfield 42), none, none, some (.aload_n 0), some (.getfield 74), none, none, some (.aload_n 0), some (.invokevirtual 70), none, none, some (.invokevirtual 86), none, none, some .return_]
/-- SubflowBundle.deliverBack(I)I -/
def pT48 : List (Option Instr) := [some (.iconst 0), some (.istore_n 2), some (.iconst 0), some (.istore_n 3), some (.iload_n 3), some (.bipush 6), none, some (.if_icmp .ge 57), none, none, some (.aload_n 0), some (.getfield 30), none, none, some (.iload_n 1), some .aaload, some (.getfield 208), none, none, some (.aload_n 0), some (.getfield 53), none, none, some (.invokevirtual 201), none, none, some (.astore 4), none, some (.aload 4), none, some (.ifnonnull 6), none, none, some (.goto 31), none, none, some (.iinc 2 1), none, none, some (.aload_n 0), some (.getfield 40), none, none, some (.aload 4), none, some (.aload_n 0), some (.getfield 30), none, none, some (.iload_n 1), some .aaload, some (.aload_n 0), some (.getfield 53), none, none, some (.invokevirtual 211), none, none, some (.iinc 3 1), none, none, some (.goto (-57)), none, none, some (.iload_n 2), some .ireturn]
/-- SubflowBundle$HostA.hear(LSubflowBundle$Copy;LSubflowBundle$Path;I)V -/
def pT49 : List (Option Instr) := [some (.aload_n 1), some (.getfield 49), none, none, some (.iconst 3), some (.if_icmp .ne 8), none, none, some (.aload_n 2), some (.invokevirtual 54), none, none, some .return_, some (.aload_n 0), some (.aload_n 0), some (.getfield 57), none, none, some (.aload_n 1), some (.getfield 60), none, none, some (.invokestatic 63), none, none, some (.putfield 57), none, none, some (.aload_n 0), some (.aload_n 0), some (.getfield 30), none, none, some (.aload_n 1), some (.getfield 69), none, none, some (.invokestatic 63), none, none, some (.putfield 30), none, none, some (.aload_n 0), some (.aload_n 2), some (.aload_n 1), some (.getfield 72), none, none, some (.invokevirtual 75), none, none, some (.astore 4), none, some (.aload 4), none, some (.ifnonnull 4), none, none, some .return_, some (.aload 4), none, some (.getfield 79), none, none, some (.iconst 1), some (.if_icmp .ne 14), none, none, some (.aload_n 2), some (.iload_n 3), some (.aload 4), none, some (.getfield 84), none, none, some .isub, some (.invokevirtual 87), none, none, some (.aload_n 2), some (.iconst 2), some (.putfield 33), none, none, some (.aload_n 0), some (.iconst 1), some (.putfield 91), none, none, some (.aload_n 2), some (.aload_n 2), some (.getfield 95), none, none, some (.ifCond .ne 7), none, none, some (.iconst (-1)), some (.goto 9), none, none, some (.iload_n 3), some (.aload_n 2), some (.getfield 98), none, none, some .iadd, some (.putfield 101), none, none, some .return_]
/-- SubflowBundle$HostA.settleBelow(LSubflowBundle$Path;I)LSubflowBundle$Segment; -/
def pT50 : List (Option Instr) := [some .aconst_null, some (.astore_n 3), some (.iconst 0), some (.istore 4), none, some (.iload 4), none, some (.iconst 3), some (.if_icmp .ge 72), none, none, some (.aload_n 1), some (.iload_n 2), some (.invokevirtual 104), none, none, some (.astore 5), none, some (.aload 5), none, some (.ifnonnull 6), none, none, some (.goto 57), none, none, some (.aload 5), none, some (.getfield 108), none, none, some (.istore 6), none, some (.iload 6), none, some (.aload 5), none, some (.getfield 108), none, none, some (.aload 5), none, some (.getfield 111), none, none, some .iadd, some (.if_icmp .ge 25), none, none, some (.iload 6), none, some (.sipush 401), none, none, some (.if_icmp .ge 17), none, none, some (.aload_n 0), some (.getfield 9), none, none, some (.iload 6), none, some (.iconst 1), some .bastore, some (.iinc 6 1), none, none, some (.goto (-35)), none, none, some (.aload 5), none, some (.astore_n 3), some (.iinc 4 1), none, none, some (.goto (-72)), none, none, some (.aload_n 3), some .areturn]
/-- SubflowBundle$Path.takeBelow(I)LSubflowBundle$Segment; -/
def pT51 : List (Option Instr) := [some (.aload_n 0), some (.getfield 49), none, none, some (.ifCond .eq 26), none, none, some (.aload_n 0), some (.getfield 23), none, none, some (.iconst 0), some .aaload, some (.getfield 63), none, none, some (.aload_n 0), some (.getfield 23), none, none, some (.iconst 0), some .aaload, some (.getfield 66), none, none, some .iadd, some (.iload_n 1), some (.if_icmp .le 5), none, none, some .aconst_null, some .areturn, some (.aload_n 0), some (.getfield 23), none, none, some (.iconst 0), some .aaload, some (.astore_n 2), some (.iconst 1), some (.istore_n 3), some (.iload_n 3), some (.aload_n 0), some (.getfield 49), none, none, some (.if_icmp .ge 23), none, none, some (.aload_n 0), some (.getfield 23), none, none, some (.iload_n 3), some (.iconst 1), some .isub, some (.aload_n 0), some (.getfield 23), none, none, some (.iload_n 3), some .aaload, some .aastore, some (.iinc 3 1), none, none, some (.goto (-25)), none, none, some (.aload_n 0), some .dup, some (.getfield 49), none, none, some (.iconst 1), some .isub, some (.putfield 49), none, none, some (.aload_n 0), some (.getfield 23), none, none, some (.aload_n 0), some (.getfield 49), none, none, some (.aload_n 2), some .aastore, some (.aload_n 2), some .areturn]
/-- SubflowBundle$Path.measure(I)V -/
def pT52 : List (Option Instr) := [some (.aload_n 0), some (.getfield 75), none, none, some (.ifCond .eq 52), none, none, some (.aload_n 0), some (.aload_n 0), some (.getfield 79), none, none, some (.aload_n 0), some (.getfield 79), none, none, some (.iconst 4), some .idiv, some .isub, some (.aload_n 0), some (.getfield 82), none, none, some (.bipush 8), none, some .idiv, some (.iload_n 1), some .isub, some (.invokestatic 85), none, none, some .iadd, some (.putfield 79), none, none, some (.aload_n 0), some (.aload_n 0), some (.getfield 82), none, none, some (.aload_n 0), some (.getfield 82), none, none, some (.bipush 8), none, some .idiv, some .isub, some (.iload_n 1), some .iadd, some (.putfield 82), none, none, some (.goto 23), none, none, some (.aload_n 0), some (.bipush 8), none, some (.iload_n 1), some .imul, some (.putfield 82), none, none, some (.aload_n 0), some (.iconst 2), some (.iload_n 1), some .imul, some (.putfield 79), none, none, some (.aload_n 0), some (.iconst 1), some (.putfield 75), none, none, some (.aload_n 0), some (.aload_n 0), some (.getfield 82), none, none, some (.bipush 8), none, some .idiv, some (.aload_n 0), some (.getfield 79), none, none, some .iadd, some (.bipush 6), none, some (.bipush 120), none, some (.invokestatic 91), none, none, some (.putfield 31), none, none, some .return_]
/-- SubflowBundle$HostA.ring(LSubflowBundle$Path;I)V -/
def pT53 : List (Option Instr) := [some (.aload_n 1), some (.iconst 2), some (.aload_n 1), some (.getfield 98), none, none, some .imul, some (.bipush 120), none, some (.invokestatic 114), none, none, some (.putfield 98), none, none, some (.aload_n 1), some (.iload_n 2), some (.aload_n 1), some (.getfield 98), none, none, some .iadd, some (.putfield 101), none, none, some (.aload_n 1), some (.getfield 33), none, none, some (.iconst 2), some (.if_icmp .ne 8), none, none, some (.aload_n 1), some (.iconst 3), some (.putfield 33), none, none, some (.aload_n 1), some (.getfield 95), none, none, some (.ifCond .le 15), none, none, some (.aload_n 0), some (.aload_n 1), some (.aload_n 1), some (.getfield 117), none, none, some (.iconst 0), some .aaload, some (.iload_n 2), some (.invokevirtual 121), none, none, some .return_]
/-- SubflowBundle$HostA.sendAll(I)V -/
def pT54 : List (Option Instr) := [some (.aload_n 0), some (.invokevirtual 124), none, none, some (.ifCond .eq 7), none, none, some (.iconst 2), some (.goto 4), none, none, some (.iconst 3), some (.istore_n 2), some (.iconst 0), some (.istore_n 3), some (.iload_n 3), some (.bipush 12), none, some (.if_icmp .ge 35), none, none, some (.aload_n 0), some (.iload_n 2), some (.invokevirtual 128), none, none, some (.astore 4), none, some (.aload 4), none, some (.ifnonnull 4), none, none, some .return_, some (.aload_n 0), some (.aload 4), none, some (.aload_n 0), some (.aload 4), none, some (.invokevirtual 132), none, none, some (.iload_n 1), some (.invokevirtual 45), none, none, some (.iinc 3 1), none, none, some (.goto (-35)), none, none, some .return_]
/-- SubflowBundle$HostA.isAnyOpen()Z -/
def pT55 : List (Option Instr) := [some (.iconst 0), some (.istore_n 1), some (.iload_n 1), some (.iconst 4), some (.if_icmp .ge 24), none, none, some (.aload_n 0), some (.getfield 22), none, none, some (.iload_n 1), some .aaload, some (.getfield 33), none, none, some (.iconst 2), some (.if_icmp .ne 5), none, none, some (.iconst 1), some .ireturn, some (.iinc 1 1), none, none, some (.goto (-23)), none, none, some (.iconst 0), some .ireturn]
/-- SubflowBundle$HostA.quickestThatCan(I)LSubflowBundle$Path; -/
def pT56 : List (Option Instr) := [some .aconst_null, some (.astore_n 2), some (.iconst 0), some (.istore_n 3), some (.iload_n 3), some (.iconst 4), some (.if_icmp .ge 72), none, none, some (.aload_n 0), some (.getfield 22), none, none, some (.iload_n 3), some .aaload, some (.astore 4), none, some (.aload 4), none, some (.getfield 33), none, none, some (.iload_n 1), some (.if_icmp .ne 15), none, none, some (.aload 4), none, some (.invokevirtual 136), none, none, some (.ifCond .eq 7), none, none, some (.iconst 1), some (.goto 4), none, none, some (.iconst 0), some (.istore 5), none, some (.iload 5), none, some (.ifCond .eq 29), none, none, some (.aload_n 2), some (.ifnull 12), none, none, some (.aload 4), none, some (.aload_n 2), some (.invokevirtual 139), none, none, some (.ifCond .eq 16), none, none, some (.aload_n 0), some (.aload 4), none, some (.invokevirtual 143), none, none, some (.iconst (-1)), some (.if_icmp .eq 6), none, none, some (.aload 4), none, some (.astore_n 2), some (.iinc 3 1), none, none, some (.goto (-71)), none, none, some (.aload_n 2), some .areturn]
/-- SubflowBundle$Path.isQuickerThan(LSubflowBundle$Path;)Z -/
def pT57 : List (Option Instr) := [some (.aload_n 0), some (.getfield 75), none, none, some (.ifCond .eq 25), none, none, some (.aload_n 1), some (.getfield 75), none, none, some (.ifCond .eq 14), none, none, some (.aload_n 0), some (.getfield 82), none, none, some (.aload_n 1), some (.getfield 82), none, none, some (.if_icmp .ge 7), none, none, some (.iconst 1), some (.goto 4), none, none, some (.iconst 0), some .ireturn]
/-- SubflowBundle$HostA.firstUnit(LSubflowBundle$Path;)I -/
def pT58 : List (Option Instr) := [some (.aload_n 0), some (.getfield 57), none, none, some (.istore_n 2), some (.iload_n 2), some (.aload_n 0), some (.getfield 18), none, none, some (.getfield 147), none, none, some (.if_icmp .ge 65), none, none, some (.iload_n 2), some (.aload_n 0), some (.getfield 30), none, none, some (.if_icmp .gt 57), none, none, some (.aload_n 0), some (.iload_n 2), some (.aload_n 1), some (.invokevirtual 152), none, none, some (.ifCond .eq 42), none, none, some (.iload_n 2), some (.aload_n 0), some (.getfield 57), none, none, some (.if_icmp .ne 14), none, none, some (.aload_n 1), some (.getfield 95), none, none, some (.ifCond .ne 7), none, none, some (.iconst 1), some (.goto 4), none, none, some (.iconst 0), some (.istore_n 3), some (.iload_n 2), some (.aload_n 0), some (.getfield 30), none, none, some (.if_icmp .lt 7), none, none, some (.iload_n 3), some (.ifCond .eq 7), none, none, some (.iload_n 2), some (.goto 4), none, none, some (.iconst (-1)), some .ireturn, some (.iinc 2 1), none, none, some (.goto (-70)), none, none, some (.iconst (-1)), some .ireturn]
/-- SubflowBundle$HostA.isLoose(ILSubflowBundle$Path;)Z -/
def pT59 : List (Option Instr) := [some (.iload_n 1), some (.aload_n 0), some (.getfield 57), none, none, some (.if_icmp .lt 23), none, none, some (.iload_n 1), some (.aload_n 0), some (.getfield 18), none, none, some (.getfield 147), none, none, some (.if_icmp .ge 12), none, none, some (.aload_n 0), some (.getfield 9), none, none, some (.iload_n 1), some .baload, some (.ifCond .eq 5), none, none, some (.iconst 0), some .ireturn, some (.iconst 0), some (.istore_n 3), some (.iload_n 3), some (.iconst 4), some (.if_icmp .ge 43), none, none, some (.aload_n 0), some (.getfield 22), none, none, some (.iload_n 3), some .aaload, some (.astore 4), none, some (.aload 4), none, some (.aload_n 2), some (.if_acmp .eq 12), none, none, some (.aload 4), none, some (.getfield 33), none, none, some (.iconst 2), some (.if_icmp .ne 14), none, none, some (.aload 4), none, some (.iload_n 1), some (.invokevirtual 156), none, none, some (.ifCond .eq 5), none, none, some (.iconst 0), some .ireturn, some (.iinc 3 1), none, none, some (.goto (-42)), none, none, some (.iconst 1), some .ireturn]
/-- SubflowBundle$Path.bears(I)Z -/
def pT60 : List (Option Instr) := [some (.iconst 0), some (.istore_n 2), some (.iload_n 2), some (.aload_n 0), some (.getfield 49), none, none, some (.if_icmp .ge 39), none, none, some (.aload_n 0), some (.getfield 23), none, none, some (.iload_n 2), some .aaload, some (.astore_n 3), some (.iload_n 1), some (.aload_n 3), some (.getfield 69), none, none, some (.if_icmp .lt 18), none, none, some (.iload_n 1), some (.aload_n 3), some (.getfield 69), none, none, some (.aload_n 3), some (.getfield 72), none, none, some .iadd, some (.if_icmp .ge 5), none, none, some (.iconst 1), some .ireturn, some (.iinc 2 1), none, none, some (.goto (-41)), none, none, some (.iconst 0), some .ireturn]
/-- SubflowBundle$HostA.nextSegment(LSubflowBundle$Path;)LSubflowBundle$Segment; -/
def pT61 : List (Option Instr) := [some (.aload_n 0), some (.aload_n 1), some (.invokevirtual 143), none, none, some (.istore_n 2), some (.iload_n 2), some (.iconst (-1)), some (.if_icmp .ne 5), none, none, some .aconst_null, some .areturn, some (.iconst 1), some (.istore_n 3), some (.iload_n 3), some (.aload_n 0), some (.getfield 26), none, none, some (.if_icmp .ge 30), none, none, some (.iload_n 2), some (.iload_n 3), some .iadd, some (.aload_n 0), some (.getfield 30), none, none, some (.if_icmp .ge 20), none, none, some (.aload_n 0), some (.iload_n 2), some (.iload_n 3), some .iadd, some (.aload_n 1), some (.invokevirtual 152), none, none, some (.ifCond .eq 9), none, none, some (.iinc 3 1), none, none, some (.goto (-32)), none, none, some (.aload_n 0), some (.iload_n 2), some (.iload_n 3), some (.invokevirtual 160), none, none, some (.aload_n 1), some (.iload_n 3), some (.iload_n 2), some (.iload_n 3), some (.invokevirtual 41), none, none, some .areturn]
/-- SubflowBundle$HostA.countCarried(II)V -/
def pT62 : List (Option Instr) := [some (.iload_n 1), some (.istore_n 3), some (.iload_n 3), some (.iload_n 1), some (.iload_n 2), some .iadd, some (.if_icmp .ge 42), none, none, some (.iload_n 3), some (.sipush 401), none, none, some (.if_icmp .ge 35), none, none, some (.aload_n 0), some (.getfield 15), none, none, some (.iload_n 3), some .baload, some (.ifCond .eq 13), none, none, some (.aload_n 0), some .dup, some (.getfield 164), none, none, some (.iconst 1), some .iadd, some (.putfield 164), none, none, some (.aload_n 0), some (.getfield 15), none, none, some (.iload_n 3), some (.iconst 1), some .bastore, some (.iinc 3 1), none, none, some (.goto (-43)), none, none, some .return_]
/-- SubflowBundle.delay(II)Z -/
def pT63 : List (Option Instr) := [some (.aload_n 0), some (.iload_n 1), some (.invokevirtual 77), none, none, some (.ifCond .eq 13), none, none, some (.iload_n 2), some (.ifCond .lt 9), none, none, some (.iload_n 2), some (.bipush 40), none, some (.if_icmp .le 5), none, none, some (.iconst 0), some .ireturn, some (.aload_n 0), some (.getfield 30), none, none, some (.iload_n 1), some .aaload, some (.iload_n 2), some (.putfield 70), none, none, some (.iconst 1), some .ireturn]
/-- SubflowBundle.lose(IZI)Z -/
def pT64 : List (Option Instr) := [some (.iload_n 1), some (.invokestatic 56), none, none, some (.ifCond .eq 24), none, none, some (.aload_n 0), some (.getfield 30), none, none, some (.iload_n 1), some .aaload, some (.iload_n 2), some (.invokevirtual 98), none, none, some (.iload_n 3), some (.invokevirtual 102), none, none, some (.ifnull 7), none, none, some (.iconst 1), some (.goto 4), none, none, some (.iconst 0), some .ireturn]
/-- SubflowBundle.twice(IZII)Z -/
def pT65 : List (Option Instr) := [some (.iload_n 1), some (.invokestatic 56), none, none, some (.ifCond .eq 16), none, none, some (.iload 4), none, some (.iconst 1), some (.if_icmp .lt 10), none, none, some (.iload 4), none, some (.bipush 40), none, some (.if_icmp .le 5), none, none, some (.iconst 0), some .ireturn, some (.aload_n 0), some (.getfield 30), none, none, some (.iload_n 1), some .aaload, some (.iload_n 2), some (.invokevirtual 98), none, none, some (.astore 5), none, some (.aload 5), none, some (.iload_n 3), some (.invokevirtual 108), none, none, some (.astore 6), none, some (.aload 6), none, some (.ifnonnull 5), none, none, some (.iconst 0), some .ireturn, some (.aload 5), none, some (.aload_n 0), some (.getfield 53), none, none, some (.iload 4), none, some .iadd, some (.invokevirtual 111), none, none, some (.astore 7), none, some (.aload 7), none, some (.ifnonnull 5), none, none, some (.iconst 0), some .ireturn, some (.aload 7), none, some (.aload 6), none, some (.getfield 113), none, none, some (.aload 6), none, some (.getfield 118), none, none, some (.aload 6), none, some (.getfield 121), none, none, some (.aload 6), none, some (.getfield 124), none, none, some (.aload 6), none, some (.getfield 127), none, none, some (.invokevirtual 130), none, none, some (.iconst 1), some .ireturn]
/-- SubflowBundle.flight(IZ)I -/
def pT66 : List (Option Instr) := [some (.iload_n 1), some (.invokestatic 56), none, none, some (.ifCond .eq 19), none, none, some (.aload_n 0), some (.getfield 30), none, none, some (.iload_n 1), some .aaload, some (.iload_n 2), some (.invokevirtual 98), none, none, some (.getfield 134), none, none, some (.goto 4), none, none, some (.iconst (-1)), some .ireturn]
/-- SubflowBundle.word(IZII)I -/
def pT67 : List (Option Instr) := [some (.iload_n 1), some (.invokestatic 56), none, none, some (.ifCond .ne 5), none, none, some (.iconst 0), some .ireturn, some (.aload_n 0), some (.getfield 30), none, none, some (.iload_n 1), some .aaload, some (.iload_n 2), some (.invokevirtual 98), none, none, some (.iload_n 3), some (.invokevirtual 108), none, none, some (.astore 5), none, some (.aload 5), none, some (.ifnonnull 5), none, none, some (.iconst 0), some .ireturn, some (.iload 4), none, some (.tableswitch 56 0 3 #[30, 38, 44, 50]), none, none, none, none, none, none, none, none, none, none, none, none, none, none, none, none, none, none, none, none, none, none, none, none, none, none, none, none, none, some (.aload_n 0), some (.aload 5), none, some (.iload_n 1), some (.invokevirtual 137), none, none, some .ireturn, some (.aload 5), none, some (.getfield 121), none, none, some .ireturn, some (.aload 5), none, some (.getfield 124), none, none, some .ireturn, some (.aload 5), none, some (.getfield 127), none, none, some .ireturn, some (.iconst 0), some .ireturn]
/-- SubflowBundle.headOf(LSubflowBundle$Copy;I)I -/
def pT68 : List (Option Instr) := [some (.aload_n 1), some (.getfield 113), none, none, some (.bipush 14), none, some .ishl, some (.iload_n 2), some (.bipush 12), none, some .ishl, some .ior, some (.aload_n 1), some (.getfield 118), none, none, some .ior, some (.istore_n 3), some (.iload_n 3), some (.aload_n 1), some (.getfield 121), none, none, some (.invokestatic 214), none, none, some .iadd, some (.aload_n 1), some (.getfield 124), none, none, some (.invokestatic 214), none, none, some .iadd, some (.aload_n 1), some (.getfield 127), none, none, some (.invokestatic 214), none, none, some .iadd, some (.istore 4), none, some (.iconst 0), some (.istore 5), none, some (.iload 5), none, some (.aload_n 1), some (.getfield 118), none, none, some (.if_icmp .ge 28), none, none, some (.iload 4), none, some (.aload_n 0), some (.getfield 24), none, none, some (.aload_n 1), some (.getfield 124), none, none, some (.iload 5), none, some .iadd, some (.invokevirtual 217), none, none, some .iadd, some (.istore 4), none, some (.iinc 5 1), none, none, some (.goto (-31)), none, none, some (.iconst 0), some (.istore 5), none, some (.iload 5), none, some (.iconst 4), some (.if_icmp .ge 29), none, none, some (.iload 4), none, some (.ldc 220), none, some (.if_icmp .le 22), none, none, some (.iload 4), none, some (.ldc 221), none, some .irem, some (.iload 4), none, some (.ldc 221), none, some .idiv, some .iadd, some (.istore 4), none, some (.iinc 5 1), none, none, some (.goto (-29)), none, none, some (.iload_n 3), some (.bipush 16), none, some .ishl, some (.ldc 220), none, some (.iload 4), none, some .isub, some .ior, some .ireturn]
/-- SubflowBundle.halves(I)I -/
def pT69 : List (Option Instr) := [some (.iload_n 0), some (.bipush 16), none, some .iushr, some (.iload_n 0), some (.ldc 220), none, some .iand, some .iadd, some .ireturn]
/-- SubflowBundle.state(I)I -/
def pT70 : List (Option Instr) := [some (.iload_n 1), some (.invokestatic 56), none, none, some (.ifCond .eq 15), none, none, some (.aload_n 0), some (.getfield 30), none, none, some (.iload_n 1), some .aaload, some (.getfield 60), none, none, some (.goto 4), none, none, some (.iconst (-1)), some .ireturn]
/-- SubflowBundle.smooth(I)I -/
def pT71 : List (Option Instr) := [some (.iload_n 1), some (.invokestatic 56), none, none, some (.ifCond .eq 27), none, none, some (.aload_n 0), some (.getfield 30), none, none, some (.iload_n 1), some .aaload, some (.getfield 141), none, none, some (.ifCond .eq 15), none, none, some (.aload_n 0), some (.getfield 30), none, none, some (.iload_n 1), some .aaload, some (.getfield 144), none, none, some (.goto 4), none, none, some (.iconst (-1)), some .ireturn]
/-- SubflowBundle.timeout(I)I -/
def pT72 : List (Option Instr) := [some (.iload_n 1), some (.invokestatic 56), none, none, some (.ifCond .eq 15), none, none, some (.aload_n 0), some (.getfield 30), none, none, some (.iload_n 1), some .aaload, some (.getfield 147), none, none, some (.goto 4), none, none, some (.iconst (-1)), some .ireturn]
/-- SubflowBundle.unacked(I)I -/
def pT73 : List (Option Instr) := [some (.iload_n 1), some (.invokestatic 56), none, none, some (.ifCond .eq 15), none, none, some (.aload_n 0), some (.getfield 30), none, none, some (.iload_n 1), some .aaload, some (.invokevirtual 150), none, none, some (.goto 4), none, none, some (.iconst (-1)), some .ireturn]
/-- SubflowBundle$Path.unackedNumbers()I -/
def pT74 : List (Option Instr) := [some (.iconst 0), some (.istore_n 1), some (.iconst 0), some (.istore_n 2), some (.iload_n 2), some (.aload_n 0), some (.getfield 49), none, none, some (.if_icmp .ge 21), none, none, some (.iload_n 1), some (.aload_n 0), some (.getfield 23), none, none, some (.iload_n 2), some .aaload, some (.getfield 66), none, none, some .iadd, some (.istore_n 1), some (.iinc 2 1), none, none, some (.goto (-23)), none, none, some (.iload_n 1), some .ireturn]
/-- SubflowBundle.acknowledged()I -/
def pT75 : List (Option Instr) := [some (.aload_n 0), some (.getfield 40), none, none, some (.getfield 153), none, none, some .ireturn]
/-- SubflowBundle.received()I -/
def pT76 : List (Option Instr) := [some (.aload_n 0), some (.getfield 49), none, none, some (.getfield 156), none, none, some .ireturn]
/-- SubflowBundle.sent(I)I -/
def pT77 : List (Option Instr) := [some (.iload_n 1), some (.invokestatic 56), none, none, some (.ifCond .eq 15), none, none, some (.aload_n 0), some (.getfield 30), none, none, some (.iload_n 1), some .aaload, some (.getfield 159), none, none, some (.goto 4), none, none, some (.iconst (-1)), some .ireturn]
/-- SubflowBundle.reinjected()I -/
def pT78 : List (Option Instr) := [some (.aload_n 0), some (.getfield 40), none, none, some (.getfield 162), none, none, some .ireturn]
/-- SubflowBundle.token()I -/
def pT79 : List (Option Instr) := [some (.aload_n 0), some (.getfield 17), none, none, some .ireturn]
/-- SubflowBundleLaw.cell([II)I -/
def pT80 : List (Option Instr) := [some (.iload_n 1), some (.aload_n 0), some .arraylength, some (.if_icmp .ge 9), none, none, some (.aload_n 0), some (.iload_n 1), some .iaload, some (.goto 4), none, none, some (.iconst 0), some .ireturn]
/-- SubflowBundleModel.<init>(III)V -/
def pT81 : List (Option Instr) := [some (.aload_n 0), some (.invokespecial 1), none, none, some (.aload_n 0), some (.sipush 400), none, none, some (.newarray .int), none, some (.putfield 7), none, none, some (.aload_n 0), some (.sipush 1608), none, none, some (.newarray .boolean), none, some (.putfield 13), none, none, some (.aload_n 0), some (.sipush 401), none, none, some (.newarray .boolean), none, some (.putfield 17), none, none, some (.aload_n 0), some (.iconst 4), some (.newarray .int), none, some (.putfield 20), none, none, some (.aload_n 0), some (.iconst 4), some (.newarray .int), none, some (.putfield 23), none, none, some (.aload_n 0), some (.iconst 4), some (.newarray .int), none, some (.putfield 26), none, none, some (.aload_n 0), some (.iconst 4), some (.newarray .int), none, some (.putfield 29), none, none, some (.aload_n 0), some (.iconst 4), some (.newarray .int), none, some (.putfield 32), none, none, some (.aload_n 0), some (.iconst 4), some (.newarray .boolean), none, some (.putfield 35), none, none, some (.aload_n 0), some (.iconst 4), some (.newarray .int), none, some (.putfield 38), none, none, some (.aload_n 0), some (.iconst 4), some (.newarray .int), none, some (.putfield 41), none, none, some (.aload_n 0), some (.iconst 4), some (.newarray .int), none, some (.putfield 44), none, none, some (.aload_n 0), some (.iconst 4), some (.newarray .int), none, some (.putfield 47), none, none, some (.aload_n 0), some (.iconst 4), some (.newarray .int), none, some (.putfield 50), none, none, some (.aload_n 0), some (.sipush 1608), none, none, some (.newarray .int), none, some (.putfield 53), none, none, some (.aload_n 0), some (.sipush 1608), none, none, some (.newarray .int), none, some (.putfield 56), none, none, some (.aload_n 0), some (.sipush 1608), none, none, some (.newarray .int), none, some (.putfield 59), none, none, some (.aload_n 0), some (.sipush 1608), none, none, some (.newarray .int), none, some (.putfield 62), none, none, some (.aload_n 0), some (.sipush 1608), none, none, some (.newarray .int), none, some (.putfield 65), none, none, some (.aload_n 0), some (.sipush 401), none, none, some (.newarray .boolean), none, some (.putfield 68), none, none, some (.aload_n 0), some (.bipush 8), none, some (.newarray .int), none, some (.putfield 71), none, none, some (.aload_n 0), some (.bipush 48), none, some (.newarray .int), none, some (.putfield 74), none, none, some (.aload_n 0), some (.bipush 48), none, some (.newarray .int), none, some (.putfield 77), none, none, some (.aload_n 0), some (.bipush 48), none, some (.newarray .int), none, some (.putfield 80), none, none, some (.aload_n 0), some (.bipush 48), none, some (.newarray .int), none, some (.putfield 83), none, none, some (.aload_n 0), some (.bipush 48), none, some (.newarray .int), none, some (.putfield 86), none, none, some (.aload_n 0), some (.bipush 48), none, some (.newarray .int), none, some (.putfield 89), none, none, some (.aload_n 0), some (.iload_n 1), some (.iconst 1), some (.if_icmp .ge 7), none, none, some (.iconst 1), some (.goto 15), none, none, some (.iload_n 1), some (.bipush 7), none, some (.if_icmp .le 8), none, none, some (.bipush 7), none, some (.goto 4), none, none, some (.iload_n 1), some (.putfield 92), none, none, some (.aload_n 0), some (.iload_n 2), some (.iconst 4), some (.if_icmp .ge 7), none, none, some (.iconst 4), some (.goto 15), none, none, some (.iload_n 2), some (.bipush 56), none, some (.if_icmp .le 8), none, none, some (.bipush 56), none, some (.goto 4), none, none, some (.iload_n 2), some (.putfield 96), none, none, some (.iload_n 3), some (.bipush 7), none, some .ishl, some (.iload_n 3), some (.bipush 25), none, some .iushr, some .ior, some (.ldc 99), none, some .imul, some (.ldc 100), none, some .iadd, some (.istore 4), none, some (.aload_n 0), some (.iload 4), none, some (.iload 4), none, some (.bipush 16), none, some .iushr, some .ixor, some (.putfield 101), none, none, some (.aload_n 0), some (.aload_n 0), some (.getfield 96), none, none, some (.putfield 104), none, none, some (.iconst 0), some (.istore 5), none, some (.iload 5), none, some (.iconst 4), some (.if_icmp .ge 18), none, none, some (.aload_n 0), some (.getfield 29), none, none, some (.iload 5), none, some (.bipush 16), none, some .iastore, some (.iinc 5 1), none, none, some (.goto (-18)), none, none, some .return_]
/-- SubflowBundleModel.open(III)Z -/
def pT82 : List (Option Instr) := [some (.iconst 0), some (.istore 4), none, some (.iconst 0), some (.istore 5), none, some (.iload 5), none, some (.iconst 4), some (.if_icmp .ge 39), none, none, some (.iload 4), none, some (.ifCond .ne 21), none, none, some (.aload_n 0), some (.getfield 20), none, none, some (.iload 5), none, some .iaload, some (.iconst 1), some (.if_icmp .ne 14), none, none, some (.aload_n 0), some (.getfield 129), none, none, some (.ifCond .ne 7), none, none, some (.iconst 1), some (.goto 4), none, none, some (.iconst 0), some (.istore 4), none, some (.iinc 5 1), none, none, some (.goto (-39)), none, none, some (.iload_n 1), some (.invokestatic 114), none, none, some (.ifCond .eq 19), none, none, some (.iload 4), none, some (.ifCond .ne 14), none, none, some (.iload_n 2), some (.iconst 1), some (.if_icmp .lt 9), none, none, some (.iload_n 2), some (.bipush 40), none, some (.if_icmp .le 5), none, none, some (.iconst 0), some .ireturn, some (.aload_n 0), some (.getfield 20), none, none, some (.iload_n 1), some .iaload, some (.ifCond .eq 5), none, none, some (.iconst 0), some .ireturn, some (.aload_n 0), some (.getfield 20), none, none, some (.iload_n 1), some (.iconst 1), some .iastore, some (.aload_n 0), some (.getfield 23), none, none, some (.iload_n 1), some (.iload_n 2), some .iastore, some (.aload_n 0), some (.getfield 26), none, none, some (.iload_n 1), some (.iload_n 3), some .iastore, some (.aload_n 0), some (.iload_n 1), some (.iconst (-1)), some (.iconst 1), some (.invokevirtual 132), none, none, some (.iconst 1), some .ireturn]
/-- SubflowBundleModel.path(I)Z -/
def pT83 : List (Option Instr) := [some (.iload_n 0), some (.ifCond .lt 12), none, none, some (.iload_n 0), some (.iconst 4), some (.if_icmp .ge 7), none, none, some (.iconst 1), some (.goto 4), none, none, some (.iconst 0), some .ireturn]
/-- SubflowBundleModel.begin(III)V -/
def pT84 : List (Option Instr) := [some (.aload_n 0), some (.getfield 47), none, none, some (.iload_n 1), some .iaload, some (.istore 4), none, some (.sipush 402), none, none, some (.iload_n 1), some .imul, some (.iload 4), none, some .iadd, some (.istore 5), none, some (.aload_n 0), some (.getfield 56), none, none, some (.iload 5), none, some (.iload_n 3), some .iastore, some (.aload_n 0), some (.getfield 59), none, none, some (.iload 5), none, some (.aload_n 0), some (.getfield 107), none, none, some .iastore, some (.iconst 0), some (.istore 6), none, some (.iload 6), none, some (.iload_n 3), some (.if_icmp .ge 86), none, none, some (.aload_n 0), some (.getfield 53), none, none, some (.iload 5), none, some (.iload 6), none, some .iadd, some (.iload_n 2), some (.iload 6), none, some .iadd, some .iastore, some (.iload_n 2), some (.ifCond .lt 62), none, none, some (.aload_n 0), some (.aload_n 0), some (.getfield 68), none, none, some (.iload_n 2), some (.iload 6), none, some .iadd, some .baload, some (.ifCond .eq 12), none, none, some (.aload_n 0), some (.getfield 136), none, none, some (.iconst 1), some .iadd, some (.goto 7), none, none, some (.aload_n 0), some (.getfield 136), none, none, some (.putfield 136), none, none, some (.aload_n 0), some (.getfield 68), none, none, some (.iload_n 2), some (.iload 6), none, some .iadd, some (.iconst 1), some .bastore, some (.aload_n 0), some (.getfield 65), none, none, some (.sipush 402), none, none, some (.iload_n 1), some .imul, some (.iload_n 2), some .iadd, some (.iload 6), none, some .iadd, some (.iload 4), none, some (.iload 6), none, some .iadd, some .iastore, some (.iinc 6 1), none, none, some (.goto (-86)), none, none, some (.aload_n 0), some (.getfield 47), none, none, some (.iload_n 1), some (.iload 4), none, some (.iload_n 3), some .iadd, some .iastore, some (.aload_n 0), some (.getfield 32), none, none, some (.iload_n 1), some .iaload, some (.ifCond .ne 20), none, none, some (.aload_n 0), some (.getfield 32), none, none, some (.iload_n 1), some (.aload_n 0), some (.getfield 107), none, none, some (.aload_n 0), some (.getfield 29), none, none, some (.iload_n 1), some .iaload, some .iadd, some .iastore, some (.aload_n 0), some (.iload_n 1), some (.iload 4), none, some (.invokevirtual 139), none, none, some .return_]
/-- SubflowBundleModel.transmit(II)V -/
def pT85 : List (Option Instr) := [some (.sipush 402), none, none, some (.iload_n 1), some .imul, some (.iload_n 2), some .iadd, some (.istore_n 3), some (.aload_n 0), some (.getfield 62), none, none, some (.iload_n 3), some .dup2, some .iaload, some (.iconst 1), some .iadd, some .iastore, some (.aload_n 0), some (.getfield 50), none, none, some (.iload_n 1), some .dup2, some .iaload, some (.iconst 1), some .iadd, some .iastore, some (.iload_n 2), some (.ifCond .ne 23), none, none, some (.aload_n 0), some (.iconst 2), some (.iload_n 1), some .imul, some (.iconst 0), some (.iconst 0), some (.aload_n 0), some (.getfield 26), none, none, some (.iload_n 1), some .iaload, some (.iconst 0), some (.iconst 0), some (.invokevirtual 118), none, none, some (.goto 70), none, none, some (.aload_n 0), some (.getfield 56), none, none, some (.iload_n 3), some .iaload, some (.istore 4), none, some (.aload_n 0), some (.getfield 122), none, none, some (.ifCond .eq 25), none, none, some (.aload_n 0), some (.getfield 53), none, none, some (.iload_n 3), some .iaload, some (.iload 4), none, some .iadd, some (.iconst 1), some .isub, some (.aload_n 0), some (.getfield 126), none, none, some (.if_icmp .ne 7), none, none, some (.iconst 1), some (.goto 4), none, none, some (.iconst 0), some (.istore 5), none, some (.aload_n 0), some (.iconst 2), some (.iload_n 1), some .imul, some (.iconst 1), some (.iload_n 2), some (.aload_n 0), some (.getfield 53), none, none, some (.iload_n 3), some .iaload, some (.iload 5), none, some (.ifCond .eq 7), none, none, some (.iconst 1), some (.goto 4), none, none, some (.iconst 0), some (.iload 4), none, some (.invokevirtual 118), none, none, some .return_]
/-- SubflowBundleModel.ship(IIIIII)V -/
def pT86 : List (Option Instr) := [some (.aload_n 0), some (.getfield 23), none, none, some (.iload_n 1), some (.iconst 2), some .idiv, some .iaload, some (.istore 7), none, some (.iload 7), none, some (.ifCond .eq 34), none, none, some (.aload_n 0), some (.getfield 71), none, none, some (.iload_n 1), some .iaload, some (.bipush 6), none, some (.if_icmp .ge 23), none, none, some (.aload_n 0), some (.iload_n 1), some (.iload_n 2), some (.iload_n 3), some (.iload 4), none, some (.iload 5), none, some (.iload 6), none, some (.aload_n 0), some (.getfield 107), none, none, some (.iload 7), none, some .iadd, some (.invokevirtual 110), none, none, some .return_]
/-- SubflowBundleModel.put(IIIIIII)V -/
def pT87 : List (Option Instr) := [some (.bipush 6), none, some (.iload_n 1), some .imul, some (.aload_n 0), some (.getfield 71), none, none, some (.iload_n 1), some .iaload, some .iadd, some (.istore 8), none, some (.aload_n 0), some (.getfield 74), none, none, some (.iload 8), none, some (.iload_n 2), some .iastore, some (.aload_n 0), some (.getfield 77), none, none, some (.iload 8), none, some (.iload_n 3), some .iastore, some (.aload_n 0), some (.getfield 80), none, none, some (.iload 8), none, some (.iload 4), none, some .iastore, some (.aload_n 0), some (.getfield 83), none, none, some (.iload 8), none, some (.iload 5), none, some .iastore, some (.aload_n 0), some (.getfield 86), none, none, some (.iload 8), none, some (.iload 6), none, some .iastore, some (.aload_n 0), some (.getfield 89), none, none, some (.iload 8), none, some (.iload 7), none, some .iastore, some (.aload_n 0), some (.getfield 71), none, none, some (.iload_n 1), some .dup2, some .iaload, some (.iconst 1), some .iadd, some .iastore, some .return_]
/-- SubflowBundleModel.close(I)Z -/
def pT88 : List (Option Instr) := [some (.iload_n 1), some (.invokestatic 114), none, none, some (.ifCond .eq 22), none, none, some (.aload_n 0), some (.getfield 20), none, none, some (.iload_n 1), some .iaload, some (.ifCond .eq 13), none, none, some (.aload_n 0), some (.getfield 20), none, none, some (.iload_n 1), some .iaload, some (.iconst 4), some (.if_icmp .ne 5), none, none, some (.iconst 0), some .ireturn, some (.aload_n 0), some (.iload_n 1), some (.invokevirtual 143), none, none, some (.iconst 1), some .ireturn]
/-- SubflowBundleModel.shut(I)V -/
def pT89 : List (Option Instr) := [some (.aload_n 0), some (.getfield 20), none, none, some (.iload_n 1), some (.iconst 4), some .iastore, some (.aload_n 0), some (.getfield 32), none, none, some (.iload_n 1), some (.iconst 0), some .iastore, some (.aload_n 0), some (.getfield 71), none, none, some (.iconst 2), some (.iload_n 1), some .imul, some (.iconst 0), some .iastore, some (.aload_n 0), some (.getfield 71), none, none, some (.iconst 2), some (.iload_n 1), some .imul, some (.iconst 1), some .iadd, some (.iconst 0), some .iastore, some .return_]
/-- SubflowBundleModel.write(II)I -/
def pT90 : List (Option Instr) := [some (.iload_n 1), some (.iconst 1), some (.if_icmp .lt 10), none, none, some (.aload_n 0), some (.getfield 122), none, none, some (.ifCond .eq 5), none, none, some (.iconst 0), some .ireturn, some (.iconst 0), some (.istore_n 3), some (.iload_n 3), some (.iload_n 1), some (.if_icmp .ge 45), none, none, some (.aload_n 0), some (.getfield 126), none, none, some (.sipush 400), none, none, some (.if_icmp .ge 35), none, none, some (.aload_n 0), some (.getfield 7), none, none, some (.aload_n 0), some (.getfield 126), none, none, some (.iload_n 2), some (.iload_n 3), some .iadd, some (.sipush 255), none, none, some .iand, some .iastore, some (.aload_n 0), some .dup, some (.getfield 126), none, none, some (.iconst 1), some .iadd, some (.putfield 126), none, none, some (.iinc 3 1), none, none, some (.goto (-44)), none, none, some (.iload_n 3), some .ireturn]
/-- SubflowBundleModel.finish()Z -/
def pT91 : List (Option Instr) := [some (.aload_n 0), some (.getfield 122), none, none, some (.istore_n 1), some (.aload_n 0), some (.iconst 1), some (.putfield 122), none, none, some (.iload_n 1), some (.ifCond .ne 7), none, none, some (.iconst 1), some (.goto 4), none, none, some (.iconst 0), some .ireturn]
/-- SubflowBundleModel.read()I -/
def pT92 : List (Option Instr) := [some (.aload_n 0), some (.getfield 147), none, none, some (.sipush 400), none, none, some (.if_icmp .gt 15), none, none, some (.aload_n 0), some (.getfield 17), none, none, some (.aload_n 0), some (.getfield 147), none, none, some .baload, some (.ifCond .ne 5), none, none, some (.iconst (-1)), some .ireturn, some (.aload_n 0), some (.getfield 122), none, none, some (.ifCond .eq 17), none, none, some (.aload_n 0), some (.getfield 147), none, none, some (.aload_n 0), some (.getfield 126), none, none, some (.if_icmp .ne 6), none, none, some (.bipush (-2)), none, some .ireturn, some (.aload_n 0), some .dup, some (.getfield 147), none, none, some (.iconst 1), some .iadd, some (.putfield 147), none, none, some (.aload_n 0), some (.getfield 7), none, none, some (.aload_n 0), some (.getfield 147), none, none, some (.iconst 1), some .isub, some .iaload, some .ireturn]
/-- SubflowBundleModel.pass(I)I -/
def pT93 : List (Option Instr) := [some (.iload_n 1), some (.ifCond .lt 9), none, none, some (.iload_n 1), some (.bipush 60), none, some (.if_icmp .le 5), none, none, some (.iconst (-1)), some .ireturn, some (.iconst 0), some (.istore_n 2), some (.iconst 0), some (.istore_n 3), some (.iload_n 3), some (.iload_n 1), some (.if_icmp .ge 109), none, none, some (.aload_n 0), some .dup, some (.getfield 107), none, none, some (.iconst 1), some .iadd, some (.putfield 107), none, none, some (.iconst 0), some (.istore 4), none, some (.iload 4), none, some (.bipush 8), none, some (.if_icmp .ge 18), none, none, some (.iload_n 2), some (.aload_n 0), some (.iload 4), none, some (.invokevirtual 150), none, none, some .iadd, some (.istore_n 2), some (.iinc 4 1), none, none, some (.goto (-19)), none, none, some (.iconst 0), some (.istore 4), none, some (.iload 4), none, some (.iconst 4), some (.if_icmp .ge 29), none, none, some (.aload_n 0), some (.getfield 32), none, none, some (.iload 4), none, some .iaload, some (.aload_n 0), some (.getfield 107), none, none, some (.if_icmp .ne 9), none, none, some (.aload_n 0), some (.iload 4), none, some (.invokevirtual 154), none, none, some (.iinc 4 1), none, none, some (.goto (-29)), none, none, some (.iconst 1), some (.istore 4), none, some (.iconst 0), some (.istore 5), none, some (.iload 5), none, some (.bipush 13), none, some (.if_icmp .ge 20), none, none, some (.iload 4), none, some (.ifCond .eq 15), none, none, some (.aload_n 0), some (.invokevirtual 157), none, none, some (.istore 4), none, some (.iinc 5 1), none, none, some (.goto (-21)), none, none, some (.iinc 3 1), none, none, some (.goto (-108)), none, none, some (.iload_n 2), some .ireturn]
/-- SubflowBundleModel.deliver(I)I -/
def pT94 : List (Option Instr) := [some (.iconst 0), some (.istore_n 2), some (.iconst 0), some (.istore_n 3), some (.iconst 0), some (.istore 4), none, some (.iload 4), none, some (.bipush 6), none, some (.if_icmp .ge 140), none, none, some (.bipush 6), none, some (.iload_n 1), some .imul, some (.iload_n 3), some .iadd, some (.istore 5), none, some (.iload_n 3), some (.aload_n 0), some (.getfield 71), none, none, some (.iload_n 1), some .iaload, some (.if_icmp .ge 113), none, none, some (.aload_n 0), some (.getfield 89), none, none, some (.iload 5), none, some .iaload, some (.aload_n 0), some (.getfield 107), none, none, some (.if_icmp .ne 99), none, none, some (.aload_n 0), some (.getfield 74), none, none, some (.iload 5), none, some .iaload, some (.istore 6), none, some (.aload_n 0), some (.getfield 77), none, none, some (.iload 5), none, some .iaload, some (.istore 7), none, some (.aload_n 0), some (.getfield 80), none, none, some (.iload 5), none, some .iaload, some (.istore 8), none, some (.aload_n 0), some (.getfield 83), none, none, some (.iload 5), none, some .iaload, some (.istore 9), none, some (.aload_n 0), some (.getfield 86), none, none, some (.iload 5), none, some .iaload, some (.istore 10), none, some (.aload_n 0), some (.iload_n 1), some (.iload_n 3), some (.invokevirtual 161), none, none, some (.iinc 2 1), none, none, some (.iload_n 1), some (.iconst 2), some .irem, some (.ifCond .ne 21), none, none, some (.aload_n 0), some (.iload_n 1), some (.iconst 2), some .idiv, some (.iload 6), none, some (.iload 7), none, some (.iload 8), none, some (.iload 10), none, some (.invokevirtual 164), none, none, some (.goto 18), none, none, some (.aload_n 0), some (.iload_n 1), some (.iconst 2), some .idiv, some (.iload 6), none, some (.iload 7), none, some (.iload 8), none, some (.iload 9), none, some (.invokevirtual 168), none, none, some (.goto 6), none, none, some (.iinc 3 1), none, none, some (.iinc 4 1), none, none, some (.goto (-141)), none, none, some (.iload_n 2), some .ireturn]
/-- SubflowBundleModel.drop(II)V -/
def pT95 : List (Option Instr) := [some (.aload_n 0), some (.getfield 71), none, none, some (.iload_n 1), some .dup2, some .iaload, some (.iconst 1), some .isub, some .iastore, some (.bipush 6), none, some (.iload_n 1), some .imul, some (.iload_n 2), some .iadd, some (.istore_n 3), some (.iload_n 3), some (.bipush 6), none, some (.iload_n 1), some .imul, some (.aload_n 0), some (.getfield 71), none, none, some (.iload_n 1), some .iaload, some .iadd, some (.if_icmp .ge 93), none, none, some (.aload_n 0), some (.getfield 74), none, none, some (.iload_n 3), some (.aload_n 0), some (.getfield 74), none, none, some (.iload_n 3), some (.iconst 1), some .iadd, some .iaload, some .iastore, some (.aload_n 0), some (.getfield 77), none, none, some (.iload_n 3), some (.aload_n 0), some (.getfield 77), none, none, some (.iload_n 3), some (.iconst 1), some .iadd, some .iaload, some .iastore, some (.aload_n 0), some (.getfield 80), none, none, some (.iload_n 3), some (.aload_n 0), some (.getfield 80), none, none, some (.iload_n 3), some (.iconst 1), some .iadd, some .iaload, some .iastore, some (.aload_n 0), some (.getfield 83), none, none, some (.iload_n 3), some (.aload_n 0), some (.getfield 83), none, none, some (.iload_n 3), some (.iconst 1), some .iadd, some .iaload, some .iastore, some (.aload_n 0), some (.getfield 86), none, none, some (.iload_n 3), some (.aload_n 0), some (.getfield 86), none, none, some (.iload_n 3), some (.iconst 1), some .iadd, some .iaload, some .iastore, some (.aload_n 0), some (.getfield 89), none, none, some (.iload_n 3), some (.aload_n 0), some (.getfield 89), none, none, some (.iload_n 3), some (.iconst 1), some .iadd, some .iaload, some .iastore, some (.iinc 3 1), none, none, some (.goto (-102)), none, none, some .return_]
/-- SubflowBundleModel.atB(IIIII)V -/
def pT96 : List (Option Instr) := [some (.iload_n 2), some (.ifCond .ne 63), none, none, some (.aload_n 0), some (.getfield 13), none, none, some (.sipush 402), none, none, some (.iload_n 1), some .imul, some .baload, some (.ifCond .ne 50), none, none, some (.aload_n 0), some (.getfield 171), none, none, some (.ifCond .eq 27), none, none, some (.iload 4), none, some (.aload_n 0), some (.getfield 101), none, none, some (.if_icmp .eq 18), none, none, some (.aload_n 0), some (.iconst 2), some (.iload_n 1), some .imul, some (.iconst 1), some .iadd, some (.iconst 3), some (.iconst 0), some (.iconst 0), some (.iconst 0), some (.iconst 0), some (.invokevirtual 118), none, none, some .return_, some (.aload_n 0), some (.iconst 1), some (.putfield 171), none, none, some (.aload_n 0), some (.getfield 13), none, none, some (.sipush 402), none, none, some (.iload_n 1), some .imul, some (.iconst 1), some .bastore, some (.iload_n 2), some (.iconst 1), some (.if_icmp .ne 80), none, none, some (.aload_n 0), some (.getfield 13), none, none, some (.sipush 402), none, none, some (.iload_n 1), some .imul, some (.iload_n 3), some .iadd, some .baload, some (.ifCond .ne 65), none, none, some (.iload 4), none, some (.iload 5), none, some .iadd, some (.iconst 1), some .isub, some (.aload_n 0), some (.getfield 147), none, none, some (.aload_n 0), some (.getfield 96), none, none, some .iadd, some (.if_icmp .ge 46), none, none, some (.iconst 0), some (.istore 6), none, some (.iload 6), none, some (.iload 5), none, some (.if_icmp .ge 36), none, none, some (.aload_n 0), some (.getfield 13), none, none, some (.sipush 402), none, none, some (.iload_n 1), some .imul, some (.iload_n 3), some .iadd, some (.iload 6), none, some .iadd, some (.iconst 1), some .bastore, some (.aload_n 0), some (.getfield 17), none, none, some (.iload 4), none, some (.iload 6), none, some .iadd, some (.iconst 1), some .bastore, some (.iinc 6 1), none, none, some (.goto (-37)), none, none, some (.iconst 0), some (.istore 6), none, some (.sipush 401), none, none, some (.istore 7), none, some (.iload 7), none, some (.ifCond .lt 35), none, none, some (.aload_n 0), some (.getfield 13), none, none, some (.sipush 402), none, none, some (.iload_n 1), some .imul, some (.iload 7), none, some .iadd, some .baload, some (.ifCond .eq 10), none, none, some (.iload 6), none, some (.iconst 1), some .iadd, some (.goto 4), none, none, some (.iconst 0), some (.istore 6), none, some (.iinc 7 (-1)), none, none, some (.goto (-34)), none, none, some (.aload_n 0), some (.invokevirtual 174), none, none, some (.istore 7), none, some (.aload_n 0), some (.iconst 2), some (.iload_n 1), some .imul, some (.iconst 1), some .iadd, some (.iconst 2), some (.iload 6), none, some (.iload 7), none, some (.aload_n 0), some (.getfield 147), none, none, some (.aload_n 0), some (.getfield 96), none, none, some .iadd, some (.iconst 0), some (.invokevirtual 118), none, none, some .return_]
/-- SubflowBundleModel.received()I -/
def pT97 : List (Option Instr) := [some (.iconst 0), some (.istore_n 1), some (.iload_n 1), some (.sipush 401), none, none, some (.if_icmp .ge 18), none, none, some (.aload_n 0), some (.getfield 17), none, none, some (.iload_n 1), some .baload, some (.ifCond .eq 9), none, none, some (.iinc 1 1), none, none, some (.goto (-19)), none, none, some (.iload_n 1), some .ireturn]
/-- SubflowBundleModel.atA(IIIII)V -/
def pT98 : List (Option Instr) := [some (.iload_n 2), some (.iconst 3), some (.if_icmp .ne 9), none, none, some (.aload_n 0), some (.iload_n 1), some (.invokevirtual 143), none, none, some .return_, some (.aload_n 0), some (.iload 4), none, some (.aload_n 0), some (.getfield 178), none, none, some (.if_icmp .le 8), none, none, some (.iload 4), none, some (.goto 7), none, none, some (.aload_n 0), some (.getfield 178), none, none, some (.putfield 178), none, none, some (.aload_n 0), some (.iload 5), none, some (.aload_n 0), some (.getfield 104), none, none, some (.if_icmp .le 8), none, none, some (.iload 5), none, some (.goto 7), none, none, some (.aload_n 0), some (.getfield 104), none, none, some (.putfield 104), none, none, some (.iconst (-1)), some (.istore 6), none, some (.aload_n 0), some (.getfield 44), none, none, some (.iload_n 1), some .iaload, some (.istore 7), none, some (.iload 7), none, some (.aload_n 0), some (.getfield 47), none, none, some (.iload_n 1), some .iaload, some (.if_icmp .ge 42), none, none, some (.aload_n 0), some (.getfield 56), none, none, some (.sipush 402), none, none, some (.iload_n 1), some .imul, some (.iload 7), none, some .iadd, some .iaload, some (.istore 8), none, some (.iload 8), none, some (.ifCond .le 16), none, none, some (.iload 7), none, some (.iload 8), none, some .iadd, some (.iload_n 3), some (.if_icmp .gt 7), none, none, some (.iload 7), none, some (.istore 6), none, some (.iinc 7 1), none, none, some (.goto (-47)), none, none, some (.iload 6), none, some (.ifCond .ge 4), none, none, some .return_, some (.sipush 402), none, none, some (.iload_n 1), some .imul, some (.iload 6), none, some .iadd, some (.istore 7), none, some (.aload_n 0), some (.getfield 44), none, none, some (.iload_n 1), some (.iload 6), none, some (.aload_n 0), some (.getfield 56), none, none, some (.iload 7), none, some .iaload, some .iadd, some .iastore, some (.aload_n 0), some (.getfield 62), none, none, some (.iload 7), none, some .iaload, some (.iconst 1), some (.if_icmp .ne 20), none, none, some (.aload_n 0), some (.iload_n 1), some (.aload_n 0), some (.getfield 107), none, none, some (.aload_n 0), some (.getfield 59), none, none, some (.iload 7), none, some .iaload, some .isub, some (.invokevirtual 181), none, none, some (.aload_n 0), some (.getfield 20), none, none, some (.iload_n 1), some (.iconst 2), some .iastore, some (.aload_n 0), some (.iconst 1), some (.putfield 129), none, none, some (.aload_n 0), some (.getfield 32), none, none, some (.iload_n 1), some (.aload_n 0), some (.getfield 44), none, none, some (.iload_n 1), some .iaload, some (.aload_n 0), some (.getfield 47), none, none, some (.iload_n 1), some .iaload, some (.if_icmp .ne 7), none, none, some (.iconst 0), some (.goto 14), none, none, some (.aload_n 0), some (.getfield 107), none, none, some (.aload_n 0), some (.getfield 29), none, none, some (.iload_n 1), some .iaload, some .iadd, some .iastore, some .return_]
/-- SubflowBundleModel.measure(II)V -/
def pT99 : List (Option Instr) := [some (.aload_n 0), some (.getfield 35), none, none, some (.iload_n 1), some .baload, some (.ifCond .eq 74), none, none, some (.aload_n 0), some (.getfield 38), none, none, some (.iload_n 1), some .iaload, some (.bipush 8), none, some .idiv, some (.iload_n 2), some .isub, some (.istore_n 3), some (.aload_n 0), some (.getfield 41), none, none, some (.iload_n 1), some (.aload_n 0), some (.getfield 41), none, none, some (.iload_n 1), some .iaload, some (.aload_n 0), some (.getfield 41), none, none, some (.iload_n 1), some .iaload, some (.iconst 4), some .idiv, some .isub, some (.iload_n 3), some (.ifCond .ge 8), none, none, some (.iload_n 3), some .ineg, some (.goto 4), none, none, some (.iload_n 3), some .iadd, some .iastore, some (.aload_n 0), some (.getfield 38), none, none, some (.iload_n 1), some (.aload_n 0), some (.getfield 38), none, none, some (.iload_n 1), some .iaload, some (.aload_n 0), some (.getfield 38), none, none, some (.iload_n 1), some .iaload, some (.bipush 8), none, some .idiv, some .isub, some (.iload_n 2), some .iadd, some .iastore, some (.goto 29), none, none, some (.aload_n 0), some (.getfield 35), none, none, some (.iload_n 1), some (.iconst 1), some .bastore, some (.aload_n 0), some (.getfield 38), none, none, some (.iload_n 1), some (.bipush 8), none, some (.iload_n 2), some .imul, some .iastore, some (.aload_n 0), some (.getfield 41), none, none, some (.iload_n 1), some (.iconst 2), some (.iload_n 2), some .imul, some .iastore, some (.aload_n 0), some (.getfield 38), none, none, some (.iload_n 1), some .iaload, some (.bipush 8), none, some .idiv, some (.aload_n 0), some (.getfield 41), none, none, some (.iload_n 1), some .iaload, some .iadd, some (.istore_n 3), some (.aload_n 0), some (.getfield 29), none, none, some (.iload_n 1), some (.iload_n 3), some (.bipush 6), none, some (.if_icmp .ge 8), none, none, some (.bipush 6), none, some (.goto 15), none, none, some (.iload_n 3), some (.bipush 120), none, some (.if_icmp .le 8), none, none, some (.bipush 120), none, some (.goto 4), none, none, some (.iload_n 3), some .iastore, some .return_]
/-- SubflowBundleModel.ring(I)V -/
def pT100 : List (Option Instr) := [some (.aload_n 0), some (.getfield 29), none, none, some (.iload_n 1), some (.aload_n 0), some (.getfield 29), none, none, some (.iload_n 1), some .iaload, some (.bipush 60), none, some (.if_icmp .le 8), none, none, some (.bipush 120), none, some (.goto 11), none, none, some (.iconst 2), some (.aload_n 0), some (.getfield 29), none, none, some (.iload_n 1), some .iaload, some .imul, some .iastore, some (.aload_n 0), some (.getfield 32), none, none, some (.iload_n 1), some (.aload_n 0), some (.getfield 107), none, none, some (.aload_n 0), some (.getfield 29), none, none, some (.iload_n 1), some .iaload, some .iadd, some .iastore, some (.aload_n 0), some (.getfield 20), none, none, some (.iload_n 1), some (.aload_n 0), some (.getfield 20), none, none, some (.iload_n 1), some .iaload, some (.iconst 2), some (.if_icmp .ne 7), none, none, some (.iconst 3), some (.goto 9), none, none, some (.aload_n 0), some (.getfield 20), none, none, some (.iload_n 1), some .iaload, some .iastore, some (.aload_n 0), some (.iload_n 1), some (.aload_n 0), some (.getfield 44), none, none, some (.iload_n 1), some .iaload, some (.invokevirtual 139), none, none, some .return_]
/-- SubflowBundleModel.sends()Z -/
def pT101 : List (Option Instr) := [some (.iconst 3), some (.istore_n 1), some (.iconst 0), some (.istore_n 2), some (.iload_n 2), some (.iconst 4), some (.if_icmp .ge 25), none, none, some (.aload_n 0), some (.getfield 20), none, none, some (.iload_n 2), some .iaload, some (.iconst 2), some (.if_icmp .ne 7), none, none, some (.iconst 2), some (.goto 4), none, none, some (.iload_n 1), some (.istore_n 1), some (.iinc 2 1), none, none, some (.goto (-24)), none, none, some (.iconst 0), some (.istore_n 2), some (.iconst 0), some (.istore_n 3), some (.iload_n 3), some (.iconst 4), some (.if_icmp .ge 140), none, none, some (.iconst (-1)), some (.istore 4), none, some (.iconst 0), some (.istore 5), none, some (.iload 5), none, some (.iconst 4), some (.if_icmp .ge 87), none, none, some (.aload_n 0), some (.getfield 20), none, none, some (.iload 5), none, some .iaload, some (.iload_n 1), some (.if_icmp .ne 16), none, none, some (.iload_n 2), some (.iload 5), none, some .ishr, some (.iconst 1), some .iand, some (.ifCond .ne 7), none, none, some (.iconst 1), some (.goto 4), none, none, some (.iconst 0), some (.istore 6), none, some (.iload 6), none, some (.ifCond .eq 49), none, none, some (.iload 4), none, some (.ifCond .lt 40), none, none, some (.aload_n 0), some (.getfield 35), none, none, some (.iload 5), none, some .baload, some (.ifCond .eq 34), none, none, some (.aload_n 0), some (.getfield 35), none, none, some (.iload 4), none, some .baload, some (.ifCond .eq 20), none, none, some (.aload_n 0), some (.getfield 38), none, none, some (.iload 5), none, some .iaload, some (.aload_n 0), some (.getfield 38), none, none, some (.iload 4), none, some .iaload, some (.if_icmp .ge 7), none, none, some (.iload 5), none, some (.istore 4), none, some (.iinc 5 1), none, none, some (.goto (-87)), none, none, some (.iload 4), none, some (.ifCond .ge 5), none, none, some (.iconst 0), some .ireturn, some (.iload_n 2), some (.iconst 1), some (.iload 4), none, some .ishl, some .ior, some (.istore_n 2), some (.aload_n 0), some (.iload 4), none, some (.invokevirtual 187), none, none, some (.iconst 3), some (.if_icmp .ge 14), none, none, some (.aload_n 0), some (.iload 4), none, some (.invokevirtual 190), none, none, some (.ifCond .eq 5), none, none, some (.iconst 1), some .ireturn, some (.iinc 3 1), none, none, some (.goto (-139)), none, none, some (.iconst 0), some .ireturn]
/-- SubflowBundleModel.open3(I)I -/
def pT102 : List (Option Instr) := [some (.iconst 0), some (.istore_n 2), some (.aload_n 0), some (.getfield 44), none, none, some (.iload_n 1), some .iaload, some (.istore_n 3), some (.iload_n 3), some (.aload_n 0), some (.getfield 47), none, none, some (.iload_n 1), some .iaload, some (.if_icmp .ge 32), none, none, some (.aload_n 0), some (.getfield 56), none, none, some (.sipush 402), none, none, some (.iload_n 1), some .imul, some (.iload_n 3), some .iadd, some .iaload, some (.ifCond .le 9), none, none, some (.iload_n 2), some (.iconst 1), some .iadd, some (.goto 4), none, none, some (.iload_n 2), some (.istore_n 2), some (.iinc 3 1), none, none, some (.goto (-36)), none, none, some (.iload_n 2), some .ireturn]
/-- SubflowBundleModel.load(I)Z -/
def pT103 : List (Option Instr) := [some (.aload_n 0), some (.getfield 178), none, none, some (.istore_n 2), some (.aload_n 0), some (.invokevirtual 184), none, none, some (.istore_n 3), some (.iload_n 2), some (.iload_n 3), some (.if_icmp .ge 18), none, none, some (.aload_n 0), some (.iload_n 1), some (.iload_n 2), some (.invokevirtual 193), none, none, some (.ifCond .ne 9), none, none, some (.iinc 2 1), none, none, some (.goto (-17)), none, none, some (.iload_n 2), some (.iload_n 3), some (.if_icmp .ge 42), none, none, some (.iload_n 2), some (.aload_n 0), some (.getfield 104), none, none, some (.if_icmp .gt 34), none, none, some (.iload_n 2), some (.aload_n 0), some (.getfield 104), none, none, some (.if_icmp .ne 28), none, none, some (.iload_n 2), some (.aload_n 0), some (.getfield 178), none, none, some (.if_icmp .ne 18), none, none, some (.aload_n 0), some (.getfield 44), none, none, some (.iload_n 1), some .iaload, some (.aload_n 0), some (.getfield 47), none, none, some (.iload_n 1), some .iaload, some (.if_icmp .ge 5), none, none, some (.iconst 0), some .ireturn, some (.iconst 1), some (.istore 4), none, some (.iload 4), none, some (.aload_n 0), some (.getfield 92), none, none, some (.if_icmp .ge 32), none, none, some (.iload_n 2), some (.iload 4), none, some .iadd, some (.aload_n 0), some (.getfield 104), none, none, some (.if_icmp .ge 21), none, none, some (.aload_n 0), some (.iload_n 1), some (.iload_n 2), some (.iload 4), none, some .iadd, some (.invokevirtual 193), none, none, some (.ifCond .eq 9), none, none, some (.iinc 4 1), none, none, some (.goto (-35)), none, none, some (.aload_n 0), some (.iload_n 1), some (.iload_n 2), some (.iload 4), none, some (.invokevirtual 132), none, none, some (.iconst 1), some .ireturn]
/-- SubflowBundleModel.length()I -/
def pT104 : List (Option Instr) := [some (.aload_n 0), some (.getfield 122), none, none, some (.ifCond .eq 12), none, none, some (.aload_n 0), some (.getfield 126), none, none, some (.iconst 1), some .iadd, some (.goto 7), none, none, some (.aload_n 0), some (.getfield 126), none, none, some .ireturn]
/-- SubflowBundleModel.loose(II)Z -/
def pT105 : List (Option Instr) := [some (.iload_n 2), some (.aload_n 0), some (.getfield 178), none, none, some (.if_icmp .lt 15), none, none, some (.iload_n 2), some (.aload_n 0), some (.invokevirtual 184), none, none, some (.if_icmp .ge 7), none, none, some (.iconst 1), some (.goto 4), none, none, some (.iconst 0), some (.istore_n 3), some (.iconst 0), some (.istore 4), none, some (.iload 4), none, some (.iconst 4), some (.if_icmp .ge 120), none, none, some (.iload_n 3), some (.ifCond .eq 116), none, none, some (.aload_n 0), some (.getfield 65), none, none, some (.sipush 402), none, none, some (.iload 4), none, some .imul, some (.iload_n 2), some .iadd, some .iaload, some (.istore 5), none, some (.iload 5), none, some (.ifCond .le 19), none, none, some (.iload 5), none, some (.aload_n 0), some (.getfield 44), none, none, some (.iload 4), none, some .iaload, some (.if_icmp .ge 7), none, none, some (.iconst 1), some (.goto 4), none, none, some (.iconst 0), some (.istore 6), none, some (.iload 5), none, some (.aload_n 0), some (.getfield 44), none, none, some (.iload 4), none, some .iaload, some (.if_icmp .lt 23), none, none, some (.iload 5), none, some (.ifCond .le 18), none, none, some (.aload_n 0), some (.getfield 20), none, none, some (.iload 4), none, some .iaload, some (.iconst 4), some (.if_icmp .eq 7), none, none, some (.iconst 1), some (.goto 4), none, none, some (.iconst 0), some (.istore 7), none, some (.iload 6), none, some (.ifCond .ne 29), none, none, some (.iload 7), none, some (.ifCond .eq 20), none, none, some (.iload 4), none, some (.iload_n 1), some (.if_icmp .eq 18), none, none, some (.aload_n 0), some (.getfield 20), none, none, some (.iload 4), none, some .iaload, some (.iconst 2), some (.if_icmp .eq 7), none, none, some (.iconst 1), some (.goto 4), none, none, some (.iconst 0), some (.istore_n 3), some (.iinc 4 1), none, none, some (.goto (-120)), none, none, some (.iload_n 3), some .ireturn]
/-- SubflowBundleModel.delay(II)Z -/
def pT106 : List (Option Instr) := [some (.iload_n 1), some (.invokestatic 114), none, none, some (.ifCond .eq 13), none, none, some (.iload_n 2), some (.ifCond .lt 9), none, none, some (.iload_n 2), some (.bipush 40), none, some (.if_icmp .le 5), none, none, some (.iconst 0), some .ireturn, some (.aload_n 0), some (.getfield 20), none, none, some (.iload_n 1), some .iaload, some (.ifCond .eq 13), none, none, some (.aload_n 0), some (.getfield 20), none, none, some (.iload_n 1), some .iaload, some (.iconst 4), some (.if_icmp .ne 5), none, none, some (.iconst 0), some .ireturn, some (.aload_n 0), some (.getfield 23), none, none, some (.iload_n 1), some (.iload_n 2), some .iastore, some (.iconst 1), some .ireturn]
/-- SubflowBundleModel.lose(IZI)Z -/
def pT107 : List (Option Instr) := [some (.aload_n 0), some (.iload_n 1), some (.iload_n 2), some (.iload_n 3), some (.invokevirtual 197), none, none, some (.istore 4), none, some (.iload 4), none, some (.ifCond .eq 23), none, none, some (.aload_n 0), some (.iload_n 2), some (.ifCond .eq 11), none, none, some (.iconst 2), some (.iload_n 1), some .imul, some (.iconst 1), some .iadd, some (.goto 6), none, none, some (.iconst 2), some (.iload_n 1), some .imul, some (.iload_n 3), some (.invokevirtual 161), none, none, some (.iload 4), none, some .ireturn]
/-- SubflowBundleModel.there(IZI)Z -/
def pT108 : List (Option Instr) := [some (.iload_n 1), some (.invokestatic 114), none, none, some (.ifCond .eq 35), none, none, some (.iload_n 3), some (.ifCond .lt 31), none, none, some (.iload_n 3), some (.aload_n 0), some (.getfield 71), none, none, some (.iload_n 2), some (.ifCond .eq 11), none, none, some (.iconst 2), some (.iload_n 1), some .imul, some (.iconst 1), some .iadd, some (.goto 6), none, none, some (.iconst 2), some (.iload_n 1), some .imul, some .iaload, some (.if_icmp .ge 7), none, none, some (.iconst 1), some (.goto 4), none, none, some (.iconst 0), some .ireturn]
/-- SubflowBundleModel.twice(IZII)Z -/
def pT109 : List (Option Instr) := [some (.aload_n 0), some (.iload_n 1), some (.iload_n 2), some (.iload_n 3), some (.invokevirtual 197), none, none, some (.ifCond .eq 16), none, none, some (.iload 4), none, some (.iconst 1), some (.if_icmp .lt 10), none, none, some (.iload 4), none, some (.bipush 40), none, some (.if_icmp .le 5), none, none, some (.iconst 0), some .ireturn, some (.iload_n 2), some (.ifCond .eq 11), none, none, some (.iconst 2), some (.iload_n 1), some .imul, some (.iconst 1), some .iadd, some (.goto 6), none, none, some (.iconst 2), some (.iload_n 1), some .imul, some (.istore 5), none, some (.aload_n 0), some (.getfield 71), none, none, some (.iload 5), none, some .iaload, some (.bipush 6), none, some (.if_icmp .lt 5), none, none, some (.iconst 0), some .ireturn, some (.bipush 6), none, some (.iload 5), none, some .imul, some (.iload_n 3), some .iadd, some (.istore 6), none, some (.aload_n 0), some (.iload 5), none, some (.aload_n 0), some (.getfield 74), none, none, some (.iload 6), none, some .iaload, some (.aload_n 0), some (.getfield 77), none, none, some (.iload 6), none, some .iaload, some (.aload_n 0), some (.getfield 80), none, none, some (.iload 6), none, some .iaload, some (.aload_n 0), some (.getfield 83), none, none, some (.iload 6), none, some .iaload, some (.aload_n 0), some (.getfield 86), none, none, some (.iload 6), none, some .iaload, some (.aload_n 0), some (.getfield 107), none, none, some (.iload 4), none, some .iadd, some (.invokevirtual 110), none, none, some (.iconst 1), some .ireturn]
/-- SubflowBundleModel.flight(IZ)I -/
def pT110 : List (Option Instr) := [some (.iload_n 1), some (.invokestatic 114), none, none, some (.ifCond .eq 26), none, none, some (.aload_n 0), some (.getfield 71), none, none, some (.iload_n 2), some (.ifCond .eq 11), none, none, some (.iconst 2), some (.iload_n 1), some .imul, some (.iconst 1), some .iadd, some (.goto 6), none, none, some (.iconst 2), some (.iload_n 1), some .imul, some .iaload, some (.goto 4), none, none, some (.iconst (-1)), some .ireturn]
/-- SubflowBundleModel.word(IZII)I -/
def pT111 : List (Option Instr) := [some (.aload_n 0), some (.iload_n 1), some (.iload_n 2), some (.iload_n 3), some (.invokevirtual 197), none, none, some (.ifCond .ne 5), none, none, some (.iconst 0), some .ireturn, some (.bipush 6), none, some (.iload_n 2), some (.ifCond .eq 11), none, none, some (.iconst 2), some (.iload_n 1), some .imul, some (.iconst 1), some .iadd, some (.goto 6), none, none, some (.iconst 2), some (.iload_n 1), some .imul, some .imul, some (.iload_n 3), some .iadd, some (.istore 5), none, some (.iload 4), none, some (.ifCond .ne 45), none, none, some (.aload_n 0), some (.getfield 74), none, none, some (.iload 5), none, some .iaload, some (.sipush 16384), none, none, some .imul, some (.iload_n 1), some (.sipush 4096), none, none, some .imul, some .iadd, some (.aload_n 0), some (.getfield 86), none, none, some (.iload 5), none, some .iaload, some .iadd, some (.istore 6), none, some (.iload 6), none, some (.bipush 16), none, some .ishl, some (.aload_n 0), some (.iload 6), none, some (.iload 5), none, some (.invokevirtual 201), none, none, some .ior, some .ireturn, some (.iload 4), none, some (.iconst 1), some (.if_icmp .ne 13), none, none, some (.aload_n 0), some (.getfield 77), none, none, some (.iload 5), none, some .iaload, some (.goto 36), none, none, some (.iload 4), none, some (.iconst 2), some (.if_icmp .ne 13), none, none, some (.aload_n 0), some (.getfield 80), none, none, some (.iload 5), none, some .iaload, some (.goto 20), none, none, some (.iload 4), none, some (.iconst 3), some (.if_icmp .ne 13), none, none, some (.aload_n 0), some (.getfield 83), none, none, some (.iload 5), none, some .iaload, some (.goto 4), none, none, some (.iconst 0), some .ireturn]
/-- SubflowBundleModel.check(II)I -/
def pT112 : List (Option Instr) := [some (.iload_n 1), some (.aload_n 0), some (.getfield 77), none, none, some (.iload_n 2), some .iaload, some (.bipush 16), none, some .iushr, some .iadd, some (.aload_n 0), some (.getfield 77), none, none, some (.iload_n 2), some .iaload, some (.ldc 205), none, some .iand, some .iadd, some (.aload_n 0), some (.getfield 80), none, none, some (.iload_n 2), some .iaload, some (.bipush 16), none, some .iushr, some .iadd, some (.aload_n 0), some (.getfield 80), none, none, some (.iload_n 2), some .iaload, some (.ldc 205), none, some .iand, some .iadd, some (.aload_n 0), some (.getfield 83), none, none, some (.iload_n 2), some .iaload, some (.bipush 16), none, some .iushr, some .iadd, some (.aload_n 0), some (.getfield 83), none, none, some (.iload_n 2), some .iaload, some (.ldc 205), none, some .iand, some .iadd, some (.istore_n 3), some (.iconst 0), some (.istore 4), none, some (.iload 4), none, some (.aload_n 0), some (.getfield 86), none, none, some (.iload_n 2), some .iaload, some (.if_icmp .ge 45), none, none, some (.aload_n 0), some (.getfield 80), none, none, some (.iload_n 2), some .iaload, some (.iload 4), none, some .iadd, some (.istore 5), none, some (.iload_n 3), some (.iload 5), none, some (.aload_n 0), some (.getfield 126), none, none, some (.if_icmp .ne 9), none, none, some (.sipush 256), none, none, some (.goto 10), none, none, some (.aload_n 0), some (.getfield 7), none, none, some (.iload 5), none, some .iaload, some .iadd, some (.istore_n 3), some (.iinc 4 1), none, none, some (.goto (-50)), none, none, some (.iload_n 3), some (.ldc 205), none, some (.if_icmp .le 16), none, none, some (.iload_n 3), some (.ldc 206), none, some .irem, some (.iload_n 3), some (.ldc 206), none, some .idiv, some .iadd, some (.istore_n 3), some (.goto (-16)), none, none, some (.ldc 205), none, some (.iload_n 3), some .isub, some .ireturn]
/-- SubflowBundleModel.state(I)I -/
def pT113 : List (Option Instr) := [some (.iload_n 1), some (.invokestatic 114), none, none, some (.ifCond .eq 12), none, none, some (.aload_n 0), some (.getfield 20), none, none, some (.iload_n 1), some .iaload, some (.goto 4), none, none, some (.iconst (-1)), some .ireturn]
/-- SubflowBundleModel.smooth(I)I -/
def pT114 : List (Option Instr) := [some (.iload_n 1), some (.invokestatic 114), none, none, some (.ifCond .eq 21), none, none, some (.aload_n 0), some (.getfield 35), none, none, some (.iload_n 1), some .baload, some (.ifCond .eq 12), none, none, some (.aload_n 0), some (.getfield 38), none, none, some (.iload_n 1), some .iaload, some (.goto 4), none, none, some (.iconst (-1)), some .ireturn]
/-- SubflowBundleModel.timeout(I)I -/
def pT115 : List (Option Instr) := [some (.iload_n 1), some (.invokestatic 114), none, none, some (.ifCond .eq 12), none, none, some (.aload_n 0), some (.getfield 29), none, none, some (.iload_n 1), some .iaload, some (.goto 4), none, none, some (.iconst (-1)), some .ireturn]
/-- SubflowBundleModel.unacked(I)I -/
def pT116 : List (Option Instr) := [some (.iload_n 1), some (.invokestatic 114), none, none, some (.ifCond .ne 7), none, none, some (.iconst (-1)), some (.goto 30), none, none, some (.aload_n 0), some (.getfield 20), none, none, some (.iload_n 1), some .iaload, some (.iconst 4), some (.if_icmp .ne 7), none, none, some (.iconst 0), some (.goto 16), none, none, some (.aload_n 0), some (.getfield 47), none, none, some (.iload_n 1), some .iaload, some (.aload_n 0), some (.getfield 44), none, none, some (.iload_n 1), some .iaload, some .isub, some .ireturn]
/-- SubflowBundleModel.acknowledged()I -/
def pT117 : List (Option Instr) := [some (.aload_n 0), some (.getfield 178), none, none, some .ireturn]
/-- SubflowBundleModel.sent(I)I -/
def pT118 : List (Option Instr) := [some (.iload_n 1), some (.invokestatic 114), none, none, some (.ifCond .eq 12), none, none, some (.aload_n 0), some (.getfield 50), none, none, some (.iload_n 1), some .iaload, some (.goto 4), none, none, some (.iconst (-1)), some .ireturn]
/-- SubflowBundleModel.reinjected()I -/
def pT119 : List (Option Instr) := [some (.aload_n 0), some (.getfield 136), none, none, some .ireturn]
/-- SubflowBundleModel.token()I -/
def pT120 : List (Option Instr) := [some (.aload_n 0), some (.getfield 101), none, none, some .ireturn]
/-- SubflowBundleLaw.law([I)Z -/
def pT121 : List (Option Instr) := [some (.new 7), none, none, some .dup, some (.aload_n 0), some (.iconst 0), some (.invokestatic 9), none, none, some (.aload_n 0), some (.iconst 1), some (.invokestatic 9), none, none, some (.aload_n 0), some (.iconst 2), some (.invokestatic 9), none, none, some (.invokespecial 15), none, none, some (.astore_n 1), some (.new 18), none, none, some .dup, some (.aload_n 0), some (.iconst 0), some (.invokestatic 9), none, none, some (.aload_n 0), some (.iconst 1), some (.invokestatic 9), none, none, some (.aload_n 0), some (.iconst 2), some (.invokestatic 9), none, none, some (.invokespecial 20), none, none, some (.astore_n 2), some (.iconst 3), some (.istore_n 3), some (.iload_n 3), some (.aload_n 0), some .arraylength, some (.iconst 5), some .isub, some (.if_icmp .gt 703), none, none, some (.aload_n 0), some (.iload_n 3), some .iaload, some (.bipush 31), none, some .iand, some (.tableswitch 688 0 19 #[94, 137, 160, 193, 206, 219, 242, 275, 334, 403, 452, 521, 544, 567, 590, 613, 626, 639, 662, 675]), none, none, none, none, none, none, none, none, none, none, none, none, none, none, none, none, none, none, none, none, none, none, none, none, none, none, none, none, none, none, none, none, none, none, none, none, none, none, none, none, none, none, none, none, none, none, none, none, none, none, none, none, none, none, none, none, none, none, none, none, none, none, none, none, none, none, none, none, none, none, none, none, none, none, none, none, none, none, none, none, none, none, none, none, none, none, none, none, none, none, none, none, none, some (.aload_n 1), some (.aload_n 0), some (.iload_n 3), some (.iconst 1), some .iadd, some .iaload, some (.aload_n 0), some (.iload_n 3), some (.iconst 2), some .iadd, some .iaload, some (.aload_n 0), some (.iload_n 3), some (.iconst 3), some .iadd, some .iaload, some (.invokevirtual 21), none, none, some (.aload_n 2), some (.aload_n 0), some (.iload_n 3), some (.iconst 1), some .iadd, some .iaload, some (.aload_n 0), some (.iload_n 3), some (.iconst 2), some .iadd, some .iaload, some (.aload_n 0), some (.iload_n 3), some (.iconst 3), some .iadd, some .iaload, some (.invokevirtual 25), none, none, some (.if_icmp .eq 556), none, none, some (.iconst 0), some .ireturn, some (.aload_n 1), some (.aload_n 0), some (.iload_n 3), some (.iconst 1), some .iadd, some .iaload, some (.invokevirtual 26), none, none, some (.aload_n 2), some (.aload_n 0), some (.iload_n 3), some (.iconst 1), some .iadd, some .iaload, some (.invokevirtual 30), none, none, some (.if_icmp .eq 533), none, none, some (.iconst 0), some .ireturn, some (.aload_n 1), some (.aload_n 0), some (.iload_n 3), some (.iconst 1), some .iadd, some .iaload, some (.aload_n 0), some (.iload_n 3), some (.iconst 2), some .iadd, some .iaload, some (.invokevirtual 31), none, none, some (.aload_n 2), some (.aload_n 0), some (.iload_n 3), some (.iconst 1), some .iadd, some .iaload, some (.aload_n 0), some (.iload_n 3), some (.iconst 2), some .iadd, some .iaload, some (.invokevirtual 35), none, none, some (.if_icmp .eq 500), none, none, some (.iconst 0), some .ireturn, some (.aload_n 1), some (.invokevirtual 36), none, none, some (.aload_n 2), some (.invokevirtual 40), none, none, some (.if_icmp .eq 487), none, none, some (.iconst 0), some .ireturn, some (.aload_n 1), some (.invokevirtual 41), none, none, some (.aload_n 2), some (.invokevirtual 45), none, none, some (.if_icmp .eq 474), none, none, some (.iconst 0), some .ireturn, some (.aload_n 1), some (.aload_n 0), some (.iload_n 3), some (.iconst 1), some .iadd, some .iaload, some (.invokevirtual 46), none, none, some (.aload_n 2), some (.aload_n 0), some (.iload_n 3), some (.iconst 1), some .iadd, some .iaload, some (.invokevirtual 50), none, none, some (.if_icmp .eq 451), none, none, some (.iconst 0), some .ireturn, some (.aload_n 1), some (.aload_n 0), some (.iload_n 3), some (.iconst 1), some .iadd, some .iaload, some (.aload_n 0), some (.iload_n 3), some (.iconst 2), some .iadd, some .iaload, some (.invokevirtual 51), none, none, some (.aload_n 2), some (.aload_n 0), some (.iload_n 3), some (.iconst 1), some .iadd, some .iaload, some (.aload_n 0), some (.iload_n 3), some (.iconst 2), some .iadd, some .iaload, some (.invokevirtual 55), none, none, some (.if_icmp .eq 418), none, none, some (.iconst 0), some .ireturn, some (.aload_n 1), some (.aload_n 0), some (.iload_n 3), some (.iconst 1), some .iadd, some .iaload, some (.aload_n 0), some (.iload_n 3), some (.iconst 2), some .iadd, some .iaload, some (.ifCond .eq 7), none, none, some (.iconst 1), some (.goto 4), none, none, some (.iconst 0), some (.aload_n 0), some (.iload_n 3), some (.iconst 3), some .iadd, some .iaload, some (.invokevirtual 56), none, none, some (.aload_n 2), some (.aload_n 0), some (.iload_n 3), some (.iconst 1), some .iadd, some .iaload, some (.aload_n 0), some (.iload_n 3), some (.iconst 2), some .iadd, some .iaload, some (.ifCond .eq 7), none, none, some (.iconst 1), some (.goto 4), none, none, some (.iconst 0), some (.aload_n 0), some (.iload_n 3), some (.iconst 3), some .iadd, some .iaload, some (.invokevirtual 60), none, none, some (.if_icmp .eq 359), none, none, some (.iconst 0), some .ireturn, some (.aload_n 1), some (.aload_n 0), some (.iload_n 3), some (.iconst 1), some .iadd, some .iaload, some (.aload_n 0), some (.iload_n 3), some (.iconst 2), some .iadd, some .iaload, some (.ifCond .eq 7), none, none, some (.iconst 1), some (.goto 4), none, none, some (.iconst 0), some (.aload_n 0), some (.iload_n 3), some (.iconst 3), some .iadd, some .iaload, some (.aload_n 0), some (.iload_n 3), some (.iconst 4), some .iadd, some .iaload, some (.invokevirtual 61), none, none, some (.aload_n 2), some (.aload_n 0), some (.iload_n 3), some (.iconst 1), some .iadd, some .iaload, some (.aload_n 0), some (.iload_n 3), some (.iconst 2), some .iadd, some .iaload, some (.ifCond .eq 7), none, none, some (.iconst 1), some (.goto 4), none, none, some (.iconst 0), some (.aload_n 0), some (.iload_n 3), some (.iconst 3), some .iadd, some .iaload, some (.aload_n 0), some (.iload_n 3), some (.iconst 4), some .iadd, some .iaload, some (.invokevirtual 65), none, none, some (.if_icmp .eq 290), none, none, some (.iconst 0), some .ireturn, some (.aload_n 1), some (.aload_n 0), some (.iload_n 3), some (.iconst 1), some .iadd, some .iaload, some (.aload_n 0), some (.iload_n 3), some (.iconst 2), some .iadd, some .iaload, some (.ifCond .eq 7), none, none, some (.iconst 1), some (.goto 4), none, none, some (.iconst 0), some (.invokevirtual 66), none, none, some (.aload_n 2), some (.aload_n 0), some (.iload_n 3), some (.iconst 1), some .iadd, some .iaload, some (.aload_n 0), some (.iload_n 3), some (.iconst 2), some .iadd, some .iaload, some (.ifCond .eq 7), none, none, some (.iconst 1), some (.goto 4), none, none, some (.iconst 0), some (.invokevirtual 70), none, none, some (.if_icmp .eq 241), none, none, some (.iconst 0), some .ireturn, some (.aload_n 1), some (.aload_n 0), some (.iload_n 3), some (.iconst 1), some .iadd, some .iaload, some (.aload_n 0), some (.iload_n 3), some (.iconst 2), some .iadd, some .iaload, some (.ifCond .eq 7), none, none, some (.iconst 1), some (.goto 4), none, none, some (.iconst 0), some (.aload_n 0), some (.iload_n 3), some (.iconst 3), some .iadd, some .iaload, some (.aload_n 0), some (.iload_n 3), some (.iconst 4), some .iadd, some .iaload, some (.invokevirtual 71), none, none, some (.aload_n 2), some (.aload_n 0), some (.iload_n 3), some (.iconst 1), some .iadd, some .iaload, some (.aload_n 0), some (.iload_n 3), some (.iconst 2), some .iadd, some .iaload, some (.ifCond .eq 7), none, none, some (.iconst 1), some (.goto 4), none, none, some (.iconst 0), some (.aload_n 0), some (.iload_n 3), some (.iconst 3), some .iadd, some .iaload, some (.aload_n 0), some (.iload_n 3), some (.iconst 4), some .iadd, some .iaload, some (.invokevirtual 75), none, none, some (.if_icmp .eq 172), none, none, some (.iconst 0), some .ireturn, some (.aload_n 1), some (.aload_n 0), some (.iload_n 3), some (.iconst 1), some .iadd, some .iaload, some (.invokevirtual 76), none, none, some (.aload_n 2), some (.aload_n 0), some (.iload_n 3), some (.iconst 1), some .iadd, some .iaload, some (.invokevirtual 79), none, none, some (.if_icmp .eq 149), none, none, some (.iconst 0), some .ireturn, some (.aload_n 1), some (.aload_n 0), some (.iload_n 3), some (.iconst 1), some .iadd, some .iaload, some (.invokevirtual 80), none, none, some (.aload_n 2), some (.aload_n 0), some (.iload_n 3), some (.iconst 1), some .iadd, some .iaload, some (.invokevirtual 83), none, none, some (.if_icmp .eq 126), none, none, some (.iconst 0), some .ireturn, some (.aload_n 1), some (.aload_n 0), some (.iload_n 3), some (.iconst 1), some .iadd, some .iaload, some (.invokevirtual 84), none, none, some (.aload_n 2), some (.aload_n 0), some (.iload_n 3), some (.iconst 1), some .iadd, some .iaload, some (.invokevirtual 87), none, none, some (.if_icmp .eq 103), none, none, some (.iconst 0), some .ireturn, some (.aload_n 1), some (.aload_n 0), some (.iload_n 3), some (.iconst 1), some .iadd, some .iaload, some (.invokevirtual 88), none, none, some (.aload_n 2), some (.aload_n 0), some (.iload_n 3), some (.iconst 1), some .iadd, some .iaload, some (.invokevirtual 91), none, none, some (.if_icmp .eq 80), none, none, some (.iconst 0), some .ireturn, some (.aload_n 1), some (.invokevirtual 92), none, none, some (.aload_n 2), some (.invokevirtual 95), none, none, some (.if_icmp .eq 67), none, none, some (.iconst 0), some .ireturn, some (.aload_n 1), some (.invokevirtual 96), none, none, some (.aload_n 2), some (.invokevirtual 99), none, none, some (.if_icmp .eq 54), none, none, some (.iconst 0), some .ireturn, some (.aload_n 1), some (.aload_n 0), some (.iload_n 3), some (.iconst 1), some .iadd, some .iaload, some (.invokevirtual 100), none, none, some (.aload_n 2), some (.aload_n 0), some (.iload_n 3), some (.iconst 1), some .iadd, some .iaload, some (.invokevirtual 103), none, none, some (.if_icmp .eq 31), none, none, some (.iconst 0), some .ireturn, some (.aload_n 1), some (.invokevirtual 104), none, none, some (.aload_n 2), some (.invokevirtual 107), none, none, some (.if_icmp .eq 18), none, none, some (.iconst 0), some .ireturn, some (.aload_n 1), some (.invokevirtual 108), none, none, some (.aload_n 2), some (.invokevirtual 111), none, none, some (.if_icmp .eq 5), none, none, some (.iconst 0), some .ireturn, some (.iinc 3 5), none, none, some (.goto (-705)), none, none, some (.iconst 1), some .ireturn]
abbrev mSB_init : Nat := 0
abbrev mSB_clamp : Nat := 1
abbrev mSB_tokenOf : Nat := 2
abbrev mInteger_rotateLeft : Nat := 3
abbrev mStream_init : Nat := 4
abbrev mPath_init : Nat := 5
abbrev mPipe_init : Nat := 6
abbrev mCopy_init : Nat := 7
abbrev mSegment_init : Nat := 8
abbrev mHostA_init : Nat := 9
abbrev mHostB_init : Nat := 10
abbrev mArrivals_init : Nat := 11
abbrev mSB_open : Nat := 12
abbrev mSB_isPath : Nat := 13
abbrev mSB_isAnyIn : Nat := 14
abbrev mHostA_sendSyn : Nat := 15
abbrev mPath_addSegment : Nat := 16
abbrev mPath_hasRoom : Nat := 17
abbrev mSegment_fill : Nat := 18
abbrev mHostA_sendFirst : Nat := 19
abbrev mHostA_transmit : Nat := 20
abbrev mPath_dispatch : Nat := 21
abbrev mPath_pipe : Nat := 22
abbrev mPipe_append : Nat := 23
abbrev mCopy_fill : Nat := 24
abbrev mStream_valueOf : Nat := 25
abbrev mSB_close : Nat := 26
abbrev mSB_isInUse : Nat := 27
abbrev mPath_shut : Nat := 28
abbrev mPipe_empty : Nat := 29
abbrev mSB_write : Nat := 30
abbrev mStream_append : Nat := 31
abbrev mSB_finish : Nat := 32
abbrev mStream_appendEnd : Nat := 33
abbrev mSB_read : Nat := 34
abbrev mHostB_takeNext : Nat := 35
abbrev mSB_pass : Nat := 36
abbrev mSB_tick : Nat := 37
abbrev mSB_deliverForward : Nat := 38
abbrev mPipe_takeDue : Nat := 39
abbrev mPipe_takeOut : Nat := 40
abbrev mPipe_copyAt : Nat := 41
abbrev mHostB_hear : Nat := 42
abbrev mHostB_hearData : Nat := 43
abbrev mArrivals_took : Nat := 44
abbrev mHostB_limit : Nat := 45
abbrev mArrivals_take : Nat := 46
abbrev mHostB_answer : Nat := 47
abbrev mSB_deliverBack : Nat := 48
abbrev mHostA_hear : Nat := 49
abbrev mHostA_settleBelow : Nat := 50
abbrev mPath_takeBelow : Nat := 51
abbrev mPath_measure : Nat := 52
abbrev mHostA_ring : Nat := 53
abbrev mHostA_sendAll : Nat := 54
abbrev mHostA_isAnyOpen : Nat := 55
abbrev mHostA_quickestThatCan : Nat := 56
abbrev mPath_isQuickerThan : Nat := 57
abbrev mHostA_firstUnit : Nat := 58
abbrev mHostA_isLoose : Nat := 59
abbrev mPath_bears : Nat := 60
abbrev mHostA_nextSegment : Nat := 61
abbrev mHostA_countCarried : Nat := 62
abbrev mSB_delay : Nat := 63
abbrev mSB_lose : Nat := 64
abbrev mSB_twice : Nat := 65
abbrev mSB_flight : Nat := 66
abbrev mSB_word : Nat := 67
abbrev mSB_headOf : Nat := 68
abbrev mSB_halves : Nat := 69
abbrev mSB_state : Nat := 70
abbrev mSB_smooth : Nat := 71
abbrev mSB_timeout : Nat := 72
abbrev mSB_unacked : Nat := 73
abbrev mPath_unackedNumbers : Nat := 74
abbrev mSB_acknowledged : Nat := 75
abbrev mSB_received : Nat := 76
abbrev mSB_sent : Nat := 77
abbrev mSB_reinjected : Nat := 78
abbrev mSB_token : Nat := 79
abbrev mSBLaw_cell : Nat := 80
abbrev mSBModel_init : Nat := 81
abbrev mSBModel_open : Nat := 82
abbrev mSBModel_path : Nat := 83
abbrev mSBModel_begin : Nat := 84
abbrev mSBModel_transmit : Nat := 85
abbrev mSBModel_ship : Nat := 86
abbrev mSBModel_put : Nat := 87
abbrev mSBModel_close : Nat := 88
abbrev mSBModel_shut : Nat := 89
abbrev mSBModel_write : Nat := 90
abbrev mSBModel_finish : Nat := 91
abbrev mSBModel_read : Nat := 92
abbrev mSBModel_pass : Nat := 93
abbrev mSBModel_deliver : Nat := 94
abbrev mSBModel_drop : Nat := 95
abbrev mSBModel_atB : Nat := 96
abbrev mSBModel_received : Nat := 97
abbrev mSBModel_atA : Nat := 98
abbrev mSBModel_measure : Nat := 99
abbrev mSBModel_ring : Nat := 100
abbrev mSBModel_sends : Nat := 101
abbrev mSBModel_open3 : Nat := 102
abbrev mSBModel_load : Nat := 103
abbrev mSBModel_length : Nat := 104
abbrev mSBModel_loose : Nat := 105
abbrev mSBModel_delay : Nat := 106
abbrev mSBModel_lose : Nat := 107
abbrev mSBModel_there : Nat := 108
abbrev mSBModel_twice : Nat := 109
abbrev mSBModel_flight : Nat := 110
abbrev mSBModel_word : Nat := 111
abbrev mSBModel_check : Nat := 112
abbrev mSBModel_state : Nat := 113
abbrev mSBModel_smooth : Nat := 114
abbrev mSBModel_timeout : Nat := 115
abbrev mSBModel_unacked : Nat := 116
abbrev mSBModel_acknowledged : Nat := 117
abbrev mSBModel_sent : Nat := 118
abbrev mSBModel_reinjected : Nat := 119
abbrev mSBModel_token : Nat := 120
abbrev mSBLaw_law : Nat := 121
abbrev PMt : Type := List (Option Instr) × ByteArray × Nat × Room × Option FieldType × Nat × MethodName
def pM : List PMt := [(pT0, prog_1_method_1_code, 8, { frames := 4, cells := 101, slots := 3740, locals := 84 }, none, 6, ⟨"SubflowBundle", "<init>", "(III)V"⟩),
  (pT1, prog_1_method_22_code, 8, { frames := 1, cells := 0, slots := 0, locals := 22 }, (some FieldType.int), 3, ⟨"SubflowBundle", "clamp", "(III)I"⟩),
  (pT2, prog_1_method_23_code, 8, { frames := 1, cells := 0, slots := 0, locals := 21 }, (some FieldType.int), 2, ⟨"SubflowBundle", "tokenOf", "(I)I"⟩),
  (pT3, prog_12_method_50_code, 11, { frames := 0, cells := 0, slots := 0, locals := 0 }, (some FieldType.int), 2, ⟨"java/lang/Integer", "rotateLeft", "(II)I"⟩),
  (pT4, prog_9_method_1_code, 7, { frames := 1, cells := 1, slots := 401, locals := 22 }, none, 1, ⟨"SubflowBundle$Stream", "<init>", "()V"⟩),
  (pT5, prog_6_method_1_code, 4, { frames := 3, cells := 20, slots := 109, locals := 63 }, none, 2, ⟨"SubflowBundle$Path", "<init>", "()V"⟩),
  (pT6, prog_7_method_1_code, 5, { frames := 2, cells := 7, slots := 42, locals := 42 }, none, 2, ⟨"SubflowBundle$Pipe", "<init>", "()V"⟩),
  (pT7, prog_3_method_1_code, 1, { frames := 1, cells := 0, slots := 0, locals := 22 }, none, 1, ⟨"SubflowBundle$Copy", "<init>", "()V"⟩),
  (pT8, prog_8_method_1_code, 6, { frames := 1, cells := 0, slots := 0, locals := 22 }, none, 1, ⟨"SubflowBundle$Segment", "<init>", "()V"⟩),
  (pT9, prog_4_method_1_code, 2, { frames := 1, cells := 2, slots := 802, locals := 22 }, none, 5, ⟨"SubflowBundle$HostA", "<init>", "(LSubflowBundle$Stream;[LSubflowBundle$Path;II)V"⟩),
  (pT10, prog_5_method_1_code, 3, { frames := 2, cells := 10, slots := 2021, locals := 42 }, none, 5, ⟨"SubflowBundle$HostB", "<init>", "(LSubflowBundle$Stream;II)V"⟩),
  (pT11, prog_2_method_1_code, 0, { frames := 1, cells := 1, slots := 402, locals := 22 }, none, 1, ⟨"SubflowBundle$Arrivals", "<init>", "()V"⟩),
  (pT12, prog_1_method_2_code, 8, { frames := 5, cells := 0, slots := 0, locals := 115 }, (some FieldType.boolean), 4, ⟨"SubflowBundle", "open", "(III)Z"⟩),
  (pT13, prog_1_method_24_code, 8, { frames := 0, cells := 0, slots := 0, locals := 0 }, (some FieldType.boolean), 1, ⟨"SubflowBundle", "isPath", "(I)Z"⟩),
  (pT14, prog_1_method_26_code, 8, { frames := 0, cells := 0, slots := 0, locals := 0 }, (some FieldType.boolean), 3, ⟨"SubflowBundle", "isAnyIn", "(I)Z"⟩),
  (pT15, prog_4_method_2_code, 2, { frames := 4, cells := 0, slots := 0, locals := 92 }, none, 4, ⟨"SubflowBundle$HostA", "sendSyn", "(LSubflowBundle$Path;II)V"⟩),
  (pT16, prog_6_method_5_code, 4, { frames := 1, cells := 0, slots := 0, locals := 24 }, (some (FieldType.object "SubflowBundle$Segment")), 5, ⟨"SubflowBundle$Path", "addSegment", "(III)LSubflowBundle$Segment;"⟩),
  (pT17, prog_6_method_4_code, 4, { frames := 0, cells := 0, slots := 0, locals := 0 }, (some FieldType.boolean), 1, ⟨"SubflowBundle$Path", "hasRoom", "()Z"⟩),
  (pT18, prog_8_method_2_code, 6, { frames := 0, cells := 0, slots := 0, locals := 0 }, none, 5, ⟨"SubflowBundle$Segment", "fill", "(IIII)V"⟩),
  (pT19, prog_4_method_13_code, 2, { frames := 3, cells := 0, slots := 0, locals := 69 }, none, 4, ⟨"SubflowBundle$HostA", "sendFirst", "(LSubflowBundle$Path;LSubflowBundle$Segment;I)V"⟩),
  (pT20, prog_4_method_14_code, 2, { frames := 2, cells := 0, slots := 0, locals := 44 }, none, 6, ⟨"SubflowBundle$HostA", "transmit", "(LSubflowBundle$Path;LSubflowBundle$Segment;I)V"⟩),
  (pT21, prog_6_method_3_code, 4, { frames := 1, cells := 0, slots := 0, locals := 22 }, (some (FieldType.object "SubflowBundle$Copy")), 3, ⟨"SubflowBundle$Path", "dispatch", "(ZI)LSubflowBundle$Copy;"⟩),
  (pT22, prog_6_method_2_code, 4, { frames := 0, cells := 0, slots := 0, locals := 0 }, (some (FieldType.object "SubflowBundle$Pipe")), 2, ⟨"SubflowBundle$Path", "pipe", "(Z)LSubflowBundle$Pipe;"⟩),
  (pT23, prog_7_method_3_code, 5, { frames := 0, cells := 0, slots := 0, locals := 0 }, (some (FieldType.object "SubflowBundle$Copy")), 3, ⟨"SubflowBundle$Pipe", "append", "(I)LSubflowBundle$Copy;"⟩),
  (pT24, prog_3_method_2_code, 1, { frames := 0, cells := 0, slots := 0, locals := 0 }, none, 6, ⟨"SubflowBundle$Copy", "fill", "(IIIII)V"⟩),
  (pT25, prog_9_method_4_code, 7, { frames := 0, cells := 0, slots := 0, locals := 0 }, (some FieldType.int), 2, ⟨"SubflowBundle$Stream", "valueOf", "(I)I"⟩),
  (pT26, prog_1_method_3_code, 8, { frames := 2, cells := 0, slots := 0, locals := 41 }, (some FieldType.boolean), 2, ⟨"SubflowBundle", "close", "(I)Z"⟩),
  (pT27, prog_1_method_25_code, 8, { frames := 1, cells := 0, slots := 0, locals := 20 }, (some FieldType.boolean), 2, ⟨"SubflowBundle", "isInUse", "(I)Z"⟩),
  (pT28, prog_6_method_11_code, 4, { frames := 1, cells := 0, slots := 0, locals := 20 }, none, 1, ⟨"SubflowBundle$Path", "shut", "()V"⟩),
  (pT29, prog_7_method_6_code, 5, { frames := 0, cells := 0, slots := 0, locals := 0 }, none, 1, ⟨"SubflowBundle$Pipe", "empty", "()V"⟩),
  (pT30, prog_1_method_4_code, 8, { frames := 2, cells := 0, slots := 0, locals := 46 }, (some FieldType.int), 3, ⟨"SubflowBundle", "write", "(II)I"⟩),
  (pT31, prog_9_method_2_code, 7, { frames := 1, cells := 0, slots := 0, locals := 22 }, (some FieldType.int), 5, ⟨"SubflowBundle$Stream", "append", "(II)I"⟩),
  (pT32, prog_1_method_5_code, 8, { frames := 1, cells := 0, slots := 0, locals := 20 }, (some FieldType.boolean), 1, ⟨"SubflowBundle", "finish", "()Z"⟩),
  (pT33, prog_9_method_3_code, 7, { frames := 0, cells := 0, slots := 0, locals := 0 }, (some FieldType.boolean), 1, ⟨"SubflowBundle$Stream", "appendEnd", "()Z"⟩),
  (pT34, prog_1_method_6_code, 8, { frames := 2, cells := 0, slots := 0, locals := 42 }, (some FieldType.int), 1, ⟨"SubflowBundle", "read", "()I"⟩),
  (pT35, prog_5_method_6_code, 3, { frames := 1, cells := 0, slots := 0, locals := 21 }, (some FieldType.int), 2, ⟨"SubflowBundle$HostB", "takeNext", "()I"⟩),
  (pT36, prog_1_method_7_code, 8, { frames := 6, cells := 0, slots := 0, locals := 141 }, (some FieldType.int), 4, ⟨"SubflowBundle", "pass", "(I)I"⟩),
  (pT37, prog_1_method_27_code, 8, { frames := 5, cells := 0, slots := 0, locals := 119 }, (some FieldType.int), 3, ⟨"SubflowBundle", "tick", "()I"⟩),
  (pT38, prog_1_method_28_code, 8, { frames := 4, cells := 0, slots := 0, locals := 94 }, (some FieldType.int), 5, ⟨"SubflowBundle", "deliverForward", "(I)I"⟩),
  (pT39, prog_7_method_5_code, 5, { frames := 2, cells := 0, slots := 0, locals := 44 }, (some (FieldType.object "SubflowBundle$Copy")), 3, ⟨"SubflowBundle$Pipe", "takeDue", "(I)LSubflowBundle$Copy;"⟩),
  (pT40, prog_7_method_4_code, 5, { frames := 1, cells := 0, slots := 0, locals := 21 }, (some (FieldType.object "SubflowBundle$Copy")), 4, ⟨"SubflowBundle$Pipe", "takeOut", "(I)LSubflowBundle$Copy;"⟩),
  (pT41, prog_7_method_2_code, 5, { frames := 0, cells := 0, slots := 0, locals := 0 }, (some (FieldType.object "SubflowBundle$Copy")), 2, ⟨"SubflowBundle$Pipe", "copyAt", "(I)LSubflowBundle$Copy;"⟩),
  (pT42, prog_5_method_2_code, 3, { frames := 3, cells := 0, slots := 0, locals := 69 }, none, 6, ⟨"SubflowBundle$HostB", "hear", "(LSubflowBundle$Copy;ILSubflowBundle$Path;I)V"⟩),
  (pT43, prog_5_method_3_code, 3, { frames := 1, cells := 0, slots := 0, locals := 23 }, none, 5, ⟨"SubflowBundle$HostB", "hearData", "(LSubflowBundle$Copy;LSubflowBundle$Arrivals;)V"⟩),
  (pT44, prog_2_method_2_code, 0, { frames := 0, cells := 0, slots := 0, locals := 0 }, (some FieldType.boolean), 2, ⟨"SubflowBundle$Arrivals", "took", "(I)Z"⟩),
  (pT45, prog_5_method_4_code, 3, { frames := 0, cells := 0, slots := 0, locals := 0 }, (some FieldType.int), 1, ⟨"SubflowBundle$HostB", "limit", "()I"⟩),
  (pT46, prog_2_method_3_code, 0, { frames := 0, cells := 0, slots := 0, locals := 0 }, none, 4, ⟨"SubflowBundle$Arrivals", "take", "(II)V"⟩),
  (pT47, prog_5_method_5_code, 3, { frames := 2, cells := 0, slots := 0, locals := 44 }, none, 6, ⟨"SubflowBundle$HostB", "answer", "(LSubflowBundle$Path;ILSubflowBundle$Arrivals;I)V"⟩),
  (pT48, prog_1_method_29_code, 8, { frames := 4, cells := 0, slots := 0, locals := 89 }, (some FieldType.int), 5, ⟨"SubflowBundle", "deliverBack", "(I)I"⟩),
  (pT49, prog_4_method_3_code, 2, { frames := 3, cells := 0, slots := 0, locals := 65 }, none, 5, ⟨"SubflowBundle$HostA", "hear", "(LSubflowBundle$Copy;LSubflowBundle$Path;I)V"⟩),
  (pT50, prog_4_method_4_code, 2, { frames := 1, cells := 0, slots := 0, locals := 23 }, (some (FieldType.object "SubflowBundle$Segment")), 7, ⟨"SubflowBundle$HostA", "settleBelow", "(LSubflowBundle$Path;I)LSubflowBundle$Segment;"⟩),
  (pT51, prog_6_method_6_code, 4, { frames := 0, cells := 0, slots := 0, locals := 0 }, (some (FieldType.object "SubflowBundle$Segment")), 4, ⟨"SubflowBundle$Path", "takeBelow", "(I)LSubflowBundle$Segment;"⟩),
  (pT52, prog_6_method_9_code, 4, { frames := 2, cells := 0, slots := 0, locals := 44 }, none, 2, ⟨"SubflowBundle$Path", "measure", "(I)V"⟩),
  (pT53, prog_4_method_5_code, 2, { frames := 3, cells := 0, slots := 0, locals := 69 }, none, 3, ⟨"SubflowBundle$HostA", "ring", "(LSubflowBundle$Path;I)V"⟩),
  (pT54, prog_4_method_6_code, 2, { frames := 4, cells := 0, slots := 0, locals := 95 }, none, 5, ⟨"SubflowBundle$HostA", "sendAll", "(I)V"⟩),
  (pT55, prog_4_method_7_code, 2, { frames := 0, cells := 0, slots := 0, locals := 0 }, (some FieldType.boolean), 2, ⟨"SubflowBundle$HostA", "isAnyOpen", "()Z"⟩),
  (pT56, prog_4_method_8_code, 2, { frames := 3, cells := 0, slots := 0, locals := 70 }, (some (FieldType.object "SubflowBundle$Path")), 6, ⟨"SubflowBundle$HostA", "quickestThatCan", "(I)LSubflowBundle$Path;"⟩),
  (pT57, prog_6_method_10_code, 4, { frames := 0, cells := 0, slots := 0, locals := 0 }, (some FieldType.boolean), 2, ⟨"SubflowBundle$Path", "isQuickerThan", "(LSubflowBundle$Path;)Z"⟩),
  (pT58, prog_4_method_9_code, 2, { frames := 2, cells := 0, slots := 0, locals := 47 }, (some FieldType.int), 4, ⟨"SubflowBundle$HostA", "firstUnit", "(LSubflowBundle$Path;)I"⟩),
  (pT59, prog_4_method_10_code, 2, { frames := 1, cells := 0, slots := 0, locals := 23 }, (some FieldType.boolean), 5, ⟨"SubflowBundle$HostA", "isLoose", "(ILSubflowBundle$Path;)Z"⟩),
  (pT60, prog_6_method_7_code, 4, { frames := 0, cells := 0, slots := 0, locals := 0 }, (some FieldType.boolean), 4, ⟨"SubflowBundle$Path", "bears", "(I)Z"⟩),
  (pT61, prog_4_method_11_code, 2, { frames := 3, cells := 0, slots := 0, locals := 70 }, (some (FieldType.object "SubflowBundle$Segment")), 4, ⟨"SubflowBundle$HostA", "nextSegment", "(LSubflowBundle$Path;)LSubflowBundle$Segment;"⟩),
  (pT62, prog_4_method_12_code, 2, { frames := 0, cells := 0, slots := 0, locals := 0 }, none, 4, ⟨"SubflowBundle$HostA", "countCarried", "(II)V"⟩),
  (pT63, prog_1_method_8_code, 8, { frames := 2, cells := 0, slots := 0, locals := 41 }, (some FieldType.boolean), 3, ⟨"SubflowBundle", "delay", "(II)Z"⟩),
  (pT64, prog_1_method_9_code, 8, { frames := 2, cells := 0, slots := 0, locals := 44 }, (some FieldType.boolean), 4, ⟨"SubflowBundle", "lose", "(IZI)Z"⟩),
  (pT65, prog_1_method_10_code, 8, { frames := 1, cells := 0, slots := 0, locals := 25 }, (some FieldType.boolean), 8, ⟨"SubflowBundle", "twice", "(IZII)Z"⟩),
  (pT66, prog_1_method_11_code, 8, { frames := 1, cells := 0, slots := 0, locals := 21 }, (some FieldType.int), 3, ⟨"SubflowBundle", "flight", "(IZ)I"⟩),
  (pT67, prog_1_method_12_code, 8, { frames := 2, cells := 0, slots := 0, locals := 46 }, (some FieldType.int), 6, ⟨"SubflowBundle", "word", "(IZII)I"⟩),
  (pT68, prog_1_method_30_code, 8, { frames := 1, cells := 0, slots := 0, locals := 21 }, (some FieldType.int), 6, ⟨"SubflowBundle", "headOf", "(LSubflowBundle$Copy;I)I"⟩),
  (pT69, prog_1_method_31_code, 8, { frames := 0, cells := 0, slots := 0, locals := 0 }, (some FieldType.int), 1, ⟨"SubflowBundle", "halves", "(I)I"⟩),
  (pT70, prog_1_method_13_code, 8, { frames := 1, cells := 0, slots := 0, locals := 20 }, (some FieldType.int), 2, ⟨"SubflowBundle", "state", "(I)I"⟩),
  (pT71, prog_1_method_14_code, 8, { frames := 1, cells := 0, slots := 0, locals := 20 }, (some FieldType.int), 2, ⟨"SubflowBundle", "smooth", "(I)I"⟩),
  (pT72, prog_1_method_15_code, 8, { frames := 1, cells := 0, slots := 0, locals := 20 }, (some FieldType.int), 2, ⟨"SubflowBundle", "timeout", "(I)I"⟩),
  (pT73, prog_1_method_16_code, 8, { frames := 1, cells := 0, slots := 0, locals := 22 }, (some FieldType.int), 2, ⟨"SubflowBundle", "unacked", "(I)I"⟩),
  (pT74, prog_6_method_8_code, 4, { frames := 0, cells := 0, slots := 0, locals := 0 }, (some FieldType.int), 3, ⟨"SubflowBundle$Path", "unackedNumbers", "()I"⟩),
  (pT75, prog_1_method_17_code, 8, { frames := 0, cells := 0, slots := 0, locals := 0 }, (some FieldType.int), 1, ⟨"SubflowBundle", "acknowledged", "()I"⟩),
  (pT76, prog_1_method_18_code, 8, { frames := 0, cells := 0, slots := 0, locals := 0 }, (some FieldType.int), 1, ⟨"SubflowBundle", "received", "()I"⟩),
  (pT77, prog_1_method_19_code, 8, { frames := 1, cells := 0, slots := 0, locals := 20 }, (some FieldType.int), 2, ⟨"SubflowBundle", "sent", "(I)I"⟩),
  (pT78, prog_1_method_20_code, 8, { frames := 0, cells := 0, slots := 0, locals := 0 }, (some FieldType.int), 1, ⟨"SubflowBundle", "reinjected", "()I"⟩),
  (pT79, prog_1_method_21_code, 8, { frames := 0, cells := 0, slots := 0, locals := 0 }, (some FieldType.int), 1, ⟨"SubflowBundle", "token", "()I"⟩),
  (pT80, method_2_code, 10, { frames := 0, cells := 0, slots := 0, locals := 0 }, (some FieldType.int), 2, ⟨"SubflowBundleLaw", "cell", "([II)I"⟩),
  (pT81, prog_11_method_1_code, 9, { frames := 1, cells := 27, slots := 11190, locals := 22 }, none, 6, ⟨"SubflowBundleModel", "<init>", "(III)V"⟩),
  (pT82, prog_11_method_8_code, 9, { frames := 4, cells := 0, slots := 0, locals := 106 }, (some FieldType.boolean), 6, ⟨"SubflowBundleModel", "open", "(III)Z"⟩),
  (pT83, prog_11_method_2_code, 9, { frames := 0, cells := 0, slots := 0, locals := 0 }, (some FieldType.boolean), 1, ⟨"SubflowBundleModel", "path", "(I)Z"⟩),
  (pT84, prog_11_method_9_code, 9, { frames := 3, cells := 0, slots := 0, locals := 80 }, none, 7, ⟨"SubflowBundleModel", "begin", "(III)V"⟩),
  (pT85, prog_11_method_7_code, 9, { frames := 2, cells := 0, slots := 0, locals := 55 }, none, 6, ⟨"SubflowBundleModel", "transmit", "(II)V"⟩),
  (pT86, prog_11_method_4_code, 9, { frames := 1, cells := 0, slots := 0, locals := 28 }, none, 8, ⟨"SubflowBundleModel", "ship", "(IIIIII)V"⟩),
  (pT87, prog_11_method_3_code, 9, { frames := 0, cells := 0, slots := 0, locals := 0 }, none, 9, ⟨"SubflowBundleModel", "put", "(IIIIIII)V"⟩),
  (pT88, prog_11_method_11_code, 9, { frames := 1, cells := 0, slots := 0, locals := 21 }, (some FieldType.boolean), 2, ⟨"SubflowBundleModel", "close", "(I)Z"⟩),
  (pT89, prog_11_method_10_code, 9, { frames := 0, cells := 0, slots := 0, locals := 0 }, none, 2, ⟨"SubflowBundleModel", "shut", "(I)V"⟩),
  (pT90, prog_11_method_12_code, 9, { frames := 0, cells := 0, slots := 0, locals := 0 }, (some FieldType.int), 4, ⟨"SubflowBundleModel", "write", "(II)I"⟩),
  (pT91, prog_11_method_13_code, 9, { frames := 0, cells := 0, slots := 0, locals := 0 }, (some FieldType.boolean), 2, ⟨"SubflowBundleModel", "finish", "()Z"⟩),
  (pT92, prog_11_method_14_code, 9, { frames := 0, cells := 0, slots := 0, locals := 0 }, (some FieldType.int), 1, ⟨"SubflowBundleModel", "read", "()I"⟩),
  (pT93, prog_11_method_15_code, 9, { frames := 6, cells := 0, slots := 0, locals := 156 }, (some FieldType.int), 6, ⟨"SubflowBundleModel", "pass", "(I)I"⟩),
  (pT94, prog_11_method_16_code, 9, { frames := 3, cells := 0, slots := 0, locals := 82 }, (some FieldType.int), 11, ⟨"SubflowBundleModel", "deliver", "(I)I"⟩),
  (pT95, prog_11_method_5_code, 9, { frames := 0, cells := 0, slots := 0, locals := 0 }, none, 4, ⟨"SubflowBundleModel", "drop", "(II)V"⟩),
  (pT96, prog_11_method_17_code, 9, { frames := 2, cells := 0, slots := 0, locals := 55 }, none, 8, ⟨"SubflowBundleModel", "atB", "(IIIII)V"⟩),
  (pT97, prog_11_method_37_code, 9, { frames := 0, cells := 0, slots := 0, locals := 0 }, (some FieldType.int), 2, ⟨"SubflowBundleModel", "received", "()I"⟩),
  (pT98, prog_11_method_18_code, 9, { frames := 1, cells := 0, slots := 0, locals := 23 }, none, 9, ⟨"SubflowBundleModel", "atA", "(IIIII)V"⟩),
  (pT99, prog_11_method_19_code, 9, { frames := 0, cells := 0, slots := 0, locals := 0 }, none, 4, ⟨"SubflowBundleModel", "measure", "(II)V"⟩),
  (pT100, prog_11_method_20_code, 9, { frames := 3, cells := 0, slots := 0, locals := 80 }, none, 2, ⟨"SubflowBundleModel", "ring", "(I)V"⟩),
  (pT101, prog_11_method_24_code, 9, { frames := 5, cells := 0, slots := 0, locals := 130 }, (some FieldType.boolean), 7, ⟨"SubflowBundleModel", "sends", "()Z"⟩),
  (pT102, prog_11_method_23_code, 9, { frames := 0, cells := 0, slots := 0, locals := 0 }, (some FieldType.int), 4, ⟨"SubflowBundleModel", "open3", "(I)I"⟩),
  (pT103, prog_11_method_25_code, 9, { frames := 4, cells := 0, slots := 0, locals := 106 }, (some FieldType.boolean), 5, ⟨"SubflowBundleModel", "load", "(I)Z"⟩),
  (pT104, prog_11_method_21_code, 9, { frames := 0, cells := 0, slots := 0, locals := 0 }, (some FieldType.int), 1, ⟨"SubflowBundleModel", "length", "()I"⟩),
  (pT105, prog_11_method_22_code, 9, { frames := 1, cells := 0, slots := 0, locals := 20 }, (some FieldType.boolean), 8, ⟨"SubflowBundleModel", "loose", "(II)Z"⟩),
  (pT106, prog_11_method_26_code, 9, { frames := 1, cells := 0, slots := 0, locals := 20 }, (some FieldType.boolean), 3, ⟨"SubflowBundleModel", "delay", "(II)Z"⟩),
  (pT107, prog_11_method_27_code, 9, { frames := 2, cells := 0, slots := 0, locals := 43 }, (some FieldType.boolean), 5, ⟨"SubflowBundleModel", "lose", "(IZI)Z"⟩),
  (pT108, prog_11_method_6_code, 9, { frames := 1, cells := 0, slots := 0, locals := 20 }, (some FieldType.boolean), 4, ⟨"SubflowBundleModel", "there", "(IZI)Z"⟩),
  (pT109, prog_11_method_28_code, 9, { frames := 2, cells := 0, slots := 0, locals := 43 }, (some FieldType.boolean), 7, ⟨"SubflowBundleModel", "twice", "(IZII)Z"⟩),
  (pT110, prog_11_method_29_code, 9, { frames := 1, cells := 0, slots := 0, locals := 20 }, (some FieldType.int), 3, ⟨"SubflowBundleModel", "flight", "(IZ)I"⟩),
  (pT111, prog_11_method_30_code, 9, { frames := 2, cells := 0, slots := 0, locals := 43 }, (some FieldType.int), 7, ⟨"SubflowBundleModel", "word", "(IZII)I"⟩),
  (pT112, prog_11_method_31_code, 9, { frames := 0, cells := 0, slots := 0, locals := 0 }, (some FieldType.int), 6, ⟨"SubflowBundleModel", "check", "(II)I"⟩),
  (pT113, prog_11_method_32_code, 9, { frames := 1, cells := 0, slots := 0, locals := 20 }, (some FieldType.int), 2, ⟨"SubflowBundleModel", "state", "(I)I"⟩),
  (pT114, prog_11_method_33_code, 9, { frames := 1, cells := 0, slots := 0, locals := 20 }, (some FieldType.int), 2, ⟨"SubflowBundleModel", "smooth", "(I)I"⟩),
  (pT115, prog_11_method_34_code, 9, { frames := 1, cells := 0, slots := 0, locals := 20 }, (some FieldType.int), 2, ⟨"SubflowBundleModel", "timeout", "(I)I"⟩),
  (pT116, prog_11_method_35_code, 9, { frames := 1, cells := 0, slots := 0, locals := 20 }, (some FieldType.int), 2, ⟨"SubflowBundleModel", "unacked", "(I)I"⟩),
  (pT117, prog_11_method_36_code, 9, { frames := 0, cells := 0, slots := 0, locals := 0 }, (some FieldType.int), 1, ⟨"SubflowBundleModel", "acknowledged", "()I"⟩),
  (pT118, prog_11_method_38_code, 9, { frames := 1, cells := 0, slots := 0, locals := 20 }, (some FieldType.int), 2, ⟨"SubflowBundleModel", "sent", "(I)I"⟩),
  (pT119, prog_11_method_39_code, 9, { frames := 0, cells := 0, slots := 0, locals := 0 }, (some FieldType.int), 1, ⟨"SubflowBundleModel", "reinjected", "()I"⟩),
  (pT120, prog_11_method_40_code, 9, { frames := 0, cells := 0, slots := 0, locals := 0 }, (some FieldType.int), 1, ⟨"SubflowBundleModel", "token", "()I"⟩),
  (pT121, code, 10, room_1, (some FieldType.boolean), 4, ⟨"SubflowBundleLaw", "law", "([I)Z"⟩)]
def pM0 : PMt := ([], ⟨#[]⟩, 99, { frames := 0, cells := 0, slots := 0, locals := 0 }, none, 0, ⟨"", "", ""⟩)
def pMg (y : Nat) : PMt := (pM[y]?).getD pM0
def plk {β : Type} (i : Nat) (l : List (Nat × β)) : Option β := match l with
  | [] => none
  | (j, v) :: t => match Nat.beq i j with
    | true => some v
    | false => plk i t
def pFx : List (List (Nat × Nat × Nat)) := [[(9, 0, 0), (15, 0, 1)],
  [(7, 1, 0), (13, 1, 1), (16, 1, 2), (19, 1, 3), (22, 1, 4)],
  [(9, 2, 3), (15, 2, 4), (18, 2, 0), (22, 2, 1), (26, 2, 2), (30, 2, 6), (33, 4, 5), (38, 4, 7), (49, 1, 0), (57, 2, 5), (60, 1, 3), (69, 1, 4), (72, 1, 2), (79, 6, 5), (84, 6, 4), (91, 2, 8), (95, 4, 3), (98, 4, 8), (101, 4, 9), (108, 6, 2), (111, 6, 3), (117, 4, 2), (147, 7, 1), (164, 2, 7), (167, 4, 13), (182, 6, 0)],
  [(11, 3, 3), (17, 3, 4), (21, 3, 0), (25, 3, 1), (29, 3, 2), (33, 1, 0), (42, 0, 1), (45, 3, 7), (49, 1, 3), (60, 1, 1), (63, 1, 2), (74, 3, 5), (77, 3, 6)],
  [(12, 4, 0), (18, 4, 1), (23, 4, 2), (27, 4, 5), (31, 4, 8), (34, 4, 9), (38, 4, 6), (49, 4, 3), (56, 4, 4), (63, 6, 0), (66, 6, 1), (69, 6, 2), (72, 6, 3), (75, 4, 10), (79, 4, 12), (82, 4, 11)],
  [(11, 5, 0), (18, 5, 1), (22, 1, 5)],
  [(7, 6, 0), (13, 6, 1), (16, 6, 2), (19, 6, 3), (22, 6, 5)],
  [(9, 7, 0), (15, 7, 2), (19, 7, 1)],
  [(17, 8, 0), (24, 8, 1), (30, 8, 2), (40, 8, 3), (49, 8, 4), (53, 8, 5), (60, 4, 5), (63, 2, 8), (70, 4, 6), (113, 1, 0), (118, 1, 1), (121, 1, 2), (124, 1, 3), (127, 1, 4), (134, 5, 1), (141, 4, 10), (144, 4, 11), (147, 4, 8), (153, 2, 5), (156, 3, 5), (159, 4, 13), (162, 2, 7), (186, 4, 9), (197, 4, 0), (208, 4, 1)],
  [(7, 9, 4), (13, 9, 7), (17, 9, 8), (20, 9, 11), (23, 9, 12), (26, 9, 13), (29, 9, 14), (32, 9, 15), (35, 9, 16), (38, 9, 17), (41, 9, 18), (44, 9, 19), (47, 9, 20), (50, 9, 21), (53, 9, 26), (56, 9, 27), (59, 9, 28), (62, 9, 29), (65, 9, 30), (68, 9, 31), (71, 9, 32), (74, 9, 33), (77, 9, 34), (80, 9, 35), (83, 9, 36), (86, 9, 37), (89, 9, 38), (92, 9, 0), (96, 9, 1), (101, 9, 2), (104, 9, 23), (107, 9, 3), (122, 9, 6), (126, 9, 5), (129, 9, 25), (136, 9, 24), (147, 9, 10), (171, 9, 9), (178, 9, 22)],
  [],
  []]
def pMx : List (List (Nat × Nat × Nat × Nat × Nat)) := [[(3, 0, 1, 6, 0)],
  [(1, 0, 1, 6, 0)],
  [(3, 0, 1, 6, 0), (41, 16, 4, 2, 4), (45, 19, 4, 2, 2), (54, 28, 1, 2, 4), (63, 0, 2, 7, 0), (75, 50, 3, 2, 2), (87, 52, 2, 2, 4), (104, 51, 2, 2, 4), (114, 0, 2, 8, 0), (121, 20, 4, 2, 2), (124, 55, 1, 2, 2), (128, 56, 2, 2, 2), (132, 61, 2, 2, 2), (136, 17, 1, 2, 4), (139, 57, 2, 2, 4), (143, 58, 2, 2, 2), (152, 59, 3, 2, 2), (156, 60, 2, 2, 4), (160, 62, 3, 2, 2), (170, 21, 3, 2, 4), (174, 24, 6, 2, 1), (178, 25, 2, 2, 7)],
  [(3, 0, 1, 6, 0), (32, 11, 1, 5, 0), (38, 43, 3, 2, 3), (52, 47, 5, 2, 3), (56, 46, 3, 2, 0), (66, 44, 2, 2, 0), (70, 45, 1, 2, 3), (80, 21, 3, 2, 4), (86, 24, 6, 2, 1), (90, 25, 2, 2, 7)],
  [(3, 0, 1, 6, 0), (11, 6, 1, 4, 5), (37, 8, 1, 5, 6), (41, 22, 2, 2, 4), (45, 23, 2, 2, 5), (52, 17, 1, 2, 4), (59, 18, 5, 2, 6), (85, 0, 1, 9, 0), (91, 1, 3, 1, 8), (95, 29, 1, 2, 5)],
  [(3, 0, 1, 6, 0), (17, 7, 1, 5, 1), (25, 41, 2, 2, 5), (29, 40, 2, 2, 5)],
  [(1, 0, 1, 6, 0)],
  [(3, 0, 1, 6, 0), (23, 0, 2, 8, 0)],
  [(3, 0, 1, 6, 0), (9, 1, 3, 0, 8), (13, 2, 1, 0, 8), (23, 4, 1, 5, 7), (34, 5, 1, 4, 4), (37, 9, 5, 4, 2), (46, 10, 4, 4, 3), (56, 13, 1, 0, 8), (67, 14, 2, 2, 8), (73, 15, 4, 2, 2), (77, 27, 2, 2, 8), (80, 28, 1, 2, 4), (83, 31, 3, 2, 7), (87, 33, 1, 2, 7), (91, 35, 1, 2, 3), (95, 37, 1, 2, 8), (98, 22, 2, 2, 4), (102, 40, 2, 2, 5), (108, 41, 2, 2, 5), (111, 23, 2, 2, 5), (130, 24, 6, 2, 1), (137, 68, 3, 2, 8), (150, 74, 1, 2, 4), (165, 0, 2, 8, 0), (170, 0, 2, 7, 0), (173, 3, 2, 0, 0), (180, 38, 2, 2, 8), (183, 48, 2, 2, 8), (189, 53, 3, 2, 2), (193, 54, 2, 2, 2), (201, 39, 2, 2, 5), (204, 42, 5, 2, 3), (211, 49, 4, 2, 2), (214, 69, 1, 0, 8), (217, 25, 2, 2, 7)],
  [(1, 0, 1, 6, 0), (110, 87, 8, 2, 9), (114, 83, 1, 0, 9), (118, 86, 7, 2, 9), (132, 84, 4, 2, 9), (139, 85, 3, 2, 9), (143, 89, 2, 2, 9), (150, 94, 2, 2, 9), (154, 100, 2, 2, 9), (157, 101, 1, 2, 9), (161, 95, 3, 2, 9), (164, 96, 6, 2, 9), (168, 98, 6, 2, 9), (174, 97, 1, 2, 9), (181, 99, 3, 2, 9), (184, 104, 1, 2, 9), (187, 102, 2, 2, 9), (190, 103, 2, 2, 9), (193, 105, 3, 2, 9), (197, 108, 4, 2, 9), (201, 112, 3, 2, 9)],
  [(9, 80, 2, 0, 0), (15, 0, 4, 4, 8), (20, 81, 4, 4, 9), (21, 12, 4, 2, 8), (25, 82, 4, 2, 9), (26, 26, 2, 2, 8), (30, 88, 2, 2, 9), (31, 30, 3, 2, 8), (35, 90, 3, 2, 9), (36, 32, 1, 2, 8), (40, 91, 1, 2, 9), (41, 34, 1, 2, 8), (45, 92, 1, 2, 9), (46, 36, 2, 2, 8), (50, 93, 2, 2, 9), (51, 63, 3, 2, 8), (55, 106, 3, 2, 9), (56, 64, 4, 2, 8), (60, 107, 4, 2, 9), (61, 65, 5, 2, 8), (65, 109, 5, 2, 9), (66, 66, 3, 2, 8), (70, 110, 3, 2, 9), (71, 67, 5, 2, 8), (75, 111, 5, 2, 9), (76, 70, 2, 2, 8), (79, 113, 2, 2, 9), (80, 71, 2, 2, 8), (83, 114, 2, 2, 9), (84, 72, 2, 2, 8), (87, 115, 2, 2, 9), (88, 73, 2, 2, 8), (91, 116, 2, 2, 9), (92, 75, 1, 2, 8), (95, 117, 1, 2, 9), (96, 76, 1, 2, 8), (99, 97, 1, 2, 9), (100, 77, 2, 2, 8), (103, 118, 2, 2, 9), (104, 78, 1, 2, 8), (107, 119, 1, 2, 9), (108, 79, 1, 2, 8), (111, 120, 1, 2, 9)],
  []]
def pNx : List (List (Nat × Nat)) := [[],
  [],
  [],
  [(9, 0)],
  [(9, 5), (21, 6)],
  [(9, 1)],
  [],
  [],
  [(21, 7), (28, 4), (35, 2), (44, 3)],
  [],
  [(7, 8), (18, 9)],
  []]
def pVx : List (List (Nat × Int32)) := [[],
  [],
  [],
  [],
  [],
  [],
  [],
  [],
  [(178, 75011), (179, 1234577), (220, 65535), (221, 65536)],
  [(99, 75011), (100, 1234577), (205, 65535), (206, 65536)],
  [],
  []]
def pq {β : Type} (X : List (List (Nat × β))) (q i : Nat) : Option β := match X[q]? with
  | some l => plk i l
  | none => none
def pP : PP := (fun y pc => ((pMg y).1[pc]?).join, pq pFx, pq pMx, pq pNx, pq pVx, fun y => (pMg y).2.2.1, fun y => (pMg y).2.2.2.1, fun y => (pMg y).2.2.2.2.1, fun y => (pMg y).2.2.2.2.2.1, fun y => (pMg y).2.2.2.2.2.2, fun y => (pMg y).2.1, pCl)
end
section
/-! the tables of 12.nm are the Statement's: made by a program (wip/whole/gen/valid.py) -/
def pm_isA (w : Cond) : Bool := match w with
  | .arrayClass _ => true
  | _ => false
def pm_isN (w : Cond) : Bool := match w with
  | .fieldLinkNest .. => true
  | .methodLinkNest .. => true
  | _ => false
def pm_good (w : Cond) : Bool := (w.onTables && w.keeps) || pm_isA w
def pWs : List Cond := lw_tbl.filter pm_good
def pNs : List Cond := lw_tbl.filter pm_isN
theorem wm1 {w : Cond} (j : Nat) (h : tables_1_1[j]? = some w) (g : pm_good w = true) : w ∈ pWs := List.mem_filter.mpr ⟨List.mem_append_right _ (List.mem_append_left _ (List.mem_of_getElem? h)), g⟩
theorem wm2 {w : Cond} (j : Nat) (h : tables_1_2[j]? = some w) (g : pm_good w = true) : w ∈ pWs := List.mem_filter.mpr ⟨List.mem_append_right _ (List.mem_append_right _ (List.mem_append_left _ (List.mem_of_getElem? h))), g⟩
theorem wm3 {w : Cond} (j : Nat) (h : tables_1_3[j]? = some w) (g : pm_good w = true) : w ∈ pWs := List.mem_filter.mpr ⟨List.mem_append_right _ (List.mem_append_right _ (List.mem_append_right _ (List.mem_append_left _ (List.mem_of_getElem? h)))), g⟩
theorem wm4 {w : Cond} (j : Nat) (h : tables_1_4[j]? = some w) (g : pm_good w = true) : w ∈ pWs := List.mem_filter.mpr ⟨List.mem_append_right _ (List.mem_append_right _ (List.mem_append_right _ (List.mem_append_right _ (List.mem_of_getElem? h)))), g⟩
theorem wmS {w : Cond} (j : Nat) (h : (k2_sels lw_privs)[j]? = some w) (g : pm_good w = true) : w ∈ pWs := List.mem_filter.mpr ⟨List.mem_append_left _ (List.mem_of_getElem? h), g⟩
theorem wn1 {w : Cond} (j : Nat) (h : tables_1_1[j]? = some w) (g : pm_isN w = true) : w ∈ pNs := List.mem_filter.mpr ⟨List.mem_append_right _ (List.mem_append_left _ (List.mem_of_getElem? h)), g⟩
theorem wn2 {w : Cond} (j : Nat) (h : tables_1_2[j]? = some w) (g : pm_isN w = true) : w ∈ pNs := List.mem_filter.mpr ⟨List.mem_append_right _ (List.mem_append_right _ (List.mem_append_left _ (List.mem_of_getElem? h))), g⟩
theorem wn3 {w : Cond} (j : Nat) (h : tables_1_3[j]? = some w) (g : pm_isN w = true) : w ∈ pNs := List.mem_filter.mpr ⟨List.mem_append_right _ (List.mem_append_right _ (List.mem_append_right _ (List.mem_append_left _ (List.mem_of_getElem? h)))), g⟩
theorem wn4 {w : Cond} (j : Nat) (h : tables_1_4[j]? = some w) (g : pm_isN w = true) : w ∈ pNs := List.mem_filter.mpr ⟨List.mem_append_right _ (List.mem_append_right _ (List.mem_append_right _ (List.mem_append_right _ (List.mem_of_getElem? h)))), g⟩
theorem nkG : pk_G pWs := by
  intro w hw
  have h := (List.mem_filter.mp hw).2
  unfold pm_good at h
  rw [Bool.or_eq_true] at h
  rcases h with h | h
  · exact Or.inl h
  · right
    cases w with
    | arrayClass ty => exact ⟨ty, rfl⟩
    | _ => cases h
theorem nkS : pk_S pNs := by
  intro w hw
  have h := (List.mem_filter.mp hw).2
  cases w with
  | fieldLinkNest a i c n d x => exact Or.inl ⟨a, i, c, n, d, x, rfl⟩
  | methodLinkNest a i c x => exact Or.inr ⟨a, i, c, x, rfl⟩
  | _ => cases h
theorem nkA : pk_A pWs := ⟨wm1 55 rfl rfl, wm2 4 rfl rfl⟩

def pkK (r : vw_C × List FieldType × Bool) : Prop := (∀ w ∈ u_ws r.1.1 r.1.2.1 r.1.2.2, w ∈ pWs) ∧ r.2.1.length = r.1.2.2 ∧ (∀ k, k < r.1.2.2 → parseFieldDescriptor (r.1.2.1 k).2.2.1 = some (r.2.1.getD k .long)) ∧ (∀ a, a < r.1.2.2 → ∀ b, b < r.1.2.2 → a ≠ b → (r.1.2.1 a).2.1 ≠ (r.1.2.1 b).2.1) ∧ (∀ t ∈ r.2.1, pm_plain t = true) ∧ Cond.instantiable r.1.1 r.1.2.2 ∈ pWs ∧ Cond.initialized r.1.1 ∈ pWs
theorem kW0 : ∀ w ∈ [u_lay kC0 kT0 0, u_lay kC0 kT0 1], w ∈ pWs := List.forall_mem_cons.mpr ⟨wm2 21 rfl rfl, List.forall_mem_cons.mpr ⟨wm2 23 rfl rfl, fun _ h => absurd h List.not_mem_nil⟩⟩
set_option maxRecDepth 20000 in
theorem kK0 : pkK ((kC0, kT0, 2), kY0, true) := ⟨kW0, rfl, by decide +kernel, by decide +kernel, by decide +kernel, wm2 13 rfl rfl, wm1 11 rfl rfl⟩
theorem kW1 : ∀ w ∈ [u_lay kC1 kT1 0, u_lay kC1 kT1 1, u_lay kC1 kT1 2, u_lay kC1 kT1 3, u_lay kC1 kT1 4, u_lay kC1 kT1 5], w ∈ pWs := List.forall_mem_cons.mpr ⟨wm1 95 rfl rfl, List.forall_mem_cons.mpr ⟨wm1 97 rfl rfl, List.forall_mem_cons.mpr ⟨wm1 99 rfl rfl, List.forall_mem_cons.mpr ⟨wm1 101 rfl rfl, List.forall_mem_cons.mpr ⟨wm1 103 rfl rfl, List.forall_mem_cons.mpr ⟨wm1 105 rfl rfl, fun _ h => absurd h List.not_mem_nil⟩⟩⟩⟩⟩⟩
set_option maxRecDepth 20000 in
theorem kK1 : pkK ((kC1, kT1, 6), kY1, true) := ⟨kW1, rfl, by decide +kernel, by decide +kernel, by decide +kernel, wm1 71 rfl rfl, wm1 7 rfl rfl⟩
theorem kW2 : ∀ w ∈ [u_lay kC2 kT2 0, u_lay kC2 kT2 1, u_lay kC2 kT2 2, u_lay kC2 kT2 3, u_lay kC2 kT2 4, u_lay kC2 kT2 5, u_lay kC2 kT2 6, u_lay kC2 kT2 7, u_lay kC2 kT2 8], w ∈ pWs := List.forall_mem_cons.mpr ⟨wm1 225 rfl rfl, List.forall_mem_cons.mpr ⟨wm1 227 rfl rfl, List.forall_mem_cons.mpr ⟨wm1 229 rfl rfl, List.forall_mem_cons.mpr ⟨wm1 231 rfl rfl, List.forall_mem_cons.mpr ⟨wm1 233 rfl rfl, List.forall_mem_cons.mpr ⟨wm1 235 rfl rfl, List.forall_mem_cons.mpr ⟨wm1 237 rfl rfl, List.forall_mem_cons.mpr ⟨wm1 239 rfl rfl, List.forall_mem_cons.mpr ⟨wm2 1 rfl rfl, fun _ h => absurd h List.not_mem_nil⟩⟩⟩⟩⟩⟩⟩⟩⟩
set_option maxRecDepth 20000 in
theorem kK2 : pkK ((kC2, kT2, 9), kY2, false) := ⟨kW2, rfl, by decide +kernel, by decide +kernel, by decide +kernel, wm1 208 rfl rfl, wm1 9 rfl rfl⟩
theorem kW3 : ∀ w ∈ [u_lay kC3 kT3 0, u_lay kC3 kT3 1, u_lay kC3 kT3 2, u_lay kC3 kT3 3, u_lay kC3 kT3 4, u_lay kC3 kT3 5, u_lay kC3 kT3 6, u_lay kC3 kT3 7], w ∈ pWs := List.forall_mem_cons.mpr ⟨wm2 35 rfl rfl, List.forall_mem_cons.mpr ⟨wm2 37 rfl rfl, List.forall_mem_cons.mpr ⟨wm2 39 rfl rfl, List.forall_mem_cons.mpr ⟨wm2 41 rfl rfl, List.forall_mem_cons.mpr ⟨wm2 43 rfl rfl, List.forall_mem_cons.mpr ⟨wm2 45 rfl rfl, List.forall_mem_cons.mpr ⟨wm2 47 rfl rfl, List.forall_mem_cons.mpr ⟨wm2 49 rfl rfl, fun _ h => absurd h List.not_mem_nil⟩⟩⟩⟩⟩⟩⟩⟩
set_option maxRecDepth 20000 in
theorem kK3 : pkK ((kC3, kT3, 8), kY3, false) := ⟨kW3, rfl, by decide +kernel, by decide +kernel, by decide +kernel, wm2 6 rfl rfl, wm1 10 rfl rfl⟩
theorem kW4 : ∀ w ∈ [u_lay kC4 kT4 0, u_lay kC4 kT4 1, u_lay kC4 kT4 2, u_lay kC4 kT4 3, u_lay kC4 kT4 4, u_lay kC4 kT4 5, u_lay kC4 kT4 6, u_lay kC4 kT4 7, u_lay kC4 kT4 8, u_lay kC4 kT4 9, u_lay kC4 kT4 10, u_lay kC4 kT4 11, u_lay kC4 kT4 12, u_lay kC4 kT4 13], w ∈ pWs := List.forall_mem_cons.mpr ⟨wm1 178 rfl rfl, List.forall_mem_cons.mpr ⟨wm1 180 rfl rfl, List.forall_mem_cons.mpr ⟨wm1 182 rfl rfl, List.forall_mem_cons.mpr ⟨wm1 184 rfl rfl, List.forall_mem_cons.mpr ⟨wm1 186 rfl rfl, List.forall_mem_cons.mpr ⟨wm1 188 rfl rfl, List.forall_mem_cons.mpr ⟨wm1 190 rfl rfl, List.forall_mem_cons.mpr ⟨wm1 192 rfl rfl, List.forall_mem_cons.mpr ⟨wm1 194 rfl rfl, List.forall_mem_cons.mpr ⟨wm1 196 rfl rfl, List.forall_mem_cons.mpr ⟨wm1 198 rfl rfl, List.forall_mem_cons.mpr ⟨wm1 200 rfl rfl, List.forall_mem_cons.mpr ⟨wm1 202 rfl rfl, List.forall_mem_cons.mpr ⟨wm1 204 rfl rfl, fun _ h => absurd h List.not_mem_nil⟩⟩⟩⟩⟩⟩⟩⟩⟩⟩⟩⟩⟩⟩
set_option maxRecDepth 20000 in
theorem kK4 : pkK ((kC4, kT4, 14), kY4, true) := ⟨kW4, rfl, by decide +kernel, by decide +kernel, by decide +kernel, wm1 58 rfl rfl, wm1 5 rfl rfl⟩
theorem kW5 : ∀ w ∈ [u_lay kC5 kT5 0, u_lay kC5 kT5 1], w ∈ pWs := List.forall_mem_cons.mpr ⟨wm1 111 rfl rfl, List.forall_mem_cons.mpr ⟨wm1 113 rfl rfl, fun _ h => absurd h List.not_mem_nil⟩⟩
set_option maxRecDepth 20000 in
theorem kK5 : pkK ((kC5, kT5, 2), kY5, false) := ⟨kW5, rfl, by decide +kernel, by decide +kernel, by decide +kernel, wm1 64 rfl rfl, wm1 6 rfl rfl⟩
theorem kW6 : ∀ w ∈ [u_lay kC6 kT6 0, u_lay kC6 kT6 1, u_lay kC6 kT6 2, u_lay kC6 kT6 3, u_lay kC6 kT6 4, u_lay kC6 kT6 5], w ∈ pWs := List.forall_mem_cons.mpr ⟨wm1 137 rfl rfl, List.forall_mem_cons.mpr ⟨wm1 139 rfl rfl, List.forall_mem_cons.mpr ⟨wm1 141 rfl rfl, List.forall_mem_cons.mpr ⟨wm1 143 rfl rfl, List.forall_mem_cons.mpr ⟨wm1 145 rfl rfl, List.forall_mem_cons.mpr ⟨wm1 147 rfl rfl, fun _ h => absurd h List.not_mem_nil⟩⟩⟩⟩⟩⟩
set_option maxRecDepth 20000 in
theorem kK6 : pkK ((kC6, kT6, 6), kY6, true) := ⟨kW6, rfl, by decide +kernel, by decide +kernel, by decide +kernel, wm1 118 rfl rfl, wm1 8 rfl rfl⟩
theorem kW7 : ∀ w ∈ [u_lay kC7 kT7 0, u_lay kC7 kT7 1, u_lay kC7 kT7 2], w ∈ pWs := List.forall_mem_cons.mpr ⟨wm1 48 rfl rfl, List.forall_mem_cons.mpr ⟨wm1 50 rfl rfl, List.forall_mem_cons.mpr ⟨wm1 52 rfl rfl, fun _ h => absurd h List.not_mem_nil⟩⟩⟩
set_option maxRecDepth 20000 in
theorem kK7 : pkK ((kC7, kT7, 3), kY7, false) := ⟨kW7, rfl, by decide +kernel, by decide +kernel, by decide +kernel, wm1 39 rfl rfl, wm1 4 rfl rfl⟩
theorem kW8 : ∀ w ∈ [u_lay kC8 kT8 0, u_lay kC8 kT8 1, u_lay kC8 kT8 2, u_lay kC8 kT8 3, u_lay kC8 kT8 4, u_lay kC8 kT8 5], w ∈ pWs := List.forall_mem_cons.mpr ⟨wm2 58 rfl rfl, List.forall_mem_cons.mpr ⟨wm2 60 rfl rfl, List.forall_mem_cons.mpr ⟨wm2 62 rfl rfl, List.forall_mem_cons.mpr ⟨wm2 64 rfl rfl, List.forall_mem_cons.mpr ⟨wm2 66 rfl rfl, List.forall_mem_cons.mpr ⟨wm2 68 rfl rfl, fun _ h => absurd h List.not_mem_nil⟩⟩⟩⟩⟩⟩
set_option maxRecDepth 20000 in
theorem kK8 : pkK ((kC8, kT8, 6), kY8, false) := ⟨kW8, rfl, by decide +kernel, by decide +kernel, by decide +kernel, wm1 14 rfl rfl, wm1 1 rfl rfl⟩
theorem kW9 : ∀ w ∈ [u_lay kC9 kT9 0, u_lay kC9 kT9 1, u_lay kC9 kT9 2, u_lay kC9 kT9 3, u_lay kC9 kT9 4, u_lay kC9 kT9 5, u_lay kC9 kT9 6, u_lay kC9 kT9 7, u_lay kC9 kT9 8, u_lay kC9 kT9 9, u_lay kC9 kT9 10, u_lay kC9 kT9 11, u_lay kC9 kT9 12, u_lay kC9 kT9 13, u_lay kC9 kT9 14, u_lay kC9 kT9 15, u_lay kC9 kT9 16, u_lay kC9 kT9 17, u_lay kC9 kT9 18, u_lay kC9 kT9 19, u_lay kC9 kT9 20, u_lay kC9 kT9 21, u_lay kC9 kT9 22, u_lay kC9 kT9 23, u_lay kC9 kT9 24, u_lay kC9 kT9 25, u_lay kC9 kT9 26, u_lay kC9 kT9 27, u_lay kC9 kT9 28, u_lay kC9 kT9 29, u_lay kC9 kT9 30, u_lay kC9 kT9 31, u_lay kC9 kT9 32, u_lay kC9 kT9 33, u_lay kC9 kT9 34, u_lay kC9 kT9 35, u_lay kC9 kT9 36, u_lay kC9 kT9 37, u_lay kC9 kT9 38], w ∈ pWs := List.forall_mem_cons.mpr ⟨wm3 171 rfl rfl, List.forall_mem_cons.mpr ⟨wm3 173 rfl rfl, List.forall_mem_cons.mpr ⟨wm3 175 rfl rfl, List.forall_mem_cons.mpr ⟨wm3 177 rfl rfl, List.forall_mem_cons.mpr ⟨wm3 179 rfl rfl, List.forall_mem_cons.mpr ⟨wm3 181 rfl rfl, List.forall_mem_cons.mpr ⟨wm3 183 rfl rfl, List.forall_mem_cons.mpr ⟨wm3 185 rfl rfl, List.forall_mem_cons.mpr ⟨wm3 187 rfl rfl, List.forall_mem_cons.mpr ⟨wm3 189 rfl rfl, List.forall_mem_cons.mpr ⟨wm3 191 rfl rfl, List.forall_mem_cons.mpr ⟨wm3 193 rfl rfl, List.forall_mem_cons.mpr ⟨wm3 195 rfl rfl, List.forall_mem_cons.mpr ⟨wm3 197 rfl rfl, List.forall_mem_cons.mpr ⟨wm3 199 rfl rfl, List.forall_mem_cons.mpr ⟨wm3 201 rfl rfl, List.forall_mem_cons.mpr ⟨wm3 203 rfl rfl, List.forall_mem_cons.mpr ⟨wm3 205 rfl rfl, List.forall_mem_cons.mpr ⟨wm3 207 rfl rfl, List.forall_mem_cons.mpr ⟨wm3 209 rfl rfl, List.forall_mem_cons.mpr ⟨wm3 211 rfl rfl, List.forall_mem_cons.mpr ⟨wm3 213 rfl rfl, List.forall_mem_cons.mpr ⟨wm3 215 rfl rfl, List.forall_mem_cons.mpr ⟨wm3 217 rfl rfl, List.forall_mem_cons.mpr ⟨wm3 219 rfl rfl, List.forall_mem_cons.mpr ⟨wm3 221 rfl rfl, List.forall_mem_cons.mpr ⟨wm3 223 rfl rfl, List.forall_mem_cons.mpr ⟨wm3 225 rfl rfl, List.forall_mem_cons.mpr ⟨wm3 227 rfl rfl, List.forall_mem_cons.mpr ⟨wm3 229 rfl rfl, List.forall_mem_cons.mpr ⟨wm3 231 rfl rfl, List.forall_mem_cons.mpr ⟨wm3 233 rfl rfl, List.forall_mem_cons.mpr ⟨wm3 235 rfl rfl, List.forall_mem_cons.mpr ⟨wm3 237 rfl rfl, List.forall_mem_cons.mpr ⟨wm3 239 rfl rfl, List.forall_mem_cons.mpr ⟨wm4 1 rfl rfl, List.forall_mem_cons.mpr ⟨wm4 3 rfl rfl, List.forall_mem_cons.mpr ⟨wm4 5 rfl rfl, List.forall_mem_cons.mpr ⟨wm4 7 rfl rfl, fun _ h => absurd h List.not_mem_nil⟩⟩⟩⟩⟩⟩⟩⟩⟩⟩⟩⟩⟩⟩⟩⟩⟩⟩⟩⟩⟩⟩⟩⟩⟩⟩⟩⟩⟩⟩⟩⟩⟩⟩⟩⟩⟩⟩⟩
set_option maxRecDepth 20000 in
theorem kK9 : pkK ((kC9, kT9, 39), kY9, false) := ⟨kW9, rfl, by decide +kernel, by decide +kernel, by decide +kernel, wm3 125 rfl rfl, wm1 12 rfl rfl⟩
theorem kKall : ∀ r ∈ pCl, pkK r := List.forall_mem_cons.mpr ⟨kK0, List.forall_mem_cons.mpr ⟨kK1, List.forall_mem_cons.mpr ⟨kK2, List.forall_mem_cons.mpr ⟨kK3, List.forall_mem_cons.mpr ⟨kK4, List.forall_mem_cons.mpr ⟨kK5, List.forall_mem_cons.mpr ⟨kK6, List.forall_mem_cons.mpr ⟨kK7, List.forall_mem_cons.mpr ⟨kK8, List.forall_mem_cons.mpr ⟨kK9, fun _ h => absurd h List.not_mem_nil⟩⟩⟩⟩⟩⟩⟩⟩⟩⟩
theorem nkK : pk_K pP pWs := fun ci r hr => kKall r (List.mem_of_getElem? hr)
def pCn : List String := ["SubflowBundle$Arrivals", "SubflowBundle$Copy", "SubflowBundle$HostA", "SubflowBundle$HostB", "SubflowBundle$Path", "SubflowBundle$Pipe", "SubflowBundle$Segment", "SubflowBundle$Stream", "SubflowBundle", "SubflowBundleModel", "SubflowBundleLaw", "java/lang/Integer"]
theorem pM_cls : pM.all (fun m => decide (m.2.2.2.2.2.2.cls = pCn.getD m.2.2.1 "")) = true := by decide +kernel
theorem pMg_or (y : Nat) : pMg y = pM0 ∨ pMg y ∈ pM := by
  unfold pMg
  cases h : pM[y]? with
  | none => exact Or.inl rfl
  | some m => exact Or.inr (List.mem_of_getElem? h)
theorem pcls (y : Nat) : pp_own pP y = 99 ∨ (pp_nm pP y).cls = pCn.getD (pp_own pP y) "" := by
  rcases pMg_or y with h | h
  · left
    show (pMg y).2.2.1 = 99
    rw [h]
    rfl
  · right
    exact of_decide_eq_true (List.all_eq_true.mp pM_cls _ h)
theorem plk_mem {β : Type} {i : Nat} {v : β} : ∀ (l : List (Nat × β)), plk i l = some v → (i, v) ∈ l
  | [], h => by cases h
  | (j, w) :: t, h => by
    unfold plk at h
    split at h
    · rename_i e
      cases h
      cases Nat.eq_of_beq_eq_true e
      exact List.mem_cons_self
    · exact List.mem_cons_of_mem _ (plk_mem t h)
theorem pq_mem {β : Type} {X : List (List (Nat × β))} {q i : Nat} {v : β} (h : pq X q i = some v) : ∃ l, X[q]? = some l ∧ (i, v) ∈ l := by
  unfold pq at h
  split at h
  · rename_i l hl
    exact ⟨l, hl, plk_mem l h⟩
  · cases h
def pgF (c : String) (e : Nat × Nat × Nat) : Prop := ∃ r : vw_C × List FieldType × Bool, pCl[e.2.1]? = some r ∧ e.2.2 < r.1.2.2 ∧ (Cond.fieldLink c e.1 (r.1.2.1 e.2.2).1 (r.1.2.1 e.2.2).2.1 (r.1.2.1 e.2.2).2.2.1 ∈ pWs ∨ ((∃ host : String, Cond.fieldLinkNest c e.1 (r.1.2.1 e.2.2).1 (r.1.2.1 e.2.2).2.1 (r.1.2.1 e.2.2).2.2.1 host ∈ pNs) ∧ ¬ (r.1.2.1 e.2.2).1 = c))
set_option maxRecDepth 20000 in
theorem gF0 : ∀ l, pFx[0]? = some l → ∀ e ∈ l, pgF (pCn.getD 0 "") e := by
  intro l h
  cases Option.some.inj h
  exact List.forall_mem_cons.mpr ⟨⟨_, rfl, by decide, Or.inl (wm2 18 rfl rfl)⟩, List.forall_mem_cons.mpr ⟨⟨_, rfl, by decide, Or.inl (wm2 20 rfl rfl)⟩, fun _ h => absurd h List.not_mem_nil⟩⟩
set_option maxRecDepth 20000 in
theorem gF1 : ∀ l, pFx[1]? = some l → ∀ e ∈ l, pgF (pCn.getD 1 "") e := by
  intro l h
  cases Option.some.inj h
  exact List.forall_mem_cons.mpr ⟨⟨_, rfl, by decide, Or.inl (wm1 76 rfl rfl)⟩, List.forall_mem_cons.mpr ⟨⟨_, rfl, by decide, Or.inl (wm1 80 rfl rfl)⟩, List.forall_mem_cons.mpr ⟨⟨_, rfl, by decide, Or.inl (wm1 83 rfl rfl)⟩, List.forall_mem_cons.mpr ⟨⟨_, rfl, by decide, Or.inl (wm1 87 rfl rfl)⟩, List.forall_mem_cons.mpr ⟨⟨_, rfl, by decide, Or.inl (wm1 91 rfl rfl)⟩, fun _ h => absurd h List.not_mem_nil⟩⟩⟩⟩⟩
set_option maxRecDepth 20000 in
theorem gF2 : ∀ l, pFx[2]? = some l → ∀ e ∈ l, pgF (pCn.getD 2 "") e := by
  intro l h
  cases Option.some.inj h
  exact List.forall_mem_cons.mpr ⟨⟨_, rfl, by decide, Or.inl (wm1 216 rfl rfl)⟩, List.forall_mem_cons.mpr ⟨⟨_, rfl, by decide, Or.inl (wm1 217 rfl rfl)⟩, List.forall_mem_cons.mpr ⟨⟨_, rfl, by decide, Or.inl (wm1 213 rfl rfl)⟩, List.forall_mem_cons.mpr ⟨⟨_, rfl, by decide, Or.inl (wm1 214 rfl rfl)⟩, List.forall_mem_cons.mpr ⟨⟨_, rfl, by decide, Or.inl (wm1 215 rfl rfl)⟩, List.forall_mem_cons.mpr ⟨⟨_, rfl, by decide, Or.inl (wm1 220 rfl rfl)⟩, List.forall_mem_cons.mpr ⟨⟨_, rfl, by decide, Or.inr ⟨⟨"SubflowBundle", wn1 160 rfl rfl⟩, by decide⟩⟩, List.forall_mem_cons.mpr ⟨⟨_, rfl, by decide, Or.inr ⟨⟨"SubflowBundle", wn1 164 rfl rfl⟩, by decide⟩⟩, List.forall_mem_cons.mpr ⟨⟨_, rfl, by decide, Or.inr ⟨⟨"SubflowBundle", wn1 78 rfl rfl⟩, by decide⟩⟩, List.forall_mem_cons.mpr ⟨⟨_, rfl, by decide, Or.inl (wm1 218 rfl rfl)⟩, List.forall_mem_cons.mpr ⟨⟨_, rfl, by decide, Or.inr ⟨⟨"SubflowBundle", wn1 89 rfl rfl⟩, by decide⟩⟩, List.forall_mem_cons.mpr ⟨⟨_, rfl, by decide, Or.inr ⟨⟨"SubflowBundle", wn1 92 rfl rfl⟩, by decide⟩⟩, List.forall_mem_cons.mpr ⟨⟨_, rfl, by decide, Or.inr ⟨⟨"SubflowBundle", wn1 85 rfl rfl⟩, by decide⟩⟩, List.forall_mem_cons.mpr ⟨⟨_, rfl, by decide, Or.inr ⟨⟨"SubflowBundle", wn1 136 rfl rfl⟩, by decide⟩⟩, List.forall_mem_cons.mpr ⟨⟨_, rfl, by decide, Or.inr ⟨⟨"SubflowBundle", wn1 134 rfl rfl⟩, by decide⟩⟩, List.forall_mem_cons.mpr ⟨⟨_, rfl, by decide, Or.inl (wm1 224 rfl rfl)⟩, List.forall_mem_cons.mpr ⟨⟨_, rfl, by decide, Or.inr ⟨⟨"SubflowBundle", wn1 156 rfl rfl⟩, by decide⟩⟩, List.forall_mem_cons.mpr ⟨⟨_, rfl, by decide, Or.inr ⟨⟨"SubflowBundle", wn1 166 rfl rfl⟩, by decide⟩⟩, List.forall_mem_cons.mpr ⟨⟨_, rfl, by decide, Or.inr ⟨⟨"SubflowBundle", wn1 169 rfl rfl⟩, by decide⟩⟩, List.forall_mem_cons.mpr ⟨⟨_, rfl, by decide, Or.inr ⟨⟨"SubflowBundle", wn1 129 rfl rfl⟩, by decide⟩⟩, List.forall_mem_cons.mpr ⟨⟨_, rfl, by decide, Or.inr ⟨⟨"SubflowBundle", wn1 132 rfl rfl⟩, by decide⟩⟩, List.forall_mem_cons.mpr ⟨⟨_, rfl, by decide, Or.inr ⟨⟨"SubflowBundle", wn1 155 rfl rfl⟩, by decide⟩⟩, List.forall_mem_cons.mpr ⟨⟨_, rfl, by decide, Or.inr ⟨⟨"SubflowBundle", wn1 46 rfl rfl⟩, by decide⟩⟩, List.forall_mem_cons.mpr ⟨⟨_, rfl, by decide, Or.inl (wm1 221 rfl rfl)⟩, List.forall_mem_cons.mpr ⟨⟨_, rfl, by decide, Or.inr ⟨⟨"SubflowBundle", wn1 176 rfl rfl⟩, by decide⟩⟩, List.forall_mem_cons.mpr ⟨⟨_, rfl, by decide, Or.inr ⟨⟨"SubflowBundle", wn1 125 rfl rfl⟩, by decide⟩⟩, fun _ h => absurd h List.not_mem_nil⟩⟩⟩⟩⟩⟩⟩⟩⟩⟩⟩⟩⟩⟩⟩⟩⟩⟩⟩⟩⟩⟩⟩⟩⟩⟩
set_option maxRecDepth 20000 in
theorem gF3 : ∀ l, pFx[3]? = some l → ∀ e ∈ l, pgF (pCn.getD 3 "") e := by
  intro l h
  cases Option.some.inj h
  exact List.forall_mem_cons.mpr ⟨⟨_, rfl, by decide, Or.inl (wm2 29 rfl rfl)⟩, List.forall_mem_cons.mpr ⟨⟨_, rfl, by decide, Or.inl (wm2 30 rfl rfl)⟩, List.forall_mem_cons.mpr ⟨⟨_, rfl, by decide, Or.inl (wm2 26 rfl rfl)⟩, List.forall_mem_cons.mpr ⟨⟨_, rfl, by decide, Or.inl (wm2 27 rfl rfl)⟩, List.forall_mem_cons.mpr ⟨⟨_, rfl, by decide, Or.inl (wm2 28 rfl rfl)⟩, List.forall_mem_cons.mpr ⟨⟨_, rfl, by decide, Or.inr ⟨⟨"SubflowBundle", wn1 77 rfl rfl⟩, by decide⟩⟩, List.forall_mem_cons.mpr ⟨⟨_, rfl, by decide, Or.inr ⟨⟨"SubflowBundle", wn2 19 rfl rfl⟩, by decide⟩⟩, List.forall_mem_cons.mpr ⟨⟨_, rfl, by decide, Or.inl (wm2 34 rfl rfl)⟩, List.forall_mem_cons.mpr ⟨⟨_, rfl, by decide, Or.inr ⟨⟨"SubflowBundle", wn1 88 rfl rfl⟩, by decide⟩⟩, List.forall_mem_cons.mpr ⟨⟨_, rfl, by decide, Or.inr ⟨⟨"SubflowBundle", wn1 81 rfl rfl⟩, by decide⟩⟩, List.forall_mem_cons.mpr ⟨⟨_, rfl, by decide, Or.inr ⟨⟨"SubflowBundle", wn1 84 rfl rfl⟩, by decide⟩⟩, List.forall_mem_cons.mpr ⟨⟨_, rfl, by decide, Or.inl (wm2 31 rfl rfl)⟩, List.forall_mem_cons.mpr ⟨⟨_, rfl, by decide, Or.inl (wm2 33 rfl rfl)⟩, fun _ h => absurd h List.not_mem_nil⟩⟩⟩⟩⟩⟩⟩⟩⟩⟩⟩⟩⟩
set_option maxRecDepth 20000 in
theorem gF4 : ∀ l, pFx[4]? = some l → ∀ e ∈ l, pgF (pCn.getD 4 "") e := by
  intro l h
  cases Option.some.inj h
  exact List.forall_mem_cons.mpr ⟨⟨_, rfl, by decide, Or.inl (wm1 150 rfl rfl)⟩, List.forall_mem_cons.mpr ⟨⟨_, rfl, by decide, Or.inl (wm1 152 rfl rfl)⟩, List.forall_mem_cons.mpr ⟨⟨_, rfl, by decide, Or.inl (wm1 154 rfl rfl)⟩, List.forall_mem_cons.mpr ⟨⟨_, rfl, by decide, Or.inl (wm1 159 rfl rfl)⟩, List.forall_mem_cons.mpr ⟨⟨_, rfl, by decide, Or.inl (wm1 165 rfl rfl)⟩, List.forall_mem_cons.mpr ⟨⟨_, rfl, by decide, Or.inl (wm1 168 rfl rfl)⟩, List.forall_mem_cons.mpr ⟨⟨_, rfl, by decide, Or.inl (wm1 163 rfl rfl)⟩, List.forall_mem_cons.mpr ⟨⟨_, rfl, by decide, Or.inl (wm1 157 rfl rfl)⟩, List.forall_mem_cons.mpr ⟨⟨_, rfl, by decide, Or.inl (wm1 158 rfl rfl)⟩, List.forall_mem_cons.mpr ⟨⟨_, rfl, by decide, Or.inr ⟨⟨"SubflowBundle", wn1 124 rfl rfl⟩, by decide⟩⟩, List.forall_mem_cons.mpr ⟨⟨_, rfl, by decide, Or.inr ⟨⟨"SubflowBundle", wn1 127 rfl rfl⟩, by decide⟩⟩, List.forall_mem_cons.mpr ⟨⟨_, rfl, by decide, Or.inr ⟨⟨"SubflowBundle", wn1 130 rfl rfl⟩, by decide⟩⟩, List.forall_mem_cons.mpr ⟨⟨_, rfl, by decide, Or.inr ⟨⟨"SubflowBundle", wn1 133 rfl rfl⟩, by decide⟩⟩, List.forall_mem_cons.mpr ⟨⟨_, rfl, by decide, Or.inl (wm1 171 rfl rfl)⟩, List.forall_mem_cons.mpr ⟨⟨_, rfl, by decide, Or.inl (wm1 175 rfl rfl)⟩, List.forall_mem_cons.mpr ⟨⟨_, rfl, by decide, Or.inl (wm1 173 rfl rfl)⟩, fun _ h => absurd h List.not_mem_nil⟩⟩⟩⟩⟩⟩⟩⟩⟩⟩⟩⟩⟩⟩⟩⟩
set_option maxRecDepth 20000 in
theorem gF5 : ∀ l, pFx[5]? = some l → ∀ e ∈ l, pgF (pCn.getD 5 "") e := by
  intro l h
  cases Option.some.inj h
  exact List.forall_mem_cons.mpr ⟨⟨_, rfl, by decide, Or.inl (wm1 108 rfl rfl)⟩, List.forall_mem_cons.mpr ⟨⟨_, rfl, by decide, Or.inl (wm1 109 rfl rfl)⟩, List.forall_mem_cons.mpr ⟨⟨_, rfl, by decide, Or.inr ⟨⟨"SubflowBundle", wn1 94 rfl rfl⟩, by decide⟩⟩, fun _ h => absurd h List.not_mem_nil⟩⟩⟩
set_option maxRecDepth 20000 in
theorem gF6 : ∀ l, pFx[6]? = some l → ∀ e ∈ l, pgF (pCn.getD 6 "") e := by
  intro l h
  cases Option.some.inj h
  exact List.forall_mem_cons.mpr ⟨⟨_, rfl, by decide, Or.inl (wm1 123 rfl rfl)⟩, List.forall_mem_cons.mpr ⟨⟨_, rfl, by decide, Or.inl (wm1 126 rfl rfl)⟩, List.forall_mem_cons.mpr ⟨⟨_, rfl, by decide, Or.inl (wm1 128 rfl rfl)⟩, List.forall_mem_cons.mpr ⟨⟨_, rfl, by decide, Or.inl (wm1 131 rfl rfl)⟩, List.forall_mem_cons.mpr ⟨⟨_, rfl, by decide, Or.inl (wm1 135 rfl rfl)⟩, fun _ h => absurd h List.not_mem_nil⟩⟩⟩⟩⟩
set_option maxRecDepth 20000 in
theorem gF7 : ∀ l, pFx[7]? = some l → ∀ e ∈ l, pgF (pCn.getD 7 "") e := by
  intro l h
  cases Option.some.inj h
  exact List.forall_mem_cons.mpr ⟨⟨_, rfl, by decide, Or.inl (wm1 44 rfl rfl)⟩, List.forall_mem_cons.mpr ⟨⟨_, rfl, by decide, Or.inl (wm1 47 rfl rfl)⟩, List.forall_mem_cons.mpr ⟨⟨_, rfl, by decide, Or.inl (wm1 45 rfl rfl)⟩, fun _ h => absurd h List.not_mem_nil⟩⟩⟩
set_option maxRecDepth 20000 in
theorem gF8 : ∀ l, pFx[8]? = some l → ∀ e ∈ l, pgF (pCn.getD 8 "") e := by
  intro l h
  cases Option.some.inj h
  exact List.forall_mem_cons.mpr ⟨⟨_, rfl, by decide, Or.inl (wm2 52 rfl rfl)⟩, List.forall_mem_cons.mpr ⟨⟨_, rfl, by decide, Or.inl (wm2 53 rfl rfl)⟩, List.forall_mem_cons.mpr ⟨⟨_, rfl, by decide, Or.inl (wm2 54 rfl rfl)⟩, List.forall_mem_cons.mpr ⟨⟨_, rfl, by decide, Or.inl (wm2 55 rfl rfl)⟩, List.forall_mem_cons.mpr ⟨⟨_, rfl, by decide, Or.inl (wm2 56 rfl rfl)⟩, List.forall_mem_cons.mpr ⟨⟨_, rfl, by decide, Or.inl (wm2 57 rfl rfl)⟩, List.forall_mem_cons.mpr ⟨⟨_, rfl, by decide, Or.inr ⟨⟨"SubflowBundle", wn1 161 rfl rfl⟩, by decide⟩⟩, List.forall_mem_cons.mpr ⟨⟨_, rfl, by decide, Or.inr ⟨⟨"SubflowBundle", wn1 223 rfl rfl⟩, by decide⟩⟩, List.forall_mem_cons.mpr ⟨⟨_, rfl, by decide, Or.inr ⟨⟨"SubflowBundle", wn1 162 rfl rfl⟩, by decide⟩⟩, List.forall_mem_cons.mpr ⟨⟨_, rfl, by decide, Or.inr ⟨⟨"SubflowBundle", wn1 79 rfl rfl⟩, by decide⟩⟩, List.forall_mem_cons.mpr ⟨⟨_, rfl, by decide, Or.inr ⟨⟨"SubflowBundle", wn1 82 rfl rfl⟩, by decide⟩⟩, List.forall_mem_cons.mpr ⟨⟨_, rfl, by decide, Or.inr ⟨⟨"SubflowBundle", wn1 86 rfl rfl⟩, by decide⟩⟩, List.forall_mem_cons.mpr ⟨⟨_, rfl, by decide, Or.inr ⟨⟨"SubflowBundle", wn1 90 rfl rfl⟩, by decide⟩⟩, List.forall_mem_cons.mpr ⟨⟨_, rfl, by decide, Or.inr ⟨⟨"SubflowBundle", wn1 93 rfl rfl⟩, by decide⟩⟩, List.forall_mem_cons.mpr ⟨⟨_, rfl, by decide, Or.inr ⟨⟨"SubflowBundle", wn1 110 rfl rfl⟩, by decide⟩⟩, List.forall_mem_cons.mpr ⟨⟨_, rfl, by decide, Or.inr ⟨⟨"SubflowBundle", wn1 172 rfl rfl⟩, by decide⟩⟩, List.forall_mem_cons.mpr ⟨⟨_, rfl, by decide, Or.inr ⟨⟨"SubflowBundle", wn1 174 rfl rfl⟩, by decide⟩⟩, List.forall_mem_cons.mpr ⟨⟨_, rfl, by decide, Or.inr ⟨⟨"SubflowBundle", wn1 167 rfl rfl⟩, by decide⟩⟩, List.forall_mem_cons.mpr ⟨⟨_, rfl, by decide, Or.inr ⟨⟨"SubflowBundle", wn1 219 rfl rfl⟩, by decide⟩⟩, List.forall_mem_cons.mpr ⟨⟨_, rfl, by decide, Or.inr ⟨⟨"SubflowBundle", wn2 32 rfl rfl⟩, by decide⟩⟩, List.forall_mem_cons.mpr ⟨⟨_, rfl, by decide, Or.inr ⟨⟨"SubflowBundle", wn1 177 rfl rfl⟩, by decide⟩⟩, List.forall_mem_cons.mpr ⟨⟨_, rfl, by decide, Or.inr ⟨⟨"SubflowBundle", wn1 222 rfl rfl⟩, by decide⟩⟩, List.forall_mem_cons.mpr ⟨⟨_, rfl, by decide, Or.inr ⟨⟨"SubflowBundle", wn1 170 rfl rfl⟩, by decide⟩⟩, List.forall_mem_cons.mpr ⟨⟨_, rfl, by decide, Or.inr ⟨⟨"SubflowBundle", wn1 151 rfl rfl⟩, by decide⟩⟩, List.forall_mem_cons.mpr ⟨⟨_, rfl, by decide, Or.inr ⟨⟨"SubflowBundle", wn1 153 rfl rfl⟩, by decide⟩⟩, fun _ h => absurd h List.not_mem_nil⟩⟩⟩⟩⟩⟩⟩⟩⟩⟩⟩⟩⟩⟩⟩⟩⟩⟩⟩⟩⟩⟩⟩⟩⟩
set_option maxRecDepth 20000 in
theorem gF9 : ∀ l, pFx[9]? = some l → ∀ e ∈ l, pgF (pCn.getD 9 "") e := by
  intro l h
  cases Option.some.inj h
  exact List.forall_mem_cons.mpr ⟨⟨_, rfl, by decide, Or.inl (wm3 136 rfl rfl)⟩, List.forall_mem_cons.mpr ⟨⟨_, rfl, by decide, Or.inl (wm3 139 rfl rfl)⟩, List.forall_mem_cons.mpr ⟨⟨_, rfl, by decide, Or.inl (wm3 140 rfl rfl)⟩, List.forall_mem_cons.mpr ⟨⟨_, rfl, by decide, Or.inl (wm3 143 rfl rfl)⟩, List.forall_mem_cons.mpr ⟨⟨_, rfl, by decide, Or.inl (wm3 144 rfl rfl)⟩, List.forall_mem_cons.mpr ⟨⟨_, rfl, by decide, Or.inl (wm3 145 rfl rfl)⟩, List.forall_mem_cons.mpr ⟨⟨_, rfl, by decide, Or.inl (wm3 146 rfl rfl)⟩, List.forall_mem_cons.mpr ⟨⟨_, rfl, by decide, Or.inl (wm3 147 rfl rfl)⟩, List.forall_mem_cons.mpr ⟨⟨_, rfl, by decide, Or.inl (wm3 148 rfl rfl)⟩, List.forall_mem_cons.mpr ⟨⟨_, rfl, by decide, Or.inl (wm3 149 rfl rfl)⟩, List.forall_mem_cons.mpr ⟨⟨_, rfl, by decide, Or.inl (wm3 150 rfl rfl)⟩, List.forall_mem_cons.mpr ⟨⟨_, rfl, by decide, Or.inl (wm3 151 rfl rfl)⟩, List.forall_mem_cons.mpr ⟨⟨_, rfl, by decide, Or.inl (wm3 152 rfl rfl)⟩, List.forall_mem_cons.mpr ⟨⟨_, rfl, by decide, Or.inl (wm3 153 rfl rfl)⟩, List.forall_mem_cons.mpr ⟨⟨_, rfl, by decide, Or.inl (wm3 158 rfl rfl)⟩, List.forall_mem_cons.mpr ⟨⟨_, rfl, by decide, Or.inl (wm3 159 rfl rfl)⟩, List.forall_mem_cons.mpr ⟨⟨_, rfl, by decide, Or.inl (wm3 160 rfl rfl)⟩, List.forall_mem_cons.mpr ⟨⟨_, rfl, by decide, Or.inl (wm3 161 rfl rfl)⟩, List.forall_mem_cons.mpr ⟨⟨_, rfl, by decide, Or.inl (wm3 162 rfl rfl)⟩, List.forall_mem_cons.mpr ⟨⟨_, rfl, by decide, Or.inl (wm3 163 rfl rfl)⟩, List.forall_mem_cons.mpr ⟨⟨_, rfl, by decide, Or.inl (wm3 164 rfl rfl)⟩, List.forall_mem_cons.mpr ⟨⟨_, rfl, by decide, Or.inl (wm3 165 rfl rfl)⟩, List.forall_mem_cons.mpr ⟨⟨_, rfl, by decide, Or.inl (wm3 166 rfl rfl)⟩, List.forall_mem_cons.mpr ⟨⟨_, rfl, by decide, Or.inl (wm3 167 rfl rfl)⟩, List.forall_mem_cons.mpr ⟨⟨_, rfl, by decide, Or.inl (wm3 168 rfl rfl)⟩, List.forall_mem_cons.mpr ⟨⟨_, rfl, by decide, Or.inl (wm3 169 rfl rfl)⟩, List.forall_mem_cons.mpr ⟨⟨_, rfl, by decide, Or.inl (wm3 170 rfl rfl)⟩, List.forall_mem_cons.mpr ⟨⟨_, rfl, by decide, Or.inl (wm3 132 rfl rfl)⟩, List.forall_mem_cons.mpr ⟨⟨_, rfl, by decide, Or.inl (wm3 133 rfl rfl)⟩, List.forall_mem_cons.mpr ⟨⟨_, rfl, by decide, Or.inl (wm3 134 rfl rfl)⟩, List.forall_mem_cons.mpr ⟨⟨_, rfl, by decide, Or.inl (wm3 155 rfl rfl)⟩, List.forall_mem_cons.mpr ⟨⟨_, rfl, by decide, Or.inl (wm3 135 rfl rfl)⟩, List.forall_mem_cons.mpr ⟨⟨_, rfl, by decide, Or.inl (wm3 138 rfl rfl)⟩, List.forall_mem_cons.mpr ⟨⟨_, rfl, by decide, Or.inl (wm3 137 rfl rfl)⟩, List.forall_mem_cons.mpr ⟨⟨_, rfl, by decide, Or.inl (wm3 157 rfl rfl)⟩, List.forall_mem_cons.mpr ⟨⟨_, rfl, by decide, Or.inl (wm3 156 rfl rfl)⟩, List.forall_mem_cons.mpr ⟨⟨_, rfl, by decide, Or.inl (wm3 142 rfl rfl)⟩, List.forall_mem_cons.mpr ⟨⟨_, rfl, by decide, Or.inl (wm3 141 rfl rfl)⟩, List.forall_mem_cons.mpr ⟨⟨_, rfl, by decide, Or.inl (wm3 154 rfl rfl)⟩, fun _ h => absurd h List.not_mem_nil⟩⟩⟩⟩⟩⟩⟩⟩⟩⟩⟩⟩⟩⟩⟩⟩⟩⟩⟩⟩⟩⟩⟩⟩⟩⟩⟩⟩⟩⟩⟩⟩⟩⟩⟩⟩⟩⟩⟩
set_option maxRecDepth 20000 in
theorem gF10 : ∀ l, pFx[10]? = some l → ∀ e ∈ l, pgF (pCn.getD 10 "") e := by
  intro l h
  cases Option.some.inj h
  exact fun _ h => absurd h List.not_mem_nil
set_option maxRecDepth 20000 in
theorem gF11 : ∀ l, pFx[11]? = some l → ∀ e ∈ l, pgF (pCn.getD 11 "") e := by
  intro l h
  cases Option.some.inj h
  exact fun _ h => absurd h List.not_mem_nil
theorem gFall (q : Nat) : ∀ l, pFx[q]? = some l → ∀ e ∈ l, pgF (pCn.getD q "") e := by
  match q with
  | 0 => exact gF0
  | 1 => exact gF1
  | 2 => exact gF2
  | 3 => exact gF3
  | 4 => exact gF4
  | 5 => exact gF5
  | 6 => exact gF6
  | 7 => exact gF7
  | 8 => exact gF8
  | 9 => exact gF9
  | 10 => exact gF10
  | 11 => exact gF11
  | n + 12 => intro l h; cases h
theorem nkF : pk_F pP pWs pNs := by
  intro y idx ci k h
  obtain ⟨l, hl, hm⟩ := pq_mem (show pq pFx (pp_own pP y) idx = _ from h)
  have g := gFall _ l hl _ hm
  rcases pcls y with e | e
  · rw [e] at hl
    cases hl
  · rw [e]
    obtain ⟨r, h1, h2, h3⟩ := g
    exact ⟨r, h1, h2, h3.elim Or.inl (fun q => Or.inr q.1)⟩
def pgM (c : String) (e : Nat × Nat × Nat × Nat × Nat) : Prop := (e.2.2.2.1 = 6 ∧ Cond.methodLink c e.1 Lib.objectInit ∈ pWs ∧ Cond.instanceMethod Lib.objectInit ∈ pWs ∧ Cond.code Lib.objectInit ⟨#[0xb1]⟩ 1 none ∈ pWs) ∨ (6 < e.2.2.2.1 ∧ pk_math pWs c e.1 e.2.2.2.1) ∨ pk_link pP pWs pNs c e.1 e.2.1 e.2.2.1 e.2.2.2.1 e.2.2.2.2
set_option maxRecDepth 20000 in
theorem gM0 : ∀ l, pMx[0]? = some l → ∀ e ∈ l, pgM (pCn.getD 0 "") e := by
  intro l h
  cases Option.some.inj h
  exact List.forall_mem_cons.mpr ⟨Or.inl ⟨rfl, wm2 17 rfl rfl, wm1 19 rfl rfl, wm1 20 rfl rfl⟩, fun _ h => absurd h List.not_mem_nil⟩
set_option maxRecDepth 20000 in
theorem gM1 : ∀ l, pMx[1]? = some l → ∀ e ∈ l, pgM (pCn.getD 1 "") e := by
  intro l h
  cases Option.some.inj h
  exact List.forall_mem_cons.mpr ⟨Or.inl ⟨rfl, wm1 75 rfl rfl, wm1 19 rfl rfl, wm1 20 rfl rfl⟩, fun _ h => absurd h List.not_mem_nil⟩
set_option maxRecDepth 20000 in
theorem gM2 : ∀ l, pMx[2]? = some l → ∀ e ∈ l, pgM (pCn.getD 2 "") e := by
  intro l h
  cases Option.some.inj h
  exact List.forall_mem_cons.mpr ⟨Or.inl ⟨rfl, wm1 212 rfl rfl, wm1 19 rfl rfl, wm1 20 rfl rfl⟩, List.forall_mem_cons.mpr ⟨Or.inr (Or.inr ⟨⟨3, rfl, by decide +kernel⟩, wm2 86 rfl rfl, wm2 87 rfl rfl, wm2 88 rfl rfl, _, rfl, rfl⟩), List.forall_mem_cons.mpr ⟨Or.inr (Or.inr ⟨⟨3, rfl, by decide +kernel⟩, wm2 98 rfl rfl, wm2 100 rfl rfl, wmS 1 rfl rfl, _, rfl, rfl⟩), List.forall_mem_cons.mpr ⟨Or.inr (Or.inr ⟨⟨0, rfl, by decide +kernel⟩, wm2 226 rfl rfl, wm2 135 rfl rfl, wm2 136 rfl rfl, _, rfl, rfl⟩), List.forall_mem_cons.mpr ⟨Or.inr (Or.inl ⟨by decide, wm1 2 rfl rfl, wm2 227 rfl rfl, wm1 28 rfl rfl, wm1 29 rfl rfl⟩), List.forall_mem_cons.mpr ⟨Or.inr (Or.inr ⟨⟨2, rfl, by decide +kernel⟩, wm2 228 rfl rfl, wm2 230 rfl rfl, wmS 10 rfl rfl, _, rfl, rfl⟩), List.forall_mem_cons.mpr ⟨Or.inr (Or.inr ⟨⟨1, rfl, by decide +kernel⟩, wm2 236 rfl rfl, wm2 237 rfl rfl, wm2 238 rfl rfl, _, rfl, rfl⟩), List.forall_mem_cons.mpr ⟨Or.inr (Or.inr ⟨⟨1, rfl, by decide +kernel⟩, wm2 232 rfl rfl, wm2 233 rfl rfl, wm2 234 rfl rfl, _, rfl, rfl⟩), List.forall_mem_cons.mpr ⟨Or.inr (Or.inl ⟨by decide, wm1 2 rfl rfl, wm3 8 rfl rfl, wm1 25 rfl rfl, wm1 26 rfl rfl⟩), List.forall_mem_cons.mpr ⟨Or.inr (Or.inr ⟨⟨3, rfl, by decide +kernel⟩, wm2 102 rfl rfl, wm2 104 rfl rfl, wmS 2 rfl rfl, _, rfl, rfl⟩), List.forall_mem_cons.mpr ⟨Or.inr (Or.inr ⟨⟨0, rfl, by decide +kernel⟩, wm3 13 rfl rfl, wm3 15 rfl rfl, wmS 11 rfl rfl, _, rfl, rfl⟩), List.forall_mem_cons.mpr ⟨Or.inr (Or.inr ⟨⟨1, rfl, by decide +kernel⟩, wm3 17 rfl rfl, wm3 19 rfl rfl, wmS 12 rfl rfl, _, rfl, rfl⟩), List.forall_mem_cons.mpr ⟨Or.inr (Or.inr ⟨⟨1, rfl, by decide +kernel⟩, wm3 38 rfl rfl, wm3 40 rfl rfl, wmS 15 rfl rfl, _, rfl, rfl⟩), List.forall_mem_cons.mpr ⟨Or.inr (Or.inr ⟨⟨0, rfl, by decide +kernel⟩, wm3 21 rfl rfl, wm2 91 rfl rfl, wm2 92 rfl rfl, _, rfl, rfl⟩), List.forall_mem_cons.mpr ⟨Or.inr (Or.inr ⟨⟨1, rfl, by decide +kernel⟩, wm3 22 rfl rfl, wm3 23 rfl rfl, wm3 24 rfl rfl, _, rfl, rfl⟩), List.forall_mem_cons.mpr ⟨Or.inr (Or.inr ⟨⟨1, rfl, by decide +kernel⟩, wm3 26 rfl rfl, wm3 28 rfl rfl, wmS 13 rfl rfl, _, rfl, rfl⟩), List.forall_mem_cons.mpr ⟨Or.inr (Or.inr ⟨⟨2, rfl, by decide +kernel⟩, wm3 30 rfl rfl, wm3 32 rfl rfl, wmS 14 rfl rfl, _, rfl, rfl⟩), List.forall_mem_cons.mpr ⟨Or.inr (Or.inr ⟨⟨1, rfl, by decide +kernel⟩, wm3 34 rfl rfl, wm3 35 rfl rfl, wm3 36 rfl rfl, _, rfl, rfl⟩), List.forall_mem_cons.mpr ⟨Or.inr (Or.inr ⟨⟨2, rfl, by decide +kernel⟩, wm3 42 rfl rfl, wm3 44 rfl rfl, wmS 16 rfl rfl, _, rfl, rfl⟩), List.forall_mem_cons.mpr ⟨Or.inr (Or.inr ⟨⟨2, rfl, by decide +kernel⟩, wm2 106 rfl rfl, wm2 107 rfl rfl, wm2 108 rfl rfl, _, rfl, rfl⟩), List.forall_mem_cons.mpr ⟨Or.inr (Or.inr ⟨⟨5, rfl, by decide +kernel⟩, wm2 118 rfl rfl, wm2 119 rfl rfl, wm2 120 rfl rfl, _, rfl, rfl⟩), List.forall_mem_cons.mpr ⟨Or.inr (Or.inr ⟨⟨1, rfl, by decide +kernel⟩, wm2 122 rfl rfl, wm2 123 rfl rfl, wm2 124 rfl rfl, _, rfl, rfl⟩), fun _ h => absurd h List.not_mem_nil⟩⟩⟩⟩⟩⟩⟩⟩⟩⟩⟩⟩⟩⟩⟩⟩⟩⟩⟩⟩⟩⟩
set_option maxRecDepth 20000 in
theorem gM3 : ∀ l, pMx[3]? = some l → ∀ e ∈ l, pgM (pCn.getD 3 "") e := by
  intro l h
  cases Option.some.inj h
  exact List.forall_mem_cons.mpr ⟨Or.inl ⟨rfl, wm2 10 rfl rfl, wm1 19 rfl rfl, wm1 20 rfl rfl⟩, List.forall_mem_cons.mpr ⟨Or.inr (Or.inr ⟨⟨0, rfl, by decide +kernel⟩, ⟨"SubflowBundle", wn2 14 rfl rfl⟩, wm2 15 rfl rfl, rfl, rfl⟩), List.forall_mem_cons.mpr ⟨Or.inr (Or.inr ⟨⟨2, rfl, by decide +kernel⟩, wm2 196 rfl rfl, wm2 198 rfl rfl, wmS 6 rfl rfl, _, rfl, rfl⟩), List.forall_mem_cons.mpr ⟨Or.inr (Or.inr ⟨⟨4, rfl, by decide +kernel⟩, wm2 212 rfl rfl, wm2 214 rfl rfl, wmS 8 rfl rfl, _, rfl, rfl⟩), List.forall_mem_cons.mpr ⟨Or.inr (Or.inr ⟨⟨2, rfl, by decide +kernel⟩, wm2 208 rfl rfl, wm2 209 rfl rfl, wm2 210 rfl rfl, _, rfl, rfl⟩), List.forall_mem_cons.mpr ⟨Or.inr (Or.inr ⟨⟨1, rfl, by decide +kernel⟩, wm2 200 rfl rfl, wm2 201 rfl rfl, wm2 202 rfl rfl, _, rfl, rfl⟩), List.forall_mem_cons.mpr ⟨Or.inr (Or.inr ⟨⟨0, rfl, by decide +kernel⟩, wm2 204 rfl rfl, wm2 206 rfl rfl, wmS 7 rfl rfl, _, rfl, rfl⟩), List.forall_mem_cons.mpr ⟨Or.inr (Or.inr ⟨⟨2, rfl, by decide +kernel⟩, wm2 216 rfl rfl, wm2 107 rfl rfl, wm2 108 rfl rfl, _, rfl, rfl⟩), List.forall_mem_cons.mpr ⟨Or.inr (Or.inr ⟨⟨5, rfl, by decide +kernel⟩, wm2 217 rfl rfl, wm2 119 rfl rfl, wm2 120 rfl rfl, _, rfl, rfl⟩), List.forall_mem_cons.mpr ⟨Or.inr (Or.inr ⟨⟨1, rfl, by decide +kernel⟩, wm2 167 rfl rfl, wm2 123 rfl rfl, wm2 124 rfl rfl, _, rfl, rfl⟩), fun _ h => absurd h List.not_mem_nil⟩⟩⟩⟩⟩⟩⟩⟩⟩⟩
set_option maxRecDepth 20000 in
theorem gM4 : ∀ l, pMx[4]? = some l → ∀ e ∈ l, pgM (pCn.getD 4 "") e := by
  intro l h
  cases Option.some.inj h
  exact List.forall_mem_cons.mpr ⟨Or.inl ⟨rfl, wm1 62 rfl rfl, wm1 19 rfl rfl, wm1 20 rfl rfl⟩, List.forall_mem_cons.mpr ⟨Or.inr (Or.inr ⟨⟨0, rfl, by decide +kernel⟩, wm1 65 rfl rfl, wm1 66 rfl rfl, rfl, rfl⟩), List.forall_mem_cons.mpr ⟨Or.inr (Or.inr ⟨⟨0, rfl, by decide +kernel⟩, ⟨"SubflowBundle", wn1 119 rfl rfl⟩, wm1 120 rfl rfl, rfl, rfl⟩), List.forall_mem_cons.mpr ⟨Or.inr (Or.inr ⟨⟨1, rfl, by decide +kernel⟩, wm2 110 rfl rfl, wm2 111 rfl rfl, wm2 112 rfl rfl, _, rfl, rfl⟩), List.forall_mem_cons.mpr ⟨Or.inr (Or.inr ⟨⟨1, rfl, by decide +kernel⟩, wm2 114 rfl rfl, wm2 115 rfl rfl, wm2 116 rfl rfl, _, rfl, rfl⟩), List.forall_mem_cons.mpr ⟨Or.inr (Or.inr ⟨⟨0, rfl, by decide +kernel⟩, wm2 90 rfl rfl, wm2 91 rfl rfl, wm2 92 rfl rfl, _, rfl, rfl⟩), List.forall_mem_cons.mpr ⟨Or.inr (Or.inr ⟨⟨4, rfl, by decide +kernel⟩, wm2 94 rfl rfl, wm2 95 rfl rfl, wm2 96 rfl rfl, _, rfl, rfl⟩), List.forall_mem_cons.mpr ⟨Or.inr (Or.inl ⟨by decide, wm1 2 rfl rfl, wm3 0 rfl rfl, wm3 1 rfl rfl, wm3 2 rfl rfl⟩), List.forall_mem_cons.mpr ⟨Or.inr (Or.inr ⟨by decide +kernel, ⟨"SubflowBundle", wn3 3 rfl rfl⟩, wm1 22 rfl rfl⟩), List.forall_mem_cons.mpr ⟨Or.inr (Or.inr ⟨⟨0, rfl, by decide +kernel⟩, wm2 138 rfl rfl, wm2 139 rfl rfl, wm2 140 rfl rfl, _, rfl, rfl⟩), fun _ h => absurd h List.not_mem_nil⟩⟩⟩⟩⟩⟩⟩⟩⟩⟩
set_option maxRecDepth 20000 in
theorem gM5 : ∀ l, pMx[5]? = some l → ∀ e ∈ l, pgM (pCn.getD 5 "") e := by
  intro l h
  cases Option.some.inj h
  exact List.forall_mem_cons.mpr ⟨Or.inl ⟨rfl, wm1 68 rfl rfl, wm1 19 rfl rfl, wm1 20 rfl rfl⟩, List.forall_mem_cons.mpr ⟨Or.inr (Or.inr ⟨⟨0, rfl, by decide +kernel⟩, ⟨"SubflowBundle", wn1 72 rfl rfl⟩, wm1 73 rfl rfl, rfl, rfl⟩), List.forall_mem_cons.mpr ⟨Or.inr (Or.inr ⟨⟨1, rfl, by decide +kernel⟩, wm2 188 rfl rfl, wm2 189 rfl rfl, wm2 190 rfl rfl, _, rfl, rfl⟩), List.forall_mem_cons.mpr ⟨Or.inr (Or.inr ⟨⟨1, rfl, by decide +kernel⟩, wm2 184 rfl rfl, wm2 185 rfl rfl, wm2 186 rfl rfl, _, rfl, rfl⟩), fun _ h => absurd h List.not_mem_nil⟩⟩⟩⟩
set_option maxRecDepth 20000 in
theorem gM6 : ∀ l, pMx[6]? = some l → ∀ e ∈ l, pgM (pCn.getD 6 "") e := by
  intro l h
  cases Option.some.inj h
  exact List.forall_mem_cons.mpr ⟨Or.inl ⟨rfl, wm1 122 rfl rfl, wm1 19 rfl rfl, wm1 20 rfl rfl⟩, fun _ h => absurd h List.not_mem_nil⟩
set_option maxRecDepth 20000 in
theorem gM7 : ∀ l, pMx[7]? = some l → ∀ e ∈ l, pgM (pCn.getD 7 "") e := by
  intro l h
  cases Option.some.inj h
  exact List.forall_mem_cons.mpr ⟨Or.inl ⟨rfl, wm1 43 rfl rfl, wm1 19 rfl rfl, wm1 20 rfl rfl⟩, List.forall_mem_cons.mpr ⟨Or.inr (Or.inl ⟨by decide, wm1 2 rfl rfl, wm2 150 rfl rfl, wm1 25 rfl rfl, wm1 26 rfl rfl⟩), fun _ h => absurd h List.not_mem_nil⟩⟩
set_option maxRecDepth 20000 in
theorem gM8 : ∀ l, pMx[8]? = some l → ∀ e ∈ l, pgM (pCn.getD 8 "") e := by
  intro l h
  cases Option.some.inj h
  exact List.forall_mem_cons.mpr ⟨Or.inl ⟨rfl, wm1 18 rfl rfl, wm1 19 rfl rfl, wm1 20 rfl rfl⟩, List.forall_mem_cons.mpr ⟨Or.inr (Or.inr ⟨by decide +kernel, wm1 21 rfl rfl, wm1 22 rfl rfl⟩), List.forall_mem_cons.mpr ⟨Or.inr (Or.inr ⟨by decide +kernel, wm1 30 rfl rfl, wm1 31 rfl rfl⟩), List.forall_mem_cons.mpr ⟨Or.inr (Or.inr ⟨⟨0, rfl, by decide +kernel⟩, ⟨"SubflowBundle", wn1 40 rfl rfl⟩, wm1 41 rfl rfl, rfl, rfl⟩), List.forall_mem_cons.mpr ⟨Or.inr (Or.inr ⟨⟨0, rfl, by decide +kernel⟩, wm1 59 rfl rfl, wm1 60 rfl rfl, rfl, rfl⟩), List.forall_mem_cons.mpr ⟨Or.inr (Or.inr ⟨⟨4, rfl, by decide +kernel⟩, wm1 209 rfl rfl, wm1 210 rfl rfl, rfl, rfl⟩), List.forall_mem_cons.mpr ⟨Or.inr (Or.inr ⟨⟨3, rfl, by decide +kernel⟩, wm2 7 rfl rfl, wm2 8 rfl rfl, rfl, rfl⟩), List.forall_mem_cons.mpr ⟨Or.inr (Or.inr ⟨by decide +kernel, wm2 75 rfl rfl, wm2 76 rfl rfl⟩), List.forall_mem_cons.mpr ⟨Or.inr (Or.inr ⟨⟨1, rfl, by decide +kernel⟩, wm2 78 rfl rfl, wm2 80 rfl rfl, wmS 0 rfl rfl, _, rfl, rfl⟩), List.forall_mem_cons.mpr ⟨Or.inr (Or.inr ⟨⟨3, rfl, by decide +kernel⟩, wm2 82 rfl rfl, wm2 83 rfl rfl, wm2 84 rfl rfl, _, rfl, rfl⟩), List.forall_mem_cons.mpr ⟨Or.inr (Or.inr ⟨⟨1, rfl, by decide +kernel⟩, wm2 130 rfl rfl, wm2 132 rfl rfl, wmS 3 rfl rfl, _, rfl, rfl⟩), List.forall_mem_cons.mpr ⟨Or.inr (Or.inr ⟨⟨0, rfl, by decide +kernel⟩, wm2 134 rfl rfl, wm2 135 rfl rfl, wm2 136 rfl rfl, _, rfl, rfl⟩), List.forall_mem_cons.mpr ⟨Or.inr (Or.inr ⟨⟨2, rfl, by decide +kernel⟩, wm2 146 rfl rfl, wm2 147 rfl rfl, wm2 148 rfl rfl, _, rfl, rfl⟩), List.forall_mem_cons.mpr ⟨Or.inr (Or.inr ⟨⟨0, rfl, by decide +kernel⟩, wm2 155 rfl rfl, wm2 156 rfl rfl, wm2 157 rfl rfl, _, rfl, rfl⟩), List.forall_mem_cons.mpr ⟨Or.inr (Or.inr ⟨⟨0, rfl, by decide +kernel⟩, wm2 163 rfl rfl, wm2 164 rfl rfl, wm2 165 rfl rfl, _, rfl, rfl⟩), List.forall_mem_cons.mpr ⟨Or.inr (Or.inr ⟨⟨0, rfl, by decide +kernel⟩, wm2 172 rfl rfl, wm2 174 rfl rfl, wmS 4 rfl rfl, _, rfl, rfl⟩), List.forall_mem_cons.mpr ⟨Or.inr (Or.inr ⟨⟨1, rfl, by decide +kernel⟩, wm3 54 rfl rfl, wm2 111 rfl rfl, wm2 112 rfl rfl, _, rfl, rfl⟩), List.forall_mem_cons.mpr ⟨Or.inr (Or.inr ⟨⟨1, rfl, by decide +kernel⟩, wm3 55 rfl rfl, wm2 185 rfl rfl, wm2 186 rfl rfl, _, rfl, rfl⟩), List.forall_mem_cons.mpr ⟨Or.inr (Or.inr ⟨⟨1, rfl, by decide +kernel⟩, wm3 60 rfl rfl, wm2 189 rfl rfl, wm2 190 rfl rfl, _, rfl, rfl⟩), List.forall_mem_cons.mpr ⟨Or.inr (Or.inr ⟨⟨1, rfl, by decide +kernel⟩, wm3 61 rfl rfl, wm2 115 rfl rfl, wm2 116 rfl rfl, _, rfl, rfl⟩), List.forall_mem_cons.mpr ⟨Or.inr (Or.inr ⟨⟨5, rfl, by decide +kernel⟩, wm3 62 rfl rfl, wm2 119 rfl rfl, wm2 120 rfl rfl, _, rfl, rfl⟩), List.forall_mem_cons.mpr ⟨Or.inr (Or.inr ⟨⟨2, rfl, by decide +kernel⟩, wm3 71 rfl rfl, wm3 73 rfl rfl, wmS 17 rfl rfl, _, rfl, rfl⟩), List.forall_mem_cons.mpr ⟨Or.inr (Or.inr ⟨⟨0, rfl, by decide +kernel⟩, wm3 97 rfl rfl, wm3 98 rfl rfl, wm3 99 rfl rfl, _, rfl, rfl⟩), List.forall_mem_cons.mpr ⟨Or.inr (Or.inl ⟨by decide, wm1 2 rfl rfl, wm1 24 rfl rfl, wm1 25 rfl rfl, wm1 26 rfl rfl⟩), List.forall_mem_cons.mpr ⟨Or.inr (Or.inl ⟨by decide, wm1 2 rfl rfl, wm1 27 rfl rfl, wm1 28 rfl rfl, wm1 29 rfl rfl⟩), List.forall_mem_cons.mpr ⟨Or.inr (Or.inr ⟨by decide +kernel, wm1 33 rfl rfl, wm1 34 rfl rfl⟩), List.forall_mem_cons.mpr ⟨Or.inr (Or.inr ⟨⟨1, rfl, by decide +kernel⟩, wm2 176 rfl rfl, wm2 178 rfl rfl, wmS 5 rfl rfl, _, rfl, rfl⟩), List.forall_mem_cons.mpr ⟨Or.inr (Or.inr ⟨⟨1, rfl, by decide +kernel⟩, wm2 218 rfl rfl, wm2 220 rfl rfl, wmS 9 rfl rfl, _, rfl, rfl⟩), List.forall_mem_cons.mpr ⟨Or.inr (Or.inr ⟨⟨2, rfl, by decide +kernel⟩, wm3 4 rfl rfl, wm3 5 rfl rfl, wm3 6 rfl rfl, _, rfl, rfl⟩), List.forall_mem_cons.mpr ⟨Or.inr (Or.inr ⟨⟨1, rfl, by decide +kernel⟩, wm3 9 rfl rfl, wm3 10 rfl rfl, wm3 11 rfl rfl, _, rfl, rfl⟩), List.forall_mem_cons.mpr ⟨Or.inr (Or.inr ⟨⟨1, rfl, by decide +kernel⟩, wm2 180 rfl rfl, wm2 181 rfl rfl, wm2 182 rfl rfl, _, rfl, rfl⟩), List.forall_mem_cons.mpr ⟨Or.inr (Or.inr ⟨⟨4, rfl, by decide +kernel⟩, wm2 192 rfl rfl, wm2 193 rfl rfl, wm2 194 rfl rfl, _, rfl, rfl⟩), List.forall_mem_cons.mpr ⟨Or.inr (Or.inr ⟨⟨3, rfl, by decide +kernel⟩, wm2 222 rfl rfl, wm2 223 rfl rfl, wm2 224 rfl rfl, _, rfl, rfl⟩), List.forall_mem_cons.mpr ⟨Or.inr (Or.inr ⟨by decide +kernel, wm3 75 rfl rfl, wm3 76 rfl rfl⟩), List.forall_mem_cons.mpr ⟨Or.inr (Or.inr ⟨⟨1, rfl, by decide +kernel⟩, wm3 79 rfl rfl, wm2 123 rfl rfl, wm2 124 rfl rfl, _, rfl, rfl⟩), fun _ h => absurd h List.not_mem_nil⟩⟩⟩⟩⟩⟩⟩⟩⟩⟩⟩⟩⟩⟩⟩⟩⟩⟩⟩⟩⟩⟩⟩⟩⟩⟩⟩⟩⟩⟩⟩⟩⟩⟩⟩
set_option maxRecDepth 20000 in
theorem gM9 : ∀ l, pMx[9]? = some l → ∀ e ∈ l, pgM (pCn.getD 9 "") e := by
  intro l h
  cases Option.some.inj h
  exact List.forall_mem_cons.mpr ⟨Or.inl ⟨rfl, wm3 129 rfl rfl, wm1 19 rfl rfl, wm1 20 rfl rfl⟩, List.forall_mem_cons.mpr ⟨Or.inr (Or.inr ⟨⟨7, rfl, by decide +kernel⟩, wm4 29 rfl rfl, wm4 31 rfl rfl, wmS 21 rfl rfl, _, rfl, rfl⟩), List.forall_mem_cons.mpr ⟨Or.inr (Or.inr ⟨by decide +kernel, wm4 14 rfl rfl, wm4 15 rfl rfl⟩), List.forall_mem_cons.mpr ⟨Or.inr (Or.inr ⟨⟨6, rfl, by decide +kernel⟩, wm4 25 rfl rfl, wm4 27 rfl rfl, wmS 20 rfl rfl, _, rfl, rfl⟩), List.forall_mem_cons.mpr ⟨Or.inr (Or.inr ⟨⟨3, rfl, by decide +kernel⟩, wm4 17 rfl rfl, wm4 19 rfl rfl, wmS 18 rfl rfl, _, rfl, rfl⟩), List.forall_mem_cons.mpr ⟨Or.inr (Or.inr ⟨⟨2, rfl, by decide +kernel⟩, wm4 21 rfl rfl, wm4 23 rfl rfl, wmS 19 rfl rfl, _, rfl, rfl⟩), List.forall_mem_cons.mpr ⟨Or.inr (Or.inr ⟨⟨1, rfl, by decide +kernel⟩, wm4 37 rfl rfl, wm4 39 rfl rfl, wmS 22 rfl rfl, _, rfl, rfl⟩), List.forall_mem_cons.mpr ⟨Or.inr (Or.inr ⟨⟨1, rfl, by decide +kernel⟩, wm4 57 rfl rfl, wm4 59 rfl rfl, wmS 23 rfl rfl, _, rfl, rfl⟩), List.forall_mem_cons.mpr ⟨Or.inr (Or.inr ⟨⟨1, rfl, by decide +kernel⟩, wm4 81 rfl rfl, wm4 83 rfl rfl, wmS 28 rfl rfl, _, rfl, rfl⟩), List.forall_mem_cons.mpr ⟨Or.inr (Or.inr ⟨⟨0, rfl, by decide +kernel⟩, wm4 85 rfl rfl, wm4 87 rfl rfl, wmS 29 rfl rfl, _, rfl, rfl⟩), List.forall_mem_cons.mpr ⟨Or.inr (Or.inr ⟨⟨2, rfl, by decide +kernel⟩, wm4 61 rfl rfl, wm4 63 rfl rfl, wmS 24 rfl rfl, _, rfl, rfl⟩), List.forall_mem_cons.mpr ⟨Or.inr (Or.inr ⟨⟨5, rfl, by decide +kernel⟩, wm4 65 rfl rfl, wm4 67 rfl rfl, wmS 25 rfl rfl, _, rfl, rfl⟩), List.forall_mem_cons.mpr ⟨Or.inr (Or.inr ⟨⟨5, rfl, by decide +kernel⟩, wm4 73 rfl rfl, wm4 75 rfl rfl, wmS 26 rfl rfl, _, rfl, rfl⟩), List.forall_mem_cons.mpr ⟨Or.inr (Or.inr ⟨⟨0, rfl, by decide +kernel⟩, wm4 69 rfl rfl, wm4 70 rfl rfl, wm4 71 rfl rfl, _, rfl, rfl⟩), List.forall_mem_cons.mpr ⟨Or.inr (Or.inr ⟨⟨2, rfl, by decide +kernel⟩, wm4 77 rfl rfl, wm4 79 rfl rfl, wmS 27 rfl rfl, _, rfl, rfl⟩), List.forall_mem_cons.mpr ⟨Or.inr (Or.inr ⟨⟨0, rfl, by decide +kernel⟩, wm4 97 rfl rfl, wm4 99 rfl rfl, wmS 32 rfl rfl, _, rfl, rfl⟩), List.forall_mem_cons.mpr ⟨Or.inr (Or.inr ⟨⟨1, rfl, by decide +kernel⟩, wm4 89 rfl rfl, wm4 91 rfl rfl, wmS 30 rfl rfl, _, rfl, rfl⟩), List.forall_mem_cons.mpr ⟨Or.inr (Or.inr ⟨⟨1, rfl, by decide +kernel⟩, wm4 93 rfl rfl, wm4 95 rfl rfl, wmS 31 rfl rfl, _, rfl, rfl⟩), List.forall_mem_cons.mpr ⟨Or.inr (Or.inr ⟨⟨2, rfl, by decide +kernel⟩, wm4 101 rfl rfl, wm4 103 rfl rfl, wmS 33 rfl rfl, _, rfl, rfl⟩), List.forall_mem_cons.mpr ⟨Or.inr (Or.inr ⟨⟨3, rfl, by decide +kernel⟩, wm4 113 rfl rfl, wm4 115 rfl rfl, wmS 34 rfl rfl, _, rfl, rfl⟩), List.forall_mem_cons.mpr ⟨Or.inr (Or.inr ⟨⟨2, rfl, by decide +kernel⟩, wm4 129 rfl rfl, wm4 131 rfl rfl, wmS 35 rfl rfl, _, rfl, rfl⟩), fun _ h => absurd h List.not_mem_nil⟩⟩⟩⟩⟩⟩⟩⟩⟩⟩⟩⟩⟩⟩⟩⟩⟩⟩⟩⟩⟩
set_option maxRecDepth 20000 in
theorem gM10 : ∀ l, pMx[10]? = some l → ∀ e ∈ l, pgM (pCn.getD 10 "") e := by
  intro l h
  cases Option.some.inj h
  exact List.forall_mem_cons.mpr ⟨Or.inr (Or.inr ⟨by decide +kernel, wm3 121 rfl rfl, wm3 122 rfl rfl⟩), List.forall_mem_cons.mpr ⟨Or.inr (Or.inr ⟨⟨3, rfl, by decide +kernel⟩, wm1 15 rfl rfl, wm1 16 rfl rfl, rfl, rfl⟩), List.forall_mem_cons.mpr ⟨Or.inr (Or.inr ⟨⟨3, rfl, by decide +kernel⟩, wm3 126 rfl rfl, wm3 127 rfl rfl, rfl, rfl⟩), List.forall_mem_cons.mpr ⟨Or.inr (Or.inr ⟨⟨3, rfl, by decide +kernel⟩, wm2 71 rfl rfl, wm2 72 rfl rfl, wm2 73 rfl rfl, _, rfl, rfl⟩), List.forall_mem_cons.mpr ⟨Or.inr (Or.inr ⟨⟨3, rfl, by decide +kernel⟩, wm4 10 rfl rfl, wm4 11 rfl rfl, wm4 12 rfl rfl, _, rfl, rfl⟩), List.forall_mem_cons.mpr ⟨Or.inr (Or.inr ⟨⟨1, rfl, by decide +kernel⟩, wm2 126 rfl rfl, wm2 127 rfl rfl, wm2 128 rfl rfl, _, rfl, rfl⟩), List.forall_mem_cons.mpr ⟨Or.inr (Or.inr ⟨⟨1, rfl, by decide +kernel⟩, wm4 33 rfl rfl, wm4 34 rfl rfl, wm4 35 rfl rfl, _, rfl, rfl⟩), List.forall_mem_cons.mpr ⟨Or.inr (Or.inr ⟨⟨2, rfl, by decide +kernel⟩, wm2 142 rfl rfl, wm2 143 rfl rfl, wm2 144 rfl rfl, _, rfl, rfl⟩), List.forall_mem_cons.mpr ⟨Or.inr (Or.inr ⟨⟨2, rfl, by decide +kernel⟩, wm4 41 rfl rfl, wm4 42 rfl rfl, wm4 43 rfl rfl, _, rfl, rfl⟩), List.forall_mem_cons.mpr ⟨Or.inr (Or.inr ⟨⟨0, rfl, by decide +kernel⟩, wm2 151 rfl rfl, wm2 152 rfl rfl, wm2 153 rfl rfl, _, rfl, rfl⟩), List.forall_mem_cons.mpr ⟨Or.inr (Or.inr ⟨⟨0, rfl, by decide +kernel⟩, wm4 45 rfl rfl, wm4 46 rfl rfl, wm4 47 rfl rfl, _, rfl, rfl⟩), List.forall_mem_cons.mpr ⟨Or.inr (Or.inr ⟨⟨0, rfl, by decide +kernel⟩, wm2 159 rfl rfl, wm2 160 rfl rfl, wm2 161 rfl rfl, _, rfl, rfl⟩), List.forall_mem_cons.mpr ⟨Or.inr (Or.inr ⟨⟨0, rfl, by decide +kernel⟩, wm4 49 rfl rfl, wm4 50 rfl rfl, wm4 51 rfl rfl, _, rfl, rfl⟩), List.forall_mem_cons.mpr ⟨Or.inr (Or.inr ⟨⟨1, rfl, by decide +kernel⟩, wm2 168 rfl rfl, wm2 169 rfl rfl, wm2 170 rfl rfl, _, rfl, rfl⟩), List.forall_mem_cons.mpr ⟨Or.inr (Or.inr ⟨⟨1, rfl, by decide +kernel⟩, wm4 53 rfl rfl, wm4 54 rfl rfl, wm4 55 rfl rfl, _, rfl, rfl⟩), List.forall_mem_cons.mpr ⟨Or.inr (Or.inr ⟨⟨2, rfl, by decide +kernel⟩, wm3 46 rfl rfl, wm3 47 rfl rfl, wm3 48 rfl rfl, _, rfl, rfl⟩), List.forall_mem_cons.mpr ⟨Or.inr (Or.inr ⟨⟨2, rfl, by decide +kernel⟩, wm4 105 rfl rfl, wm4 106 rfl rfl, wm4 107 rfl rfl, _, rfl, rfl⟩), List.forall_mem_cons.mpr ⟨Or.inr (Or.inr ⟨⟨3, rfl, by decide +kernel⟩, wm3 50 rfl rfl, wm3 51 rfl rfl, wm3 52 rfl rfl, _, rfl, rfl⟩), List.forall_mem_cons.mpr ⟨Or.inr (Or.inr ⟨⟨3, rfl, by decide +kernel⟩, wm4 109 rfl rfl, wm4 110 rfl rfl, wm4 111 rfl rfl, _, rfl, rfl⟩), List.forall_mem_cons.mpr ⟨Or.inr (Or.inr ⟨⟨4, rfl, by decide +kernel⟩, wm3 56 rfl rfl, wm3 57 rfl rfl, wm3 58 rfl rfl, _, rfl, rfl⟩), List.forall_mem_cons.mpr ⟨Or.inr (Or.inr ⟨⟨4, rfl, by decide +kernel⟩, wm4 117 rfl rfl, wm4 118 rfl rfl, wm4 119 rfl rfl, _, rfl, rfl⟩), List.forall_mem_cons.mpr ⟨Or.inr (Or.inr ⟨⟨2, rfl, by decide +kernel⟩, wm3 63 rfl rfl, wm3 64 rfl rfl, wm3 65 rfl rfl, _, rfl, rfl⟩), List.forall_mem_cons.mpr ⟨Or.inr (Or.inr ⟨⟨2, rfl, by decide +kernel⟩, wm4 121 rfl rfl, wm4 122 rfl rfl, wm4 123 rfl rfl, _, rfl, rfl⟩), List.forall_mem_cons.mpr ⟨Or.inr (Or.inr ⟨⟨4, rfl, by decide +kernel⟩, wm3 67 rfl rfl, wm3 68 rfl rfl, wm3 69 rfl rfl, _, rfl, rfl⟩), List.forall_mem_cons.mpr ⟨Or.inr (Or.inr ⟨⟨4, rfl, by decide +kernel⟩, wm4 125 rfl rfl, wm4 126 rfl rfl, wm4 127 rfl rfl, _, rfl, rfl⟩), List.forall_mem_cons.mpr ⟨Or.inr (Or.inr ⟨⟨1, rfl, by decide +kernel⟩, wm3 81 rfl rfl, wm3 82 rfl rfl, wm3 83 rfl rfl, _, rfl, rfl⟩), List.forall_mem_cons.mpr ⟨Or.inr (Or.inr ⟨⟨1, rfl, by decide +kernel⟩, wm4 135 rfl rfl, wm4 136 rfl rfl, wm4 137 rfl rfl, _, rfl, rfl⟩), List.forall_mem_cons.mpr ⟨Or.inr (Or.inr ⟨⟨1, rfl, by decide +kernel⟩, wm3 85 rfl rfl, wm3 86 rfl rfl, wm3 87 rfl rfl, _, rfl, rfl⟩), List.forall_mem_cons.mpr ⟨Or.inr (Or.inr ⟨⟨1, rfl, by decide +kernel⟩, wm4 139 rfl rfl, wm4 140 rfl rfl, wm4 141 rfl rfl, _, rfl, rfl⟩), List.forall_mem_cons.mpr ⟨Or.inr (Or.inr ⟨⟨1, rfl, by decide +kernel⟩, wm3 89 rfl rfl, wm3 90 rfl rfl, wm3 91 rfl rfl, _, rfl, rfl⟩), List.forall_mem_cons.mpr ⟨Or.inr (Or.inr ⟨⟨1, rfl, by decide +kernel⟩, wm4 143 rfl rfl, wm4 144 rfl rfl, wm4 145 rfl rfl, _, rfl, rfl⟩), List.forall_mem_cons.mpr ⟨Or.inr (Or.inr ⟨⟨1, rfl, by decide +kernel⟩, wm3 93 rfl rfl, wm3 94 rfl rfl, wm3 95 rfl rfl, _, rfl, rfl⟩), List.forall_mem_cons.mpr ⟨Or.inr (Or.inr ⟨⟨1, rfl, by decide +kernel⟩, wm4 147 rfl rfl, wm4 148 rfl rfl, wm4 149 rfl rfl, _, rfl, rfl⟩), List.forall_mem_cons.mpr ⟨Or.inr (Or.inr ⟨⟨0, rfl, by decide +kernel⟩, wm3 101 rfl rfl, wm3 102 rfl rfl, wm3 103 rfl rfl, _, rfl, rfl⟩), List.forall_mem_cons.mpr ⟨Or.inr (Or.inr ⟨⟨0, rfl, by decide +kernel⟩, wm4 151 rfl rfl, wm4 152 rfl rfl, wm4 153 rfl rfl, _, rfl, rfl⟩), List.forall_mem_cons.mpr ⟨Or.inr (Or.inr ⟨⟨0, rfl, by decide +kernel⟩, wm3 105 rfl rfl, wm3 106 rfl rfl, wm3 107 rfl rfl, _, rfl, rfl⟩), List.forall_mem_cons.mpr ⟨Or.inr (Or.inr ⟨⟨0, rfl, by decide +kernel⟩, wm4 155 rfl rfl, wm4 70 rfl rfl, wm4 71 rfl rfl, _, rfl, rfl⟩), List.forall_mem_cons.mpr ⟨Or.inr (Or.inr ⟨⟨1, rfl, by decide +kernel⟩, wm3 109 rfl rfl, wm3 110 rfl rfl, wm3 111 rfl rfl, _, rfl, rfl⟩), List.forall_mem_cons.mpr ⟨Or.inr (Or.inr ⟨⟨1, rfl, by decide +kernel⟩, wm4 156 rfl rfl, wm4 157 rfl rfl, wm4 158 rfl rfl, _, rfl, rfl⟩), List.forall_mem_cons.mpr ⟨Or.inr (Or.inr ⟨⟨0, rfl, by decide +kernel⟩, wm3 113 rfl rfl, wm3 114 rfl rfl, wm3 115 rfl rfl, _, rfl, rfl⟩), List.forall_mem_cons.mpr ⟨Or.inr (Or.inr ⟨⟨0, rfl, by decide +kernel⟩, wm4 160 rfl rfl, wm4 161 rfl rfl, wm4 162 rfl rfl, _, rfl, rfl⟩), List.forall_mem_cons.mpr ⟨Or.inr (Or.inr ⟨⟨0, rfl, by decide +kernel⟩, wm3 117 rfl rfl, wm3 118 rfl rfl, wm3 119 rfl rfl, _, rfl, rfl⟩), List.forall_mem_cons.mpr ⟨Or.inr (Or.inr ⟨⟨0, rfl, by decide +kernel⟩, wm4 164 rfl rfl, wm4 165 rfl rfl, wm4 166 rfl rfl, _, rfl, rfl⟩), fun _ h => absurd h List.not_mem_nil⟩⟩⟩⟩⟩⟩⟩⟩⟩⟩⟩⟩⟩⟩⟩⟩⟩⟩⟩⟩⟩⟩⟩⟩⟩⟩⟩⟩⟩⟩⟩⟩⟩⟩⟩⟩⟩⟩⟩⟩⟩⟩⟩
set_option maxRecDepth 20000 in
theorem gM11 : ∀ l, pMx[11]? = some l → ∀ e ∈ l, pgM (pCn.getD 11 "") e := by
  intro l h
  cases Option.some.inj h
  exact fun _ h => absurd h List.not_mem_nil
theorem gMall (q : Nat) : ∀ l, pMx[q]? = some l → ∀ e ∈ l, pgM (pCn.getD q "") e := by
  match q with
  | 0 => exact gM0
  | 1 => exact gM1
  | 2 => exact gM2
  | 3 => exact gM3
  | 4 => exact gM4
  | 5 => exact gM5
  | 6 => exact gM6
  | 7 => exact gM7
  | 8 => exact gM8
  | 9 => exact gM9
  | 10 => exact gM10
  | 11 => exact gM11
  | n + 12 => intro l h; cases h
theorem nkM : pk_M pP pWs pNs := by
  intro y idx z n kd ci h
  obtain ⟨l, hl, hm⟩ := pq_mem (show pq pMx (pp_own pP y) idx = _ from h)
  have g := gMall _ l hl _ hm
  rcases pcls y with e | e
  · rw [e] at hl
    cases hl
  · rw [e]
    exact g
def pgZ (z : Nat) : Prop := Cond.code (pp_nm pP z) (pp_by pP z) (pp_ml pP z) (pp_ret pP z) ∈ pWs ∧ Cond.initialized (pp_nm pP z).cls ∈ pWs ∧ (pp_nm pP z).cls ≠ "java/lang/invoke/MethodHandle" ∧ (pp_nm pP z).cls ≠ "java/lang/invoke/VarHandle" ∧ plainName (pp_nm pP z).cls = true
theorem gZ0 : pgZ 0 := ⟨wm1 17 rfl rfl, wm1 1 rfl rfl, by decide +kernel, by decide +kernel, by decide +kernel⟩
theorem gZ1 : pgZ 1 := ⟨wm1 23 rfl rfl, wm1 1 rfl rfl, by decide +kernel, by decide +kernel, by decide +kernel⟩
theorem gZ2 : pgZ 2 := ⟨wm1 32 rfl rfl, wm1 1 rfl rfl, by decide +kernel, by decide +kernel, by decide +kernel⟩
theorem gZ3 : pgZ 3 := ⟨wm1 35 rfl rfl, wm1 3 rfl rfl, by decide +kernel, by decide +kernel, by decide +kernel⟩
theorem gZ4 : pgZ 4 := ⟨wm1 42 rfl rfl, wm1 4 rfl rfl, by decide +kernel, by decide +kernel, by decide +kernel⟩
theorem gZ5 : pgZ 5 := ⟨wm1 61 rfl rfl, wm1 5 rfl rfl, by decide +kernel, by decide +kernel, by decide +kernel⟩
theorem gZ6 : pgZ 6 := ⟨wm1 67 rfl rfl, wm1 6 rfl rfl, by decide +kernel, by decide +kernel, by decide +kernel⟩
theorem gZ7 : pgZ 7 := ⟨wm1 74 rfl rfl, wm1 7 rfl rfl, by decide +kernel, by decide +kernel, by decide +kernel⟩
theorem gZ8 : pgZ 8 := ⟨wm1 121 rfl rfl, wm1 8 rfl rfl, by decide +kernel, by decide +kernel, by decide +kernel⟩
theorem gZ9 : pgZ 9 := ⟨wm1 211 rfl rfl, wm1 9 rfl rfl, by decide +kernel, by decide +kernel, by decide +kernel⟩
theorem gZ10 : pgZ 10 := ⟨wm2 9 rfl rfl, wm1 10 rfl rfl, by decide +kernel, by decide +kernel, by decide +kernel⟩
theorem gZ11 : pgZ 11 := ⟨wm2 16 rfl rfl, wm1 11 rfl rfl, by decide +kernel, by decide +kernel, by decide +kernel⟩
theorem gZ12 : pgZ 12 := ⟨wm2 74 rfl rfl, wm1 1 rfl rfl, by decide +kernel, by decide +kernel, by decide +kernel⟩
theorem gZ13 : pgZ 13 := ⟨wm2 77 rfl rfl, wm1 1 rfl rfl, by decide +kernel, by decide +kernel, by decide +kernel⟩
theorem gZ14 : pgZ 14 := ⟨wm2 81 rfl rfl, wm1 1 rfl rfl, by decide +kernel, by decide +kernel, by decide +kernel⟩
theorem gZ15 : pgZ 15 := ⟨wm2 85 rfl rfl, wm1 9 rfl rfl, by decide +kernel, by decide +kernel, by decide +kernel⟩
theorem gZ16 : pgZ 16 := ⟨wm2 89 rfl rfl, wm1 5 rfl rfl, by decide +kernel, by decide +kernel, by decide +kernel⟩
theorem gZ17 : pgZ 17 := ⟨wm2 93 rfl rfl, wm1 5 rfl rfl, by decide +kernel, by decide +kernel, by decide +kernel⟩
theorem gZ18 : pgZ 18 := ⟨wm2 97 rfl rfl, wm1 8 rfl rfl, by decide +kernel, by decide +kernel, by decide +kernel⟩
theorem gZ19 : pgZ 19 := ⟨wm2 101 rfl rfl, wm1 9 rfl rfl, by decide +kernel, by decide +kernel, by decide +kernel⟩
theorem gZ20 : pgZ 20 := ⟨wm2 105 rfl rfl, wm1 9 rfl rfl, by decide +kernel, by decide +kernel, by decide +kernel⟩
theorem gZ21 : pgZ 21 := ⟨wm2 109 rfl rfl, wm1 5 rfl rfl, by decide +kernel, by decide +kernel, by decide +kernel⟩
theorem gZ22 : pgZ 22 := ⟨wm2 113 rfl rfl, wm1 5 rfl rfl, by decide +kernel, by decide +kernel, by decide +kernel⟩
theorem gZ23 : pgZ 23 := ⟨wm2 117 rfl rfl, wm1 6 rfl rfl, by decide +kernel, by decide +kernel, by decide +kernel⟩
theorem gZ24 : pgZ 24 := ⟨wm2 121 rfl rfl, wm1 7 rfl rfl, by decide +kernel, by decide +kernel, by decide +kernel⟩
theorem gZ25 : pgZ 25 := ⟨wm2 125 rfl rfl, wm1 4 rfl rfl, by decide +kernel, by decide +kernel, by decide +kernel⟩
theorem gZ26 : pgZ 26 := ⟨wm2 129 rfl rfl, wm1 1 rfl rfl, by decide +kernel, by decide +kernel, by decide +kernel⟩
theorem gZ27 : pgZ 27 := ⟨wm2 133 rfl rfl, wm1 1 rfl rfl, by decide +kernel, by decide +kernel, by decide +kernel⟩
theorem gZ28 : pgZ 28 := ⟨wm2 137 rfl rfl, wm1 5 rfl rfl, by decide +kernel, by decide +kernel, by decide +kernel⟩
theorem gZ29 : pgZ 29 := ⟨wm2 141 rfl rfl, wm1 6 rfl rfl, by decide +kernel, by decide +kernel, by decide +kernel⟩
theorem gZ30 : pgZ 30 := ⟨wm2 145 rfl rfl, wm1 1 rfl rfl, by decide +kernel, by decide +kernel, by decide +kernel⟩
theorem gZ31 : pgZ 31 := ⟨wm2 149 rfl rfl, wm1 4 rfl rfl, by decide +kernel, by decide +kernel, by decide +kernel⟩
theorem gZ32 : pgZ 32 := ⟨wm2 154 rfl rfl, wm1 1 rfl rfl, by decide +kernel, by decide +kernel, by decide +kernel⟩
theorem gZ33 : pgZ 33 := ⟨wm2 158 rfl rfl, wm1 4 rfl rfl, by decide +kernel, by decide +kernel, by decide +kernel⟩
theorem gZ34 : pgZ 34 := ⟨wm2 162 rfl rfl, wm1 1 rfl rfl, by decide +kernel, by decide +kernel, by decide +kernel⟩
theorem gZ35 : pgZ 35 := ⟨wm2 166 rfl rfl, wm1 10 rfl rfl, by decide +kernel, by decide +kernel, by decide +kernel⟩
theorem gZ36 : pgZ 36 := ⟨wm2 171 rfl rfl, wm1 1 rfl rfl, by decide +kernel, by decide +kernel, by decide +kernel⟩
theorem gZ37 : pgZ 37 := ⟨wm2 175 rfl rfl, wm1 1 rfl rfl, by decide +kernel, by decide +kernel, by decide +kernel⟩
theorem gZ38 : pgZ 38 := ⟨wm2 179 rfl rfl, wm1 1 rfl rfl, by decide +kernel, by decide +kernel, by decide +kernel⟩
theorem gZ39 : pgZ 39 := ⟨wm2 183 rfl rfl, wm1 6 rfl rfl, by decide +kernel, by decide +kernel, by decide +kernel⟩
theorem gZ40 : pgZ 40 := ⟨wm2 187 rfl rfl, wm1 6 rfl rfl, by decide +kernel, by decide +kernel, by decide +kernel⟩
theorem gZ41 : pgZ 41 := ⟨wm2 191 rfl rfl, wm1 6 rfl rfl, by decide +kernel, by decide +kernel, by decide +kernel⟩
theorem gZ42 : pgZ 42 := ⟨wm2 195 rfl rfl, wm1 10 rfl rfl, by decide +kernel, by decide +kernel, by decide +kernel⟩
theorem gZ43 : pgZ 43 := ⟨wm2 199 rfl rfl, wm1 10 rfl rfl, by decide +kernel, by decide +kernel, by decide +kernel⟩
theorem gZ44 : pgZ 44 := ⟨wm2 203 rfl rfl, wm1 11 rfl rfl, by decide +kernel, by decide +kernel, by decide +kernel⟩
theorem gZ45 : pgZ 45 := ⟨wm2 207 rfl rfl, wm1 10 rfl rfl, by decide +kernel, by decide +kernel, by decide +kernel⟩
theorem gZ46 : pgZ 46 := ⟨wm2 211 rfl rfl, wm1 11 rfl rfl, by decide +kernel, by decide +kernel, by decide +kernel⟩
theorem gZ47 : pgZ 47 := ⟨wm2 215 rfl rfl, wm1 10 rfl rfl, by decide +kernel, by decide +kernel, by decide +kernel⟩
theorem gZ48 : pgZ 48 := ⟨wm2 221 rfl rfl, wm1 1 rfl rfl, by decide +kernel, by decide +kernel, by decide +kernel⟩
theorem gZ49 : pgZ 49 := ⟨wm2 225 rfl rfl, wm1 9 rfl rfl, by decide +kernel, by decide +kernel, by decide +kernel⟩
theorem gZ50 : pgZ 50 := ⟨wm2 231 rfl rfl, wm1 9 rfl rfl, by decide +kernel, by decide +kernel, by decide +kernel⟩
theorem gZ51 : pgZ 51 := ⟨wm2 235 rfl rfl, wm1 5 rfl rfl, by decide +kernel, by decide +kernel, by decide +kernel⟩
theorem gZ52 : pgZ 52 := ⟨wm2 239 rfl rfl, wm1 5 rfl rfl, by decide +kernel, by decide +kernel, by decide +kernel⟩
theorem gZ53 : pgZ 53 := ⟨wm3 7 rfl rfl, wm1 9 rfl rfl, by decide +kernel, by decide +kernel, by decide +kernel⟩
theorem gZ54 : pgZ 54 := ⟨wm3 12 rfl rfl, wm1 9 rfl rfl, by decide +kernel, by decide +kernel, by decide +kernel⟩
theorem gZ55 : pgZ 55 := ⟨wm3 16 rfl rfl, wm1 9 rfl rfl, by decide +kernel, by decide +kernel, by decide +kernel⟩
theorem gZ56 : pgZ 56 := ⟨wm3 20 rfl rfl, wm1 9 rfl rfl, by decide +kernel, by decide +kernel, by decide +kernel⟩
theorem gZ57 : pgZ 57 := ⟨wm3 25 rfl rfl, wm1 5 rfl rfl, by decide +kernel, by decide +kernel, by decide +kernel⟩
theorem gZ58 : pgZ 58 := ⟨wm3 29 rfl rfl, wm1 9 rfl rfl, by decide +kernel, by decide +kernel, by decide +kernel⟩
theorem gZ59 : pgZ 59 := ⟨wm3 33 rfl rfl, wm1 9 rfl rfl, by decide +kernel, by decide +kernel, by decide +kernel⟩
theorem gZ60 : pgZ 60 := ⟨wm3 37 rfl rfl, wm1 5 rfl rfl, by decide +kernel, by decide +kernel, by decide +kernel⟩
theorem gZ61 : pgZ 61 := ⟨wm3 41 rfl rfl, wm1 9 rfl rfl, by decide +kernel, by decide +kernel, by decide +kernel⟩
theorem gZ62 : pgZ 62 := ⟨wm3 45 rfl rfl, wm1 9 rfl rfl, by decide +kernel, by decide +kernel, by decide +kernel⟩
theorem gZ63 : pgZ 63 := ⟨wm3 49 rfl rfl, wm1 1 rfl rfl, by decide +kernel, by decide +kernel, by decide +kernel⟩
theorem gZ64 : pgZ 64 := ⟨wm3 53 rfl rfl, wm1 1 rfl rfl, by decide +kernel, by decide +kernel, by decide +kernel⟩
theorem gZ65 : pgZ 65 := ⟨wm3 59 rfl rfl, wm1 1 rfl rfl, by decide +kernel, by decide +kernel, by decide +kernel⟩
theorem gZ66 : pgZ 66 := ⟨wm3 66 rfl rfl, wm1 1 rfl rfl, by decide +kernel, by decide +kernel, by decide +kernel⟩
theorem gZ67 : pgZ 67 := ⟨wm3 70 rfl rfl, wm1 1 rfl rfl, by decide +kernel, by decide +kernel, by decide +kernel⟩
theorem gZ68 : pgZ 68 := ⟨wm3 74 rfl rfl, wm1 1 rfl rfl, by decide +kernel, by decide +kernel, by decide +kernel⟩
theorem gZ69 : pgZ 69 := ⟨wm3 77 rfl rfl, wm1 1 rfl rfl, by decide +kernel, by decide +kernel, by decide +kernel⟩
theorem gZ70 : pgZ 70 := ⟨wm3 84 rfl rfl, wm1 1 rfl rfl, by decide +kernel, by decide +kernel, by decide +kernel⟩
theorem gZ71 : pgZ 71 := ⟨wm3 88 rfl rfl, wm1 1 rfl rfl, by decide +kernel, by decide +kernel, by decide +kernel⟩
theorem gZ72 : pgZ 72 := ⟨wm3 92 rfl rfl, wm1 1 rfl rfl, by decide +kernel, by decide +kernel, by decide +kernel⟩
theorem gZ73 : pgZ 73 := ⟨wm3 96 rfl rfl, wm1 1 rfl rfl, by decide +kernel, by decide +kernel, by decide +kernel⟩
theorem gZ74 : pgZ 74 := ⟨wm3 100 rfl rfl, wm1 5 rfl rfl, by decide +kernel, by decide +kernel, by decide +kernel⟩
theorem gZ75 : pgZ 75 := ⟨wm3 104 rfl rfl, wm1 1 rfl rfl, by decide +kernel, by decide +kernel, by decide +kernel⟩
theorem gZ76 : pgZ 76 := ⟨wm3 108 rfl rfl, wm1 1 rfl rfl, by decide +kernel, by decide +kernel, by decide +kernel⟩
theorem gZ77 : pgZ 77 := ⟨wm3 112 rfl rfl, wm1 1 rfl rfl, by decide +kernel, by decide +kernel, by decide +kernel⟩
theorem gZ78 : pgZ 78 := ⟨wm3 116 rfl rfl, wm1 1 rfl rfl, by decide +kernel, by decide +kernel, by decide +kernel⟩
theorem gZ79 : pgZ 79 := ⟨wm3 120 rfl rfl, wm1 1 rfl rfl, by decide +kernel, by decide +kernel, by decide +kernel⟩
theorem gZ80 : pgZ 80 := ⟨wm3 123 rfl rfl, wm1 0 rfl rfl, by decide +kernel, by decide +kernel, by decide +kernel⟩
theorem gZ81 : pgZ 81 := ⟨wm3 128 rfl rfl, wm1 12 rfl rfl, by decide +kernel, by decide +kernel, by decide +kernel⟩
theorem gZ82 : pgZ 82 := ⟨wm4 13 rfl rfl, wm1 12 rfl rfl, by decide +kernel, by decide +kernel, by decide +kernel⟩
theorem gZ83 : pgZ 83 := ⟨wm4 16 rfl rfl, wm1 12 rfl rfl, by decide +kernel, by decide +kernel, by decide +kernel⟩
theorem gZ84 : pgZ 84 := ⟨wm4 20 rfl rfl, wm1 12 rfl rfl, by decide +kernel, by decide +kernel, by decide +kernel⟩
theorem gZ85 : pgZ 85 := ⟨wm4 24 rfl rfl, wm1 12 rfl rfl, by decide +kernel, by decide +kernel, by decide +kernel⟩
theorem gZ86 : pgZ 86 := ⟨wm4 28 rfl rfl, wm1 12 rfl rfl, by decide +kernel, by decide +kernel, by decide +kernel⟩
theorem gZ87 : pgZ 87 := ⟨wm4 32 rfl rfl, wm1 12 rfl rfl, by decide +kernel, by decide +kernel, by decide +kernel⟩
theorem gZ88 : pgZ 88 := ⟨wm4 36 rfl rfl, wm1 12 rfl rfl, by decide +kernel, by decide +kernel, by decide +kernel⟩
theorem gZ89 : pgZ 89 := ⟨wm4 40 rfl rfl, wm1 12 rfl rfl, by decide +kernel, by decide +kernel, by decide +kernel⟩
theorem gZ90 : pgZ 90 := ⟨wm4 44 rfl rfl, wm1 12 rfl rfl, by decide +kernel, by decide +kernel, by decide +kernel⟩
theorem gZ91 : pgZ 91 := ⟨wm4 48 rfl rfl, wm1 12 rfl rfl, by decide +kernel, by decide +kernel, by decide +kernel⟩
theorem gZ92 : pgZ 92 := ⟨wm4 52 rfl rfl, wm1 12 rfl rfl, by decide +kernel, by decide +kernel, by decide +kernel⟩
theorem gZ93 : pgZ 93 := ⟨wm4 56 rfl rfl, wm1 12 rfl rfl, by decide +kernel, by decide +kernel, by decide +kernel⟩
theorem gZ94 : pgZ 94 := ⟨wm4 60 rfl rfl, wm1 12 rfl rfl, by decide +kernel, by decide +kernel, by decide +kernel⟩
theorem gZ95 : pgZ 95 := ⟨wm4 64 rfl rfl, wm1 12 rfl rfl, by decide +kernel, by decide +kernel, by decide +kernel⟩
theorem gZ96 : pgZ 96 := ⟨wm4 68 rfl rfl, wm1 12 rfl rfl, by decide +kernel, by decide +kernel, by decide +kernel⟩
theorem gZ97 : pgZ 97 := ⟨wm4 72 rfl rfl, wm1 12 rfl rfl, by decide +kernel, by decide +kernel, by decide +kernel⟩
theorem gZ98 : pgZ 98 := ⟨wm4 76 rfl rfl, wm1 12 rfl rfl, by decide +kernel, by decide +kernel, by decide +kernel⟩
theorem gZ99 : pgZ 99 := ⟨wm4 80 rfl rfl, wm1 12 rfl rfl, by decide +kernel, by decide +kernel, by decide +kernel⟩
theorem gZ100 : pgZ 100 := ⟨wm4 84 rfl rfl, wm1 12 rfl rfl, by decide +kernel, by decide +kernel, by decide +kernel⟩
theorem gZ101 : pgZ 101 := ⟨wm4 88 rfl rfl, wm1 12 rfl rfl, by decide +kernel, by decide +kernel, by decide +kernel⟩
theorem gZ102 : pgZ 102 := ⟨wm4 92 rfl rfl, wm1 12 rfl rfl, by decide +kernel, by decide +kernel, by decide +kernel⟩
theorem gZ103 : pgZ 103 := ⟨wm4 96 rfl rfl, wm1 12 rfl rfl, by decide +kernel, by decide +kernel, by decide +kernel⟩
theorem gZ104 : pgZ 104 := ⟨wm4 100 rfl rfl, wm1 12 rfl rfl, by decide +kernel, by decide +kernel, by decide +kernel⟩
theorem gZ105 : pgZ 105 := ⟨wm4 104 rfl rfl, wm1 12 rfl rfl, by decide +kernel, by decide +kernel, by decide +kernel⟩
theorem gZ106 : pgZ 106 := ⟨wm4 108 rfl rfl, wm1 12 rfl rfl, by decide +kernel, by decide +kernel, by decide +kernel⟩
theorem gZ107 : pgZ 107 := ⟨wm4 112 rfl rfl, wm1 12 rfl rfl, by decide +kernel, by decide +kernel, by decide +kernel⟩
theorem gZ108 : pgZ 108 := ⟨wm4 116 rfl rfl, wm1 12 rfl rfl, by decide +kernel, by decide +kernel, by decide +kernel⟩
theorem gZ109 : pgZ 109 := ⟨wm4 120 rfl rfl, wm1 12 rfl rfl, by decide +kernel, by decide +kernel, by decide +kernel⟩
theorem gZ110 : pgZ 110 := ⟨wm4 124 rfl rfl, wm1 12 rfl rfl, by decide +kernel, by decide +kernel, by decide +kernel⟩
theorem gZ111 : pgZ 111 := ⟨wm4 128 rfl rfl, wm1 12 rfl rfl, by decide +kernel, by decide +kernel, by decide +kernel⟩
theorem gZ112 : pgZ 112 := ⟨wm4 132 rfl rfl, wm1 12 rfl rfl, by decide +kernel, by decide +kernel, by decide +kernel⟩
theorem gZ113 : pgZ 113 := ⟨wm4 138 rfl rfl, wm1 12 rfl rfl, by decide +kernel, by decide +kernel, by decide +kernel⟩
theorem gZ114 : pgZ 114 := ⟨wm4 142 rfl rfl, wm1 12 rfl rfl, by decide +kernel, by decide +kernel, by decide +kernel⟩
theorem gZ115 : pgZ 115 := ⟨wm4 146 rfl rfl, wm1 12 rfl rfl, by decide +kernel, by decide +kernel, by decide +kernel⟩
theorem gZ116 : pgZ 116 := ⟨wm4 150 rfl rfl, wm1 12 rfl rfl, by decide +kernel, by decide +kernel, by decide +kernel⟩
theorem gZ117 : pgZ 117 := ⟨wm4 154 rfl rfl, wm1 12 rfl rfl, by decide +kernel, by decide +kernel, by decide +kernel⟩
theorem gZ118 : pgZ 118 := ⟨wm4 159 rfl rfl, wm1 12 rfl rfl, by decide +kernel, by decide +kernel, by decide +kernel⟩
theorem gZ119 : pgZ 119 := ⟨wm4 163 rfl rfl, wm1 12 rfl rfl, by decide +kernel, by decide +kernel, by decide +kernel⟩
theorem gZ120 : pgZ 120 := ⟨wm4 167 rfl rfl, wm1 12 rfl rfl, by decide +kernel, by decide +kernel, by decide +kernel⟩
def pgY (c : String) (e : Nat × Nat × Nat × Nat × Nat) : Prop := e.2.2.2.1 < 6 → e.2.2.1 ≤ pp_ml pP e.2.1 ∧ pgZ e.2.1
set_option maxRecDepth 20000 in
theorem gY0 : ∀ l, pMx[0]? = some l → ∀ e ∈ l, pgY (pCn.getD 0 "") e := by
  intro l h
  cases Option.some.inj h
  exact List.forall_mem_cons.mpr ⟨fun h => absurd h (by decide), fun _ h => absurd h List.not_mem_nil⟩
set_option maxRecDepth 20000 in
theorem gY1 : ∀ l, pMx[1]? = some l → ∀ e ∈ l, pgY (pCn.getD 1 "") e := by
  intro l h
  cases Option.some.inj h
  exact List.forall_mem_cons.mpr ⟨fun h => absurd h (by decide), fun _ h => absurd h List.not_mem_nil⟩
set_option maxRecDepth 20000 in
theorem gY2 : ∀ l, pMx[2]? = some l → ∀ e ∈ l, pgY (pCn.getD 2 "") e := by
  intro l h
  cases Option.some.inj h
  exact List.forall_mem_cons.mpr ⟨fun h => absurd h (by decide), List.forall_mem_cons.mpr ⟨fun _ => ⟨by decide, gZ16⟩, List.forall_mem_cons.mpr ⟨fun _ => ⟨by decide, gZ19⟩, List.forall_mem_cons.mpr ⟨fun _ => ⟨by decide, gZ28⟩, List.forall_mem_cons.mpr ⟨fun h => absurd h (by decide), List.forall_mem_cons.mpr ⟨fun _ => ⟨by decide, gZ50⟩, List.forall_mem_cons.mpr ⟨fun _ => ⟨by decide, gZ52⟩, List.forall_mem_cons.mpr ⟨fun _ => ⟨by decide, gZ51⟩, List.forall_mem_cons.mpr ⟨fun h => absurd h (by decide), List.forall_mem_cons.mpr ⟨fun _ => ⟨by decide, gZ20⟩, List.forall_mem_cons.mpr ⟨fun _ => ⟨by decide, gZ55⟩, List.forall_mem_cons.mpr ⟨fun _ => ⟨by decide, gZ56⟩, List.forall_mem_cons.mpr ⟨fun _ => ⟨by decide, gZ61⟩, List.forall_mem_cons.mpr ⟨fun _ => ⟨by decide, gZ17⟩, List.forall_mem_cons.mpr ⟨fun _ => ⟨by decide, gZ57⟩, List.forall_mem_cons.mpr ⟨fun _ => ⟨by decide, gZ58⟩, List.forall_mem_cons.mpr ⟨fun _ => ⟨by decide, gZ59⟩, List.forall_mem_cons.mpr ⟨fun _ => ⟨by decide, gZ60⟩, List.forall_mem_cons.mpr ⟨fun _ => ⟨by decide, gZ62⟩, List.forall_mem_cons.mpr ⟨fun _ => ⟨by decide, gZ21⟩, List.forall_mem_cons.mpr ⟨fun _ => ⟨by decide, gZ24⟩, List.forall_mem_cons.mpr ⟨fun _ => ⟨by decide, gZ25⟩, fun _ h => absurd h List.not_mem_nil⟩⟩⟩⟩⟩⟩⟩⟩⟩⟩⟩⟩⟩⟩⟩⟩⟩⟩⟩⟩⟩⟩
set_option maxRecDepth 20000 in
theorem gY3 : ∀ l, pMx[3]? = some l → ∀ e ∈ l, pgY (pCn.getD 3 "") e := by
  intro l h
  cases Option.some.inj h
  exact List.forall_mem_cons.mpr ⟨fun h => absurd h (by decide), List.forall_mem_cons.mpr ⟨fun _ => ⟨by decide, gZ11⟩, List.forall_mem_cons.mpr ⟨fun _ => ⟨by decide, gZ43⟩, List.forall_mem_cons.mpr ⟨fun _ => ⟨by decide, gZ47⟩, List.forall_mem_cons.mpr ⟨fun _ => ⟨by decide, gZ46⟩, List.forall_mem_cons.mpr ⟨fun _ => ⟨by decide, gZ44⟩, List.forall_mem_cons.mpr ⟨fun _ => ⟨by decide, gZ45⟩, List.forall_mem_cons.mpr ⟨fun _ => ⟨by decide, gZ21⟩, List.forall_mem_cons.mpr ⟨fun _ => ⟨by decide, gZ24⟩, List.forall_mem_cons.mpr ⟨fun _ => ⟨by decide, gZ25⟩, fun _ h => absurd h List.not_mem_nil⟩⟩⟩⟩⟩⟩⟩⟩⟩⟩
set_option maxRecDepth 20000 in
theorem gY4 : ∀ l, pMx[4]? = some l → ∀ e ∈ l, pgY (pCn.getD 4 "") e := by
  intro l h
  cases Option.some.inj h
  exact List.forall_mem_cons.mpr ⟨fun h => absurd h (by decide), List.forall_mem_cons.mpr ⟨fun _ => ⟨by decide, gZ6⟩, List.forall_mem_cons.mpr ⟨fun _ => ⟨by decide, gZ8⟩, List.forall_mem_cons.mpr ⟨fun _ => ⟨by decide, gZ22⟩, List.forall_mem_cons.mpr ⟨fun _ => ⟨by decide, gZ23⟩, List.forall_mem_cons.mpr ⟨fun _ => ⟨by decide, gZ17⟩, List.forall_mem_cons.mpr ⟨fun _ => ⟨by decide, gZ18⟩, List.forall_mem_cons.mpr ⟨fun h => absurd h (by decide), List.forall_mem_cons.mpr ⟨fun _ => ⟨by decide, gZ1⟩, List.forall_mem_cons.mpr ⟨fun _ => ⟨by decide, gZ29⟩, fun _ h => absurd h List.not_mem_nil⟩⟩⟩⟩⟩⟩⟩⟩⟩⟩
set_option maxRecDepth 20000 in
theorem gY5 : ∀ l, pMx[5]? = some l → ∀ e ∈ l, pgY (pCn.getD 5 "") e := by
  intro l h
  cases Option.some.inj h
  exact List.forall_mem_cons.mpr ⟨fun h => absurd h (by decide), List.forall_mem_cons.mpr ⟨fun _ => ⟨by decide, gZ7⟩, List.forall_mem_cons.mpr ⟨fun _ => ⟨by decide, gZ41⟩, List.forall_mem_cons.mpr ⟨fun _ => ⟨by decide, gZ40⟩, fun _ h => absurd h List.not_mem_nil⟩⟩⟩⟩
set_option maxRecDepth 20000 in
theorem gY6 : ∀ l, pMx[6]? = some l → ∀ e ∈ l, pgY (pCn.getD 6 "") e := by
  intro l h
  cases Option.some.inj h
  exact List.forall_mem_cons.mpr ⟨fun h => absurd h (by decide), fun _ h => absurd h List.not_mem_nil⟩
set_option maxRecDepth 20000 in
theorem gY7 : ∀ l, pMx[7]? = some l → ∀ e ∈ l, pgY (pCn.getD 7 "") e := by
  intro l h
  cases Option.some.inj h
  exact List.forall_mem_cons.mpr ⟨fun h => absurd h (by decide), List.forall_mem_cons.mpr ⟨fun h => absurd h (by decide), fun _ h => absurd h List.not_mem_nil⟩⟩
set_option maxRecDepth 20000 in
theorem gY8 : ∀ l, pMx[8]? = some l → ∀ e ∈ l, pgY (pCn.getD 8 "") e := by
  intro l h
  cases Option.some.inj h
  exact List.forall_mem_cons.mpr ⟨fun h => absurd h (by decide), List.forall_mem_cons.mpr ⟨fun _ => ⟨by decide, gZ1⟩, List.forall_mem_cons.mpr ⟨fun _ => ⟨by decide, gZ2⟩, List.forall_mem_cons.mpr ⟨fun _ => ⟨by decide, gZ4⟩, List.forall_mem_cons.mpr ⟨fun _ => ⟨by decide, gZ5⟩, List.forall_mem_cons.mpr ⟨fun _ => ⟨by decide, gZ9⟩, List.forall_mem_cons.mpr ⟨fun _ => ⟨by decide, gZ10⟩, List.forall_mem_cons.mpr ⟨fun _ => ⟨by decide, gZ13⟩, List.forall_mem_cons.mpr ⟨fun _ => ⟨by decide, gZ14⟩, List.forall_mem_cons.mpr ⟨fun _ => ⟨by decide, gZ15⟩, List.forall_mem_cons.mpr ⟨fun _ => ⟨by decide, gZ27⟩, List.forall_mem_cons.mpr ⟨fun _ => ⟨by decide, gZ28⟩, List.forall_mem_cons.mpr ⟨fun _ => ⟨by decide, gZ31⟩, List.forall_mem_cons.mpr ⟨fun _ => ⟨by decide, gZ33⟩, List.forall_mem_cons.mpr ⟨fun _ => ⟨by decide, gZ35⟩, List.forall_mem_cons.mpr ⟨fun _ => ⟨by decide, gZ37⟩, List.forall_mem_cons.mpr ⟨fun _ => ⟨by decide, gZ22⟩, List.forall_mem_cons.mpr ⟨fun _ => ⟨by decide, gZ40⟩, List.forall_mem_cons.mpr ⟨fun _ => ⟨by decide, gZ41⟩, List.forall_mem_cons.mpr ⟨fun _ => ⟨by decide, gZ23⟩, List.forall_mem_cons.mpr ⟨fun _ => ⟨by decide, gZ24⟩, List.forall_mem_cons.mpr ⟨fun _ => ⟨by decide, gZ68⟩, List.forall_mem_cons.mpr ⟨fun _ => ⟨by decide, gZ74⟩, List.forall_mem_cons.mpr ⟨fun h => absurd h (by decide), List.forall_mem_cons.mpr ⟨fun h => absurd h (by decide), List.forall_mem_cons.mpr ⟨fun _ => ⟨by decide, gZ3⟩, List.forall_mem_cons.mpr ⟨fun _ => ⟨by decide, gZ38⟩, List.forall_mem_cons.mpr ⟨fun _ => ⟨by decide, gZ48⟩, List.forall_mem_cons.mpr ⟨fun _ => ⟨by decide, gZ53⟩, List.forall_mem_cons.mpr ⟨fun _ => ⟨by decide, gZ54⟩, List.forall_mem_cons.mpr ⟨fun _ => ⟨by decide, gZ39⟩, List.forall_mem_cons.mpr ⟨fun _ => ⟨by decide, gZ42⟩, List.forall_mem_cons.mpr ⟨fun _ => ⟨by decide, gZ49⟩, List.forall_mem_cons.mpr ⟨fun _ => ⟨by decide, gZ69⟩, List.forall_mem_cons.mpr ⟨fun _ => ⟨by decide, gZ25⟩, fun _ h => absurd h List.not_mem_nil⟩⟩⟩⟩⟩⟩⟩⟩⟩⟩⟩⟩⟩⟩⟩⟩⟩⟩⟩⟩⟩⟩⟩⟩⟩⟩⟩⟩⟩⟩⟩⟩⟩⟩⟩
set_option maxRecDepth 20000 in
theorem gY9 : ∀ l, pMx[9]? = some l → ∀ e ∈ l, pgY (pCn.getD 9 "") e := by
  intro l h
  cases Option.some.inj h
  exact List.forall_mem_cons.mpr ⟨fun h => absurd h (by decide), List.forall_mem_cons.mpr ⟨fun _ => ⟨by decide, gZ87⟩, List.forall_mem_cons.mpr ⟨fun _ => ⟨by decide, gZ83⟩, List.forall_mem_cons.mpr ⟨fun _ => ⟨by decide, gZ86⟩, List.forall_mem_cons.mpr ⟨fun _ => ⟨by decide, gZ84⟩, List.forall_mem_cons.mpr ⟨fun _ => ⟨by decide, gZ85⟩, List.forall_mem_cons.mpr ⟨fun _ => ⟨by decide, gZ89⟩, List.forall_mem_cons.mpr ⟨fun _ => ⟨by decide, gZ94⟩, List.forall_mem_cons.mpr ⟨fun _ => ⟨by decide, gZ100⟩, List.forall_mem_cons.mpr ⟨fun _ => ⟨by decide, gZ101⟩, List.forall_mem_cons.mpr ⟨fun _ => ⟨by decide, gZ95⟩, List.forall_mem_cons.mpr ⟨fun _ => ⟨by decide, gZ96⟩, List.forall_mem_cons.mpr ⟨fun _ => ⟨by decide, gZ98⟩, List.forall_mem_cons.mpr ⟨fun _ => ⟨by decide, gZ97⟩, List.forall_mem_cons.mpr ⟨fun _ => ⟨by decide, gZ99⟩, List.forall_mem_cons.mpr ⟨fun _ => ⟨by decide, gZ104⟩, List.forall_mem_cons.mpr ⟨fun _ => ⟨by decide, gZ102⟩, List.forall_mem_cons.mpr ⟨fun _ => ⟨by decide, gZ103⟩, List.forall_mem_cons.mpr ⟨fun _ => ⟨by decide, gZ105⟩, List.forall_mem_cons.mpr ⟨fun _ => ⟨by decide, gZ108⟩, List.forall_mem_cons.mpr ⟨fun _ => ⟨by decide, gZ112⟩, fun _ h => absurd h List.not_mem_nil⟩⟩⟩⟩⟩⟩⟩⟩⟩⟩⟩⟩⟩⟩⟩⟩⟩⟩⟩⟩⟩
set_option maxRecDepth 20000 in
theorem gY10 : ∀ l, pMx[10]? = some l → ∀ e ∈ l, pgY (pCn.getD 10 "") e := by
  intro l h
  cases Option.some.inj h
  exact List.forall_mem_cons.mpr ⟨fun _ => ⟨by decide, gZ80⟩, List.forall_mem_cons.mpr ⟨fun _ => ⟨by decide, gZ0⟩, List.forall_mem_cons.mpr ⟨fun _ => ⟨by decide, gZ81⟩, List.forall_mem_cons.mpr ⟨fun _ => ⟨by decide, gZ12⟩, List.forall_mem_cons.mpr ⟨fun _ => ⟨by decide, gZ82⟩, List.forall_mem_cons.mpr ⟨fun _ => ⟨by decide, gZ26⟩, List.forall_mem_cons.mpr ⟨fun _ => ⟨by decide, gZ88⟩, List.forall_mem_cons.mpr ⟨fun _ => ⟨by decide, gZ30⟩, List.forall_mem_cons.mpr ⟨fun _ => ⟨by decide, gZ90⟩, List.forall_mem_cons.mpr ⟨fun _ => ⟨by decide, gZ32⟩, List.forall_mem_cons.mpr ⟨fun _ => ⟨by decide, gZ91⟩, List.forall_mem_cons.mpr ⟨fun _ => ⟨by decide, gZ34⟩, List.forall_mem_cons.mpr ⟨fun _ => ⟨by decide, gZ92⟩, List.forall_mem_cons.mpr ⟨fun _ => ⟨by decide, gZ36⟩, List.forall_mem_cons.mpr ⟨fun _ => ⟨by decide, gZ93⟩, List.forall_mem_cons.mpr ⟨fun _ => ⟨by decide, gZ63⟩, List.forall_mem_cons.mpr ⟨fun _ => ⟨by decide, gZ106⟩, List.forall_mem_cons.mpr ⟨fun _ => ⟨by decide, gZ64⟩, List.forall_mem_cons.mpr ⟨fun _ => ⟨by decide, gZ107⟩, List.forall_mem_cons.mpr ⟨fun _ => ⟨by decide, gZ65⟩, List.forall_mem_cons.mpr ⟨fun _ => ⟨by decide, gZ109⟩, List.forall_mem_cons.mpr ⟨fun _ => ⟨by decide, gZ66⟩, List.forall_mem_cons.mpr ⟨fun _ => ⟨by decide, gZ110⟩, List.forall_mem_cons.mpr ⟨fun _ => ⟨by decide, gZ67⟩, List.forall_mem_cons.mpr ⟨fun _ => ⟨by decide, gZ111⟩, List.forall_mem_cons.mpr ⟨fun _ => ⟨by decide, gZ70⟩, List.forall_mem_cons.mpr ⟨fun _ => ⟨by decide, gZ113⟩, List.forall_mem_cons.mpr ⟨fun _ => ⟨by decide, gZ71⟩, List.forall_mem_cons.mpr ⟨fun _ => ⟨by decide, gZ114⟩, List.forall_mem_cons.mpr ⟨fun _ => ⟨by decide, gZ72⟩, List.forall_mem_cons.mpr ⟨fun _ => ⟨by decide, gZ115⟩, List.forall_mem_cons.mpr ⟨fun _ => ⟨by decide, gZ73⟩, List.forall_mem_cons.mpr ⟨fun _ => ⟨by decide, gZ116⟩, List.forall_mem_cons.mpr ⟨fun _ => ⟨by decide, gZ75⟩, List.forall_mem_cons.mpr ⟨fun _ => ⟨by decide, gZ117⟩, List.forall_mem_cons.mpr ⟨fun _ => ⟨by decide, gZ76⟩, List.forall_mem_cons.mpr ⟨fun _ => ⟨by decide, gZ97⟩, List.forall_mem_cons.mpr ⟨fun _ => ⟨by decide, gZ77⟩, List.forall_mem_cons.mpr ⟨fun _ => ⟨by decide, gZ118⟩, List.forall_mem_cons.mpr ⟨fun _ => ⟨by decide, gZ78⟩, List.forall_mem_cons.mpr ⟨fun _ => ⟨by decide, gZ119⟩, List.forall_mem_cons.mpr ⟨fun _ => ⟨by decide, gZ79⟩, List.forall_mem_cons.mpr ⟨fun _ => ⟨by decide, gZ120⟩, fun _ h => absurd h List.not_mem_nil⟩⟩⟩⟩⟩⟩⟩⟩⟩⟩⟩⟩⟩⟩⟩⟩⟩⟩⟩⟩⟩⟩⟩⟩⟩⟩⟩⟩⟩⟩⟩⟩⟩⟩⟩⟩⟩⟩⟩⟩⟩⟩⟩
set_option maxRecDepth 20000 in
theorem gY11 : ∀ l, pMx[11]? = some l → ∀ e ∈ l, pgY (pCn.getD 11 "") e := by
  intro l h
  cases Option.some.inj h
  exact fun _ h => absurd h List.not_mem_nil
theorem gYall (q : Nat) : ∀ l, pMx[q]? = some l → ∀ e ∈ l, pgY (pCn.getD q "") e := by
  match q with
  | 0 => exact gY0
  | 1 => exact gY1
  | 2 => exact gY2
  | 3 => exact gY3
  | 4 => exact gY4
  | 5 => exact gY5
  | 6 => exact gY6
  | 7 => exact gY7
  | 8 => exact gY8
  | 9 => exact gY9
  | 10 => exact gY10
  | 11 => exact gY11
  | n + 12 => intro l h; cases h
theorem nkZ : pk_Z pP pWs := by
  intro y idx z n kd ci h h6
  obtain ⟨l, hl, hm⟩ := pq_mem (show pq pMx (pp_own pP y) idx = _ from h)
  exact gYall _ l hl _ hm h6
def pgV (c : String) (e : Nat × Int32) : Prop := Cond.constant c e.1 e.2 ∈ pWs
set_option maxRecDepth 20000 in
theorem gV0 : ∀ l, pVx[0]? = some l → ∀ e ∈ l, pgV (pCn.getD 0 "") e := by
  intro l h
  cases Option.some.inj h
  exact fun _ h => absurd h List.not_mem_nil
set_option maxRecDepth 20000 in
theorem gV1 : ∀ l, pVx[1]? = some l → ∀ e ∈ l, pgV (pCn.getD 1 "") e := by
  intro l h
  cases Option.some.inj h
  exact fun _ h => absurd h List.not_mem_nil
set_option maxRecDepth 20000 in
theorem gV2 : ∀ l, pVx[2]? = some l → ∀ e ∈ l, pgV (pCn.getD 2 "") e := by
  intro l h
  cases Option.some.inj h
  exact fun _ h => absurd h List.not_mem_nil
set_option maxRecDepth 20000 in
theorem gV3 : ∀ l, pVx[3]? = some l → ∀ e ∈ l, pgV (pCn.getD 3 "") e := by
  intro l h
  cases Option.some.inj h
  exact fun _ h => absurd h List.not_mem_nil
set_option maxRecDepth 20000 in
theorem gV4 : ∀ l, pVx[4]? = some l → ∀ e ∈ l, pgV (pCn.getD 4 "") e := by
  intro l h
  cases Option.some.inj h
  exact fun _ h => absurd h List.not_mem_nil
set_option maxRecDepth 20000 in
theorem gV5 : ∀ l, pVx[5]? = some l → ∀ e ∈ l, pgV (pCn.getD 5 "") e := by
  intro l h
  cases Option.some.inj h
  exact fun _ h => absurd h List.not_mem_nil
set_option maxRecDepth 20000 in
theorem gV6 : ∀ l, pVx[6]? = some l → ∀ e ∈ l, pgV (pCn.getD 6 "") e := by
  intro l h
  cases Option.some.inj h
  exact fun _ h => absurd h List.not_mem_nil
set_option maxRecDepth 20000 in
theorem gV7 : ∀ l, pVx[7]? = some l → ∀ e ∈ l, pgV (pCn.getD 7 "") e := by
  intro l h
  cases Option.some.inj h
  exact fun _ h => absurd h List.not_mem_nil
set_option maxRecDepth 20000 in
theorem gV8 : ∀ l, pVx[8]? = some l → ∀ e ∈ l, pgV (pCn.getD 8 "") e := by
  intro l h
  cases Option.some.inj h
  exact List.forall_mem_cons.mpr ⟨wm1 36 rfl rfl, List.forall_mem_cons.mpr ⟨wm1 37 rfl rfl, List.forall_mem_cons.mpr ⟨wm3 78 rfl rfl, List.forall_mem_cons.mpr ⟨wm3 80 rfl rfl, fun _ h => absurd h List.not_mem_nil⟩⟩⟩⟩
set_option maxRecDepth 20000 in
theorem gV9 : ∀ l, pVx[9]? = some l → ∀ e ∈ l, pgV (pCn.getD 9 "") e := by
  intro l h
  cases Option.some.inj h
  exact List.forall_mem_cons.mpr ⟨wm3 130 rfl rfl, List.forall_mem_cons.mpr ⟨wm3 131 rfl rfl, List.forall_mem_cons.mpr ⟨wm4 133 rfl rfl, List.forall_mem_cons.mpr ⟨wm4 134 rfl rfl, fun _ h => absurd h List.not_mem_nil⟩⟩⟩⟩
set_option maxRecDepth 20000 in
theorem gV10 : ∀ l, pVx[10]? = some l → ∀ e ∈ l, pgV (pCn.getD 10 "") e := by
  intro l h
  cases Option.some.inj h
  exact fun _ h => absurd h List.not_mem_nil
set_option maxRecDepth 20000 in
theorem gV11 : ∀ l, pVx[11]? = some l → ∀ e ∈ l, pgV (pCn.getD 11 "") e := by
  intro l h
  cases Option.some.inj h
  exact fun _ h => absurd h List.not_mem_nil
theorem gVall (q : Nat) : ∀ l, pVx[q]? = some l → ∀ e ∈ l, pgV (pCn.getD q "") e := by
  match q with
  | 0 => exact gV0
  | 1 => exact gV1
  | 2 => exact gV2
  | 3 => exact gV3
  | 4 => exact gV4
  | 5 => exact gV5
  | 6 => exact gV6
  | 7 => exact gV7
  | 8 => exact gV8
  | 9 => exact gV9
  | 10 => exact gV10
  | 11 => exact gV11
  | n + 12 => intro l h; cases h
theorem nkV : pk_V pP pWs := by
  intro y idx v h
  obtain ⟨l, hl, hm⟩ := pq_mem (show pq pVx (pp_own pP y) idx = _ from h)
  have g := gVall _ l hl _ hm
  rcases pcls y with e | e
  · rw [e] at hl
    cases hl
  · rw [e]
    exact g
def pgN (c : String) (e : Nat × Nat) : Prop := ∃ r : vw_C × List FieldType × Bool, pCl[e.2]? = some r ∧ Cond.classLink c e.1 r.1.1 ∈ pWs
set_option maxRecDepth 20000 in
theorem gN0 : ∀ l, pNx[0]? = some l → ∀ e ∈ l, pgN (pCn.getD 0 "") e := by
  intro l h
  cases Option.some.inj h
  exact fun _ h => absurd h List.not_mem_nil
set_option maxRecDepth 20000 in
theorem gN1 : ∀ l, pNx[1]? = some l → ∀ e ∈ l, pgN (pCn.getD 1 "") e := by
  intro l h
  cases Option.some.inj h
  exact fun _ h => absurd h List.not_mem_nil
set_option maxRecDepth 20000 in
theorem gN2 : ∀ l, pNx[2]? = some l → ∀ e ∈ l, pgN (pCn.getD 2 "") e := by
  intro l h
  cases Option.some.inj h
  exact fun _ h => absurd h List.not_mem_nil
set_option maxRecDepth 20000 in
theorem gN3 : ∀ l, pNx[3]? = some l → ∀ e ∈ l, pgN (pCn.getD 3 "") e := by
  intro l h
  cases Option.some.inj h
  exact List.forall_mem_cons.mpr ⟨⟨_, rfl, wm2 11 rfl rfl⟩, fun _ h => absurd h List.not_mem_nil⟩
set_option maxRecDepth 20000 in
theorem gN4 : ∀ l, pNx[4]? = some l → ∀ e ∈ l, pgN (pCn.getD 4 "") e := by
  intro l h
  cases Option.some.inj h
  exact List.forall_mem_cons.mpr ⟨⟨_, rfl, wm1 63 rfl rfl⟩, List.forall_mem_cons.mpr ⟨⟨_, rfl, wm1 116 rfl rfl⟩, fun _ h => absurd h List.not_mem_nil⟩⟩
set_option maxRecDepth 20000 in
theorem gN5 : ∀ l, pNx[5]? = some l → ∀ e ∈ l, pgN (pCn.getD 5 "") e := by
  intro l h
  cases Option.some.inj h
  exact List.forall_mem_cons.mpr ⟨⟨_, rfl, wm1 69 rfl rfl⟩, fun _ h => absurd h List.not_mem_nil⟩
set_option maxRecDepth 20000 in
theorem gN6 : ∀ l, pNx[6]? = some l → ∀ e ∈ l, pgN (pCn.getD 6 "") e := by
  intro l h
  cases Option.some.inj h
  exact fun _ h => absurd h List.not_mem_nil
set_option maxRecDepth 20000 in
theorem gN7 : ∀ l, pNx[7]? = some l → ∀ e ∈ l, pgN (pCn.getD 7 "") e := by
  intro l h
  cases Option.some.inj h
  exact fun _ h => absurd h List.not_mem_nil
set_option maxRecDepth 20000 in
theorem gN8 : ∀ l, pNx[8]? = some l → ∀ e ∈ l, pgN (pCn.getD 8 "") e := by
  intro l h
  cases Option.some.inj h
  exact List.forall_mem_cons.mpr ⟨⟨_, rfl, wm1 38 rfl rfl⟩, List.forall_mem_cons.mpr ⟨⟨_, rfl, wm1 56 rfl rfl⟩, List.forall_mem_cons.mpr ⟨⟨_, rfl, wm1 207 rfl rfl⟩, List.forall_mem_cons.mpr ⟨⟨_, rfl, wm2 5 rfl rfl⟩, fun _ h => absurd h List.not_mem_nil⟩⟩⟩⟩
set_option maxRecDepth 20000 in
theorem gN9 : ∀ l, pNx[9]? = some l → ∀ e ∈ l, pgN (pCn.getD 9 "") e := by
  intro l h
  cases Option.some.inj h
  exact fun _ h => absurd h List.not_mem_nil
set_option maxRecDepth 20000 in
theorem gN10 : ∀ l, pNx[10]? = some l → ∀ e ∈ l, pgN (pCn.getD 10 "") e := by
  intro l h
  cases Option.some.inj h
  exact List.forall_mem_cons.mpr ⟨⟨_, rfl, wm1 13 rfl rfl⟩, List.forall_mem_cons.mpr ⟨⟨_, rfl, wm3 124 rfl rfl⟩, fun _ h => absurd h List.not_mem_nil⟩⟩
set_option maxRecDepth 20000 in
theorem gN11 : ∀ l, pNx[11]? = some l → ∀ e ∈ l, pgN (pCn.getD 11 "") e := by
  intro l h
  cases Option.some.inj h
  exact fun _ h => absurd h List.not_mem_nil
theorem gNall (q : Nat) : ∀ l, pNx[q]? = some l → ∀ e ∈ l, pgN (pCn.getD q "") e := by
  match q with
  | 0 => exact gN0
  | 1 => exact gN1
  | 2 => exact gN2
  | 3 => exact gN3
  | 4 => exact gN4
  | 5 => exact gN5
  | 6 => exact gN6
  | 7 => exact gN7
  | 8 => exact gN8
  | 9 => exact gN9
  | 10 => exact gN10
  | 11 => exact gN11
  | n + 12 => intro l h; cases h
theorem nkN : pk_N pP pWs := by
  intro y idx ci h
  obtain ⟨l, hl, hm⟩ := pq_mem (show pq pNx (pp_own pP y) idx = _ from h)
  have g := gNall _ l hl _ hm
  rcases pcls y with e | e
  · rw [e] at hl
    cases hl
  · rw [e]
    exact g
def pfin (m : PMt) : Bool := m.1.all (fun o => match o with
  | some (.putfield idx) => (match pq pFx m.2.2.1 idx with
    | some (ci, k) => (match pCl[ci]? with
      | some r => !(r.1.2.1 k).2.2.2 || (decide (m.2.2.2.2.2.2.name = "<init>") && decide ((r.1.2.1 k).1 = m.2.2.2.2.2.2.cls))
      | none => true)
    | none => true)
  | _ => true)
theorem pfin_ok : pM.all pfin = true := by decide +kernel
theorem pCode_in {y pc : Nat} {ins : Instr} (h : pp_code pP y pc = some ins) : pMg y ∈ pM ∧ some ins ∈ (pMg y).1 := by
  have h : ((pMg y).1[pc]?).join = some ins := h
  have h2 : (pMg y).1[pc]? = some (some ins) := by
    cases e : (pMg y).1[pc]? with
    | none => rw [e] at h; cases h
    | some x => rw [e] at h; exact congrArg some h
  rcases pMg_or y with q | q
  · rw [q] at h2
    cases h2
  · exact ⟨q, List.mem_of_getElem? h2⟩
theorem nkP : pk_P pP pWs := by
  intro y pc idx ci k r hc hf hr
  obtain ⟨q1, q2⟩ := pCode_in hc
  have g := List.all_eq_true.mp (List.all_eq_true.mp pfin_ok _ q1) _ q2
  have hf2 : pq pFx (pMg y).2.2.1 idx = some (ci, k) := hf
  have hr2 : pCl[ci]? = some r := hr
  simp only [hf2, hr2] at g
  cases hfin : (r.1.2.1 k).2.2.2 with
  | false => exact Or.inl rfl
  | true =>
    right
    rw [hfin] at g
    simp only [Bool.not_true, Bool.false_or, Bool.and_eq_true, decide_eq_true_eq] at g
    refine ⟨rfl, g.1, g.2, ?_⟩
    obtain ⟨l, hl, hm⟩ := pq_mem (show pq pFx (pp_own pP y) idx = _ from hf)
    obtain ⟨r2, h1, h2, h3⟩ := gFall _ l hl _ hm
    cases hr2.symm.trans h1
    rcases pcls y with e | e
    · rw [e] at hl
      cases hl
    · rw [e]
      rcases h3 with h3 | ⟨-, h3⟩
      · exact h3
      · rw [← e] at h3
        exact absurd g.2 h3
def prm1 (m : PMt) (idx : Nat) : Bool := match pq pMx m.2.2.1 idx with
  | some (z, _, kd, _) => if 6 ≤ kd then decide (1 ≤ m.2.2.2.1.frames) && decide (22 ≤ m.2.2.2.1.locals) else decide ((pMg z).2.2.2.1.frames + 1 ≤ m.2.2.2.1.frames) && decide (8 + ((pMg z).2.2.2.2.2.1 + 11) + (pMg z).2.2.2.1.locals ≤ m.2.2.2.1.locals)
  | none => true
def prm (m : PMt) : Bool := m.1.all (fun o => match o with
  | some (.invokestatic idx) => prm1 m idx
  | some (.invokevirtual idx) => prm1 m idx
  | some (.invokespecial idx) => prm1 m idx
  | _ => true)
theorem prm_ok : pM.all prm = true := by decide +kernel
theorem nkR : pk_R pP := by
  intro y pc idx z n kd ci hc hm
  have hm2 : pq pMx (pMg y).2.2.1 idx = some (z, n, kd, ci) := hm
  have g : prm1 (pMg y) idx = true := by
    rcases hc with hc | hc | hc
    · obtain ⟨q1, q2⟩ := pCode_in hc
      exact List.all_eq_true.mp (List.all_eq_true.mp prm_ok _ q1) _ q2
    · obtain ⟨q1, q2⟩ := pCode_in hc
      exact List.all_eq_true.mp (List.all_eq_true.mp prm_ok _ q1) _ q2
    · obtain ⟨q1, q2⟩ := pCode_in hc
      exact List.all_eq_true.mp (List.all_eq_true.mp prm_ok _ q1) _ q2
  unfold prm1 at g
  rw [hm2] at g
  constructor
  · intro h6
    simp only [h6, if_true, Bool.and_eq_true, decide_eq_true_eq] at g
    exact g
  · intro h6
    simp only [Nat.not_le.mpr h6, if_false, Bool.and_eq_true, decide_eq_true_eq] at g
    exact g
end
section
/-! the tables of 12.nm are what the bytes decode to: made by a program (wip/whole/gen/valid.py) -/
def pdk1 (bs : ByteArray) (pc : Nat) (ins : Instr) : Bool := match decode bs pc with
  | .ok (i, len) => decide (i = ins) && (match pm_len ins with
    | some n => decide (len = n)
    | none => true)
  | _ => false
def pdk (bs : ByteArray) : Nat → List (Option Instr) → Bool
  | _, [] => true
  | pc, some ins :: t => pdk1 bs pc ins && pdk bs (pc + 1) t
  | pc, none :: t => pdk bs (pc + 1) t
theorem pdk1_use {bs : ByteArray} {pc : Nat} {ins : Instr} (h : pdk1 bs pc ins = true) : ∃ len, decode bs pc = .ok (ins, len) ∧ ∀ n, pm_len ins = some n → len = n := by
  unfold pdk1 at h
  split at h
  · rename_i i len e
    rw [Bool.and_eq_true, decide_eq_true_eq] at h
    obtain ⟨h1, h2⟩ := h
    subst h1
    refine ⟨len, e, fun n hn => ?_⟩
    rw [hn] at h2
    exact of_decide_eq_true h2
  · cases h
theorem pdk_use {bs : ByteArray} {ins : Instr} : ∀ (t : List (Option Instr)) (k pc : Nat), pdk bs k t = true → t[pc]? = some (some ins) → pdk1 bs (k + pc) ins = true
  | [], _, _, _, h => by simp at h
  | some i :: t, k, 0, h, e => by
    unfold pdk at h
    rw [Bool.and_eq_true] at h
    cases e
    exact h.1
  | some i :: t, k, pc + 1, h, e => by
    unfold pdk at h
    rw [Bool.and_eq_true] at h
    have := pdk_use t (k + 1) pc h.2 e
    rw [show k + (pc + 1) = k + 1 + pc by omega]
    exact this
  | none :: t, k, 0, h, e => by cases e
  | none :: t, k, pc + 1, h, e => by
    unfold pdk at h
    have := pdk_use t (k + 1) pc h e
    rw [show k + (pc + 1) = k + 1 + pc by omega]
    exact this
theorem pD0 : pdk prog_1_method_1_code 0 pT0 = true := by decide +kernel
theorem pD1 : pdk prog_1_method_22_code 0 pT1 = true := by decide +kernel
theorem pD2 : pdk prog_1_method_23_code 0 pT2 = true := by decide +kernel
theorem pD3 : pdk prog_12_method_50_code 0 pT3 = true := by decide +kernel
theorem pD4 : pdk prog_9_method_1_code 0 pT4 = true := by decide +kernel
theorem pD5 : pdk prog_6_method_1_code 0 pT5 = true := by decide +kernel
theorem pD6 : pdk prog_7_method_1_code 0 pT6 = true := by decide +kernel
theorem pD7 : pdk prog_3_method_1_code 0 pT7 = true := by decide +kernel
theorem pD8 : pdk prog_8_method_1_code 0 pT8 = true := by decide +kernel
theorem pD9 : pdk prog_4_method_1_code 0 pT9 = true := by decide +kernel
theorem pD10 : pdk prog_5_method_1_code 0 pT10 = true := by decide +kernel
theorem pD11 : pdk prog_2_method_1_code 0 pT11 = true := by decide +kernel
theorem pD12 : pdk prog_1_method_2_code 0 pT12 = true := by decide +kernel
theorem pD13 : pdk prog_1_method_24_code 0 pT13 = true := by decide +kernel
theorem pD14 : pdk prog_1_method_26_code 0 pT14 = true := by decide +kernel
theorem pD15 : pdk prog_4_method_2_code 0 pT15 = true := by decide +kernel
theorem pD16 : pdk prog_6_method_5_code 0 pT16 = true := by decide +kernel
theorem pD17 : pdk prog_6_method_4_code 0 pT17 = true := by decide +kernel
theorem pD18 : pdk prog_8_method_2_code 0 pT18 = true := by decide +kernel
theorem pD19 : pdk prog_4_method_13_code 0 pT19 = true := by decide +kernel
theorem pD20 : pdk prog_4_method_14_code 0 pT20 = true := by decide +kernel
theorem pD21 : pdk prog_6_method_3_code 0 pT21 = true := by decide +kernel
theorem pD22 : pdk prog_6_method_2_code 0 pT22 = true := by decide +kernel
theorem pD23 : pdk prog_7_method_3_code 0 pT23 = true := by decide +kernel
theorem pD24 : pdk prog_3_method_2_code 0 pT24 = true := by decide +kernel
theorem pD25 : pdk prog_9_method_4_code 0 pT25 = true := by decide +kernel
theorem pD26 : pdk prog_1_method_3_code 0 pT26 = true := by decide +kernel
theorem pD27 : pdk prog_1_method_25_code 0 pT27 = true := by decide +kernel
theorem pD28 : pdk prog_6_method_11_code 0 pT28 = true := by decide +kernel
theorem pD29 : pdk prog_7_method_6_code 0 pT29 = true := by decide +kernel
theorem pD30 : pdk prog_1_method_4_code 0 pT30 = true := by decide +kernel
theorem pD31 : pdk prog_9_method_2_code 0 pT31 = true := by decide +kernel
theorem pD32 : pdk prog_1_method_5_code 0 pT32 = true := by decide +kernel
theorem pD33 : pdk prog_9_method_3_code 0 pT33 = true := by decide +kernel
theorem pD34 : pdk prog_1_method_6_code 0 pT34 = true := by decide +kernel
theorem pD35 : pdk prog_5_method_6_code 0 pT35 = true := by decide +kernel
theorem pD36 : pdk prog_1_method_7_code 0 pT36 = true := by decide +kernel
theorem pD37 : pdk prog_1_method_27_code 0 pT37 = true := by decide +kernel
theorem pD38 : pdk prog_1_method_28_code 0 pT38 = true := by decide +kernel
theorem pD39 : pdk prog_7_method_5_code 0 pT39 = true := by decide +kernel
theorem pD40 : pdk prog_7_method_4_code 0 pT40 = true := by decide +kernel
theorem pD41 : pdk prog_7_method_2_code 0 pT41 = true := by decide +kernel
theorem pD42 : pdk prog_5_method_2_code 0 pT42 = true := by decide +kernel
theorem pD43 : pdk prog_5_method_3_code 0 pT43 = true := by decide +kernel
theorem pD44 : pdk prog_2_method_2_code 0 pT44 = true := by decide +kernel
theorem pD45 : pdk prog_5_method_4_code 0 pT45 = true := by decide +kernel
theorem pD46 : pdk prog_2_method_3_code 0 pT46 = true := by decide +kernel
theorem pD47 : pdk prog_5_method_5_code 0 pT47 = true := by decide +kernel
theorem pD48 : pdk prog_1_method_29_code 0 pT48 = true := by decide +kernel
theorem pD49 : pdk prog_4_method_3_code 0 pT49 = true := by decide +kernel
theorem pD50 : pdk prog_4_method_4_code 0 pT50 = true := by decide +kernel
theorem pD51 : pdk prog_6_method_6_code 0 pT51 = true := by decide +kernel
theorem pD52 : pdk prog_6_method_9_code 0 pT52 = true := by decide +kernel
theorem pD53 : pdk prog_4_method_5_code 0 pT53 = true := by decide +kernel
theorem pD54 : pdk prog_4_method_6_code 0 pT54 = true := by decide +kernel
theorem pD55 : pdk prog_4_method_7_code 0 pT55 = true := by decide +kernel
theorem pD56 : pdk prog_4_method_8_code 0 pT56 = true := by decide +kernel
theorem pD57 : pdk prog_6_method_10_code 0 pT57 = true := by decide +kernel
theorem pD58 : pdk prog_4_method_9_code 0 pT58 = true := by decide +kernel
theorem pD59 : pdk prog_4_method_10_code 0 pT59 = true := by decide +kernel
theorem pD60 : pdk prog_6_method_7_code 0 pT60 = true := by decide +kernel
theorem pD61 : pdk prog_4_method_11_code 0 pT61 = true := by decide +kernel
theorem pD62 : pdk prog_4_method_12_code 0 pT62 = true := by decide +kernel
theorem pD63 : pdk prog_1_method_8_code 0 pT63 = true := by decide +kernel
theorem pD64 : pdk prog_1_method_9_code 0 pT64 = true := by decide +kernel
theorem pD65 : pdk prog_1_method_10_code 0 pT65 = true := by decide +kernel
theorem pD66 : pdk prog_1_method_11_code 0 pT66 = true := by decide +kernel
theorem pD67 : pdk prog_1_method_12_code 0 pT67 = true := by decide +kernel
theorem pD68 : pdk prog_1_method_30_code 0 pT68 = true := by decide +kernel
theorem pD69 : pdk prog_1_method_31_code 0 pT69 = true := by decide +kernel
theorem pD70 : pdk prog_1_method_13_code 0 pT70 = true := by decide +kernel
theorem pD71 : pdk prog_1_method_14_code 0 pT71 = true := by decide +kernel
theorem pD72 : pdk prog_1_method_15_code 0 pT72 = true := by decide +kernel
theorem pD73 : pdk prog_1_method_16_code 0 pT73 = true := by decide +kernel
theorem pD74 : pdk prog_6_method_8_code 0 pT74 = true := by decide +kernel
theorem pD75 : pdk prog_1_method_17_code 0 pT75 = true := by decide +kernel
theorem pD76 : pdk prog_1_method_18_code 0 pT76 = true := by decide +kernel
theorem pD77 : pdk prog_1_method_19_code 0 pT77 = true := by decide +kernel
theorem pD78 : pdk prog_1_method_20_code 0 pT78 = true := by decide +kernel
theorem pD79 : pdk prog_1_method_21_code 0 pT79 = true := by decide +kernel
theorem pD80 : pdk method_2_code 0 pT80 = true := by decide +kernel
theorem pD81 : pdk prog_11_method_1_code 0 pT81 = true := by decide +kernel
theorem pD82 : pdk prog_11_method_8_code 0 pT82 = true := by decide +kernel
theorem pD83 : pdk prog_11_method_2_code 0 pT83 = true := by decide +kernel
theorem pD84 : pdk prog_11_method_9_code 0 pT84 = true := by decide +kernel
theorem pD85 : pdk prog_11_method_7_code 0 pT85 = true := by decide +kernel
theorem pD86 : pdk prog_11_method_4_code 0 pT86 = true := by decide +kernel
theorem pD87 : pdk prog_11_method_3_code 0 pT87 = true := by decide +kernel
theorem pD88 : pdk prog_11_method_11_code 0 pT88 = true := by decide +kernel
theorem pD89 : pdk prog_11_method_10_code 0 pT89 = true := by decide +kernel
theorem pD90 : pdk prog_11_method_12_code 0 pT90 = true := by decide +kernel
theorem pD91 : pdk prog_11_method_13_code 0 pT91 = true := by decide +kernel
theorem pD92 : pdk prog_11_method_14_code 0 pT92 = true := by decide +kernel
theorem pD93 : pdk prog_11_method_15_code 0 pT93 = true := by decide +kernel
theorem pD94 : pdk prog_11_method_16_code 0 pT94 = true := by decide +kernel
theorem pD95 : pdk prog_11_method_5_code 0 pT95 = true := by decide +kernel
theorem pD96 : pdk prog_11_method_17_code 0 pT96 = true := by decide +kernel
theorem pD97 : pdk prog_11_method_37_code 0 pT97 = true := by decide +kernel
theorem pD98 : pdk prog_11_method_18_code 0 pT98 = true := by decide +kernel
theorem pD99 : pdk prog_11_method_19_code 0 pT99 = true := by decide +kernel
theorem pD100 : pdk prog_11_method_20_code 0 pT100 = true := by decide +kernel
theorem pD101 : pdk prog_11_method_24_code 0 pT101 = true := by decide +kernel
theorem pD102 : pdk prog_11_method_23_code 0 pT102 = true := by decide +kernel
theorem pD103 : pdk prog_11_method_25_code 0 pT103 = true := by decide +kernel
theorem pD104 : pdk prog_11_method_21_code 0 pT104 = true := by decide +kernel
theorem pD105 : pdk prog_11_method_22_code 0 pT105 = true := by decide +kernel
theorem pD106 : pdk prog_11_method_26_code 0 pT106 = true := by decide +kernel
theorem pD107 : pdk prog_11_method_27_code 0 pT107 = true := by decide +kernel
theorem pD108 : pdk prog_11_method_6_code 0 pT108 = true := by decide +kernel
theorem pD109 : pdk prog_11_method_28_code 0 pT109 = true := by decide +kernel
theorem pD110 : pdk prog_11_method_29_code 0 pT110 = true := by decide +kernel
theorem pD111 : pdk prog_11_method_30_code 0 pT111 = true := by decide +kernel
theorem pD112 : pdk prog_11_method_31_code 0 pT112 = true := by decide +kernel
theorem pD113 : pdk prog_11_method_32_code 0 pT113 = true := by decide +kernel
theorem pD114 : pdk prog_11_method_33_code 0 pT114 = true := by decide +kernel
theorem pD115 : pdk prog_11_method_34_code 0 pT115 = true := by decide +kernel
theorem pD116 : pdk prog_11_method_35_code 0 pT116 = true := by decide +kernel
theorem pD117 : pdk prog_11_method_36_code 0 pT117 = true := by decide +kernel
theorem pD118 : pdk prog_11_method_38_code 0 pT118 = true := by decide +kernel
theorem pD119 : pdk prog_11_method_39_code 0 pT119 = true := by decide +kernel
theorem pD120 : pdk prog_11_method_40_code 0 pT120 = true := by decide +kernel
theorem pD121 : pdk code 0 pT121 = true := by decide +kernel
theorem pDall : ∀ m ∈ pM, pdk m.2.1 0 m.1 = true := List.forall_mem_cons.mpr ⟨pD0, List.forall_mem_cons.mpr ⟨pD1, List.forall_mem_cons.mpr ⟨pD2, List.forall_mem_cons.mpr ⟨pD3, List.forall_mem_cons.mpr ⟨pD4, List.forall_mem_cons.mpr ⟨pD5, List.forall_mem_cons.mpr ⟨pD6, List.forall_mem_cons.mpr ⟨pD7, List.forall_mem_cons.mpr ⟨pD8, List.forall_mem_cons.mpr ⟨pD9, List.forall_mem_cons.mpr ⟨pD10, List.forall_mem_cons.mpr ⟨pD11, List.forall_mem_cons.mpr ⟨pD12, List.forall_mem_cons.mpr ⟨pD13, List.forall_mem_cons.mpr ⟨pD14, List.forall_mem_cons.mpr ⟨pD15, List.forall_mem_cons.mpr ⟨pD16, List.forall_mem_cons.mpr ⟨pD17, List.forall_mem_cons.mpr ⟨pD18, List.forall_mem_cons.mpr ⟨pD19, List.forall_mem_cons.mpr ⟨pD20, List.forall_mem_cons.mpr ⟨pD21, List.forall_mem_cons.mpr ⟨pD22, List.forall_mem_cons.mpr ⟨pD23, List.forall_mem_cons.mpr ⟨pD24, List.forall_mem_cons.mpr ⟨pD25, List.forall_mem_cons.mpr ⟨pD26, List.forall_mem_cons.mpr ⟨pD27, List.forall_mem_cons.mpr ⟨pD28, List.forall_mem_cons.mpr ⟨pD29, List.forall_mem_cons.mpr ⟨pD30, List.forall_mem_cons.mpr ⟨pD31, List.forall_mem_cons.mpr ⟨pD32, List.forall_mem_cons.mpr ⟨pD33, List.forall_mem_cons.mpr ⟨pD34, List.forall_mem_cons.mpr ⟨pD35, List.forall_mem_cons.mpr ⟨pD36, List.forall_mem_cons.mpr ⟨pD37, List.forall_mem_cons.mpr ⟨pD38, List.forall_mem_cons.mpr ⟨pD39, List.forall_mem_cons.mpr ⟨pD40, List.forall_mem_cons.mpr ⟨pD41, List.forall_mem_cons.mpr ⟨pD42, List.forall_mem_cons.mpr ⟨pD43, List.forall_mem_cons.mpr ⟨pD44, List.forall_mem_cons.mpr ⟨pD45, List.forall_mem_cons.mpr ⟨pD46, List.forall_mem_cons.mpr ⟨pD47, List.forall_mem_cons.mpr ⟨pD48, List.forall_mem_cons.mpr ⟨pD49, List.forall_mem_cons.mpr ⟨pD50, List.forall_mem_cons.mpr ⟨pD51, List.forall_mem_cons.mpr ⟨pD52, List.forall_mem_cons.mpr ⟨pD53, List.forall_mem_cons.mpr ⟨pD54, List.forall_mem_cons.mpr ⟨pD55, List.forall_mem_cons.mpr ⟨pD56, List.forall_mem_cons.mpr ⟨pD57, List.forall_mem_cons.mpr ⟨pD58, List.forall_mem_cons.mpr ⟨pD59, List.forall_mem_cons.mpr ⟨pD60, List.forall_mem_cons.mpr ⟨pD61, List.forall_mem_cons.mpr ⟨pD62, List.forall_mem_cons.mpr ⟨pD63, List.forall_mem_cons.mpr ⟨pD64, List.forall_mem_cons.mpr ⟨pD65, List.forall_mem_cons.mpr ⟨pD66, List.forall_mem_cons.mpr ⟨pD67, List.forall_mem_cons.mpr ⟨pD68, List.forall_mem_cons.mpr ⟨pD69, List.forall_mem_cons.mpr ⟨pD70, List.forall_mem_cons.mpr ⟨pD71, List.forall_mem_cons.mpr ⟨pD72, List.forall_mem_cons.mpr ⟨pD73, List.forall_mem_cons.mpr ⟨pD74, List.forall_mem_cons.mpr ⟨pD75, List.forall_mem_cons.mpr ⟨pD76, List.forall_mem_cons.mpr ⟨pD77, List.forall_mem_cons.mpr ⟨pD78, List.forall_mem_cons.mpr ⟨pD79, List.forall_mem_cons.mpr ⟨pD80, List.forall_mem_cons.mpr ⟨pD81, List.forall_mem_cons.mpr ⟨pD82, List.forall_mem_cons.mpr ⟨pD83, List.forall_mem_cons.mpr ⟨pD84, List.forall_mem_cons.mpr ⟨pD85, List.forall_mem_cons.mpr ⟨pD86, List.forall_mem_cons.mpr ⟨pD87, List.forall_mem_cons.mpr ⟨pD88, List.forall_mem_cons.mpr ⟨pD89, List.forall_mem_cons.mpr ⟨pD90, List.forall_mem_cons.mpr ⟨pD91, List.forall_mem_cons.mpr ⟨pD92, List.forall_mem_cons.mpr ⟨pD93, List.forall_mem_cons.mpr ⟨pD94, List.forall_mem_cons.mpr ⟨pD95, List.forall_mem_cons.mpr ⟨pD96, List.forall_mem_cons.mpr ⟨pD97, List.forall_mem_cons.mpr ⟨pD98, List.forall_mem_cons.mpr ⟨pD99, List.forall_mem_cons.mpr ⟨pD100, List.forall_mem_cons.mpr ⟨pD101, List.forall_mem_cons.mpr ⟨pD102, List.forall_mem_cons.mpr ⟨pD103, List.forall_mem_cons.mpr ⟨pD104, List.forall_mem_cons.mpr ⟨pD105, List.forall_mem_cons.mpr ⟨pD106, List.forall_mem_cons.mpr ⟨pD107, List.forall_mem_cons.mpr ⟨pD108, List.forall_mem_cons.mpr ⟨pD109, List.forall_mem_cons.mpr ⟨pD110, List.forall_mem_cons.mpr ⟨pD111, List.forall_mem_cons.mpr ⟨pD112, List.forall_mem_cons.mpr ⟨pD113, List.forall_mem_cons.mpr ⟨pD114, List.forall_mem_cons.mpr ⟨pD115, List.forall_mem_cons.mpr ⟨pD116, List.forall_mem_cons.mpr ⟨pD117, List.forall_mem_cons.mpr ⟨pD118, List.forall_mem_cons.mpr ⟨pD119, List.forall_mem_cons.mpr ⟨pD120, List.forall_mem_cons.mpr ⟨pD121, fun _ h => absurd h List.not_mem_nil⟩⟩⟩⟩⟩⟩⟩⟩⟩⟩⟩⟩⟩⟩⟩⟩⟩⟩⟩⟩⟩⟩⟩⟩⟩⟩⟩⟩⟩⟩⟩⟩⟩⟩⟩⟩⟩⟩⟩⟩⟩⟩⟩⟩⟩⟩⟩⟩⟩⟩⟩⟩⟩⟩⟩⟩⟩⟩⟩⟩⟩⟩⟩⟩⟩⟩⟩⟩⟩⟩⟩⟩⟩⟩⟩⟩⟩⟩⟩⟩⟩⟩⟩⟩⟩⟩⟩⟩⟩⟩⟩⟩⟩⟩⟩⟩⟩⟩⟩⟩⟩⟩⟩⟩⟩⟩⟩⟩⟩⟩⟩⟩⟩⟩⟩⟩⟩⟩⟩⟩⟩⟩
theorem nkC : pk_C pP := by
  intro y pc ins h
  have h : ((pMg y).1[pc]?).join = some ins := h
  have h2 : (pMg y).1[pc]? = some (some ins) := by
    cases e : (pMg y).1[pc]? with
    | none => rw [e] at h; cases h
    | some x => rw [e] at h; exact congrArg some h
  rcases pMg_or y with q | q
  · rw [q] at h2
    cases h2
  · have g := pdk_use _ 0 pc (pDall _ q) h2
    rw [Nat.zero_add] at g
    exact pdk1_use g
theorem nkAll : pk_all pP pWs pNs := ⟨nkC, nkK, nkF, nkP, nkM, nkZ, nkR, nkV, nkN, nkA, nkG, nkS⟩
end
section
def R_law : String := "SubflowBundleLaw"
def lw_P (b : Addr) (xs : List Int32) (args : Array Value) (s : State) : Prop := args = #[.ref b] ∧ s.IntsAt b xs ∧ xs.length ≤ 2563 ∧ (Jvm.Cond.and given_1 narrow_1).before args s = true
def lw_Q (_ : Array Value) (s : State) (o : Outcome) (t : State) : Prop := o = .returned (some (.int 1)) ∧ Framed s o t [] 600000 7302250
def lw_Z (below : List Frame) (a : Array Value) (s : State) : State → Prop := fun t => ∃ o, t.status = .running ∧ Ended t below o ∧ lw_Q a s o t
/-- the law's own end, with 1 on the stack, nothing written that was there before, its room as the claim has it -/
theorem lw_ret {p : Program} {l : Launch} {e : Env} {s : State} {m : MethodId} {below : List Frame} {meth : Method} {c : Code} {b : Nat} (hx : p.tables.exec = Jvm.exec) (hb : c.code = code) (hr : meth.sig.returnType = ret) (hlocks : meth.locks = false) {pc : Nat} {H : Heap} {ls : Array Slot} (hdg : decode code pc = .ok (.ireturn, 1)) : W p l e room_1 s m #[Value.ref b] below meth c H [] 600000 7302250 (lw_Z below #[Value.ref b] s) (F0 m pc ls [.int 1]) := by
  intro T hT X
  obtain ⟨fs, hret, hrun, hended, hW, hframe⟩ := X.leave (v := some (.int 1)) (hlocks := hlocks) (fun h => by rw [hr] at h; cases h)
  have hmeth' : T.vm.method? m = some meth := X.method'
  refine ⟨T.setFrames fs, ?_, .returned (some (.int 1)), hrun, hended, rfl, ⟨_, rfl⟩, hW, hframe⟩
  jvm_step X.here [X.here.top, hx, hb, hdg, hmeth', hr, ret, narrow_b1]
  (try refine ⟨rfl, ?_⟩); (try refine ⟨rfl, ?_⟩)
  first | (intro acts; rw [hret _ acts rfl rfl rfl]) | rw [hret _ _ rfl rfl rfl]
  exact Steps.refl _
/-- what holds at the law's entry: the machine, the code, the tables' words (any of lw_tbl by 'hts w (by decide +kernel)'), the script of L ints xs at the cell b, what the Statement gives of the start (any of its parts by flat_of_before) -/
def lw_At (p : Program) (s : State) (m : MethodId) (meth : Method) (c : Code) (b L : Nat) (xs : Nat → Int32) : Prop :=
  p.tables.exec = Jvm.exec ∧ c.code = code ∧ meth.sig.returnType = ret ∧ c.maxLocals = 4 ∧ s.vm.findClass R_law = some m.cls ∧ (∀ w ∈ lw_tbl, w.before #[Value.ref b] s = true) ∧ va_X b L xs s s.heap ∧ b < s.heap.size ∧ meth.locks = false ∧ (Jvm.Cond.and given_1 narrow_1).before #[Value.ref b] s = true
theorem stAO (ci : Nat) (r : vw_C × List FieldType × Bool) (hr : (pp_cl pP)[ci]? = some r) (hb : r.2.2 = true) : Cond.arrayOver (.object r.1.1) ∈ lw_tbl := by
  have hr : pCl[ci]? = some r := hr
  match ci, hr with
  | 0, hr =>
    cases Option.some.inj hr
    exact List.mem_append_right _ (List.mem_append_right _ (List.mem_append_left _ (List.mem_of_getElem? (i := 12) rfl)))
  | 1, hr =>
    cases Option.some.inj hr
    exact List.mem_append_right _ (List.mem_append_left _ (List.mem_of_getElem? (i := 70) rfl))
  | 2, hr =>
    cases Option.some.inj hr
    exact absurd hb (by decide)
  | 3, hr =>
    cases Option.some.inj hr
    exact absurd hb (by decide)
  | 4, hr =>
    cases Option.some.inj hr
    exact List.mem_append_right _ (List.mem_append_left _ (List.mem_of_getElem? (i := 57) rfl))
  | 5, hr =>
    cases Option.some.inj hr
    exact absurd hb (by decide)
  | 6, hr =>
    cases Option.some.inj hr
    exact List.mem_append_right _ (List.mem_append_left _ (List.mem_of_getElem? (i := 117) rfl))
  | 7, hr =>
    cases Option.some.inj hr
    exact absurd hb (by decide)
  | 8, hr =>
    cases Option.some.inj hr
    exact absurd hb (by decide)
  | 9, hr =>
    cases Option.some.inj hr
    exact absurd hb (by decide)
  | n + 10, hr => cases hr
/-- the claim out of ONE run of the pure machine -/
theorem st_open (hrun : ∀ (L : Nat) (xs : Nat → Int32), L ≤ 2563 → ∃ (n : Nat) (h1 : PH), pm_run pP n mSBLaw_law (pm_en pP mSBLaw_law [.inr (some 0)] [.inl (2, L, xs)]) = some (some (.inl 1), h1))
    {p : Program} {e : Env} {s : State} {m : MethodId} {below : List Frame} {meth : Method} {c : Code} (l : Launch) {b L : Nat} {xs : Nat → Int32} (hL : L ≤ 2563) (C0 : lw_At p s m meth c b L xs) : W p l e room_1 s m #[Value.ref b] below meth c s.heap [] 0 0 (lw_Z below #[Value.ref b] s) (entryFrame m ([Value.ref b] : List Value).toArray 4) := by
  obtain ⟨hx, hb, hr, hml, hown, hts, hX, hbl, hlocks, -⟩ := C0
  have hW : ∀ w ∈ pWs, w.before #[Value.ref b] s = true := fun w hw => hts w (List.mem_filter.mp hw).1
  have hN : ∀ w ∈ pNs, va_Nw w s := by
    intro w hw
    have h1 := hts w (List.mem_filter.mp hw).1
    rcases nkS w hw with ⟨a1, i1, c1, n1, d1, x1, rfl⟩ | ⟨a1, i1, c1, x1, rfl⟩
    · exact va_Nw.of rfl h1
    · exact va_Nw.of rfl h1
  obtain ⟨D, dA, hK⟩ := pl_K nkK nkA hW (fun ci r hr hb => va_AO.of (hts _ (stAO ci r hr hb)))
  obtain ⟨n, h1, hrun⟩ := hrun L xs hL
  have C : ps_C (p, l, e, room_1, s, m, #[Value.ref b], below, meth, c, lw_Z below #[Value.ref b] s) pP D dA b s.heap.size mSBLaw_law pWs pNs :=
    ⟨hx, hb, hml, hown, hW, hN, hK, rfl, fun q => absurd q (by decide), hbl⟩
  have T := ps_run pP pWs pNs nkAll n mSBLaw_law _ (some (.inl 1)) h1 hrun _ D dA b s.heap.size C (fun pc ins ls st kc ks hc hi => ?_)
  · rw [lg_entry_eq]
    refine T s.heap [] _ ⟨⟨⟨L, xs, rfl⟩, rfl, fun i c1 hi => ?_⟩, pr_L.entry b s.heap.size [.inr (some 0)] 4 (by decide), fun q hq => (by cases hq), fun _ _ => rfl⟩
    cases i with
    | zero =>
      cases hi
      exact Or.inl ⟨rfl, hX⟩
    | succ i => cases hi
  · intro H locs a J
    obtain ⟨len, hd, hlen⟩ := nkC mSBLaw_law pc ins hc
    obtain ⟨g1, g2, g3⟩ := pm_ret_ret (pm_i_ret hi)
    rcases g3 with ⟨x1, ty, rfl, rfl, -, -, q⟩ | ⟨x1, ty, rfl, rfl, -, -, q⟩ | ⟨-, -, -, q⟩
    · cases q
      cases hlen 1 rfl
      exact va_forget J.2.2.1 (W.widen g1 g2 (lw_ret hx hb hr hlocks hd))
    · cases q
    · cases q
end
section
/-! rows for numbers: an int that is a small natural number is nI n -/
theorem cn_lt {a b : Nat} (ha : a < 2 ^ 31) (hb : b < 2 ^ 31) : pm_cnd .lt (nI a) (nI b) = decide (a < b) := decide_eq_decide.mpr (nI_ltI ha hb)
theorem cn_ge {a b : Nat} (ha : a < 2 ^ 31) (hb : b < 2 ^ 31) : pm_cnd .ge (nI a) (nI b) = decide (b ≤ a) := decide_eq_decide.mpr (nI_leI hb ha)
theorem cn_gt {a b : Nat} (ha : a < 2 ^ 31) (hb : b < 2 ^ 31) : pm_cnd .gt (nI a) (nI b) = decide (b < a) := decide_eq_decide.mpr (nI_ltI hb ha)
theorem cn_le {a b : Nat} (ha : a < 2 ^ 31) (hb : b < 2 ^ 31) : pm_cnd .le (nI a) (nI b) = decide (a ≤ b) := decide_eq_decide.mpr (nI_leI ha hb)
theorem cn_eq {a b : Nat} (ha : a < 2 ^ 31) (hb : b < 2 ^ 31) : pm_cnd .eq (nI a) (nI b) = decide (a = b) := decide_eq_decide.mpr (nI_eq ha hb)
theorem cn_ne {a b : Nat} (ha : a < 2 ^ 31) (hb : b < 2 ^ 31) : pm_cnd .ne (nI a) (nI b) = decide (¬ a = b) := decide_eq_decide.mpr (not_congr (nI_eq ha hb))
theorem pin_n {j n : Nat} (h : j < n) (hn : n < 2 ^ 31) : pm_in (nI j) n = true := by
  have h1 : ¬ nI j < 0 := nI_pos (by omega)
  have h2 : (nI j).toNatClampNeg = j := nI_clamp (by omega)
  simp [pm_in, h1, h2, h]
theorem iinc_n (a : Nat) : nI a + Int32.ofInt 1 = nI (a + 1) := by
  rw [show Int32.ofInt 1 = 1 by decide]
  exact nI_1 a
section PNS
variable {P : PP} {y pc kc ks : Nat} {ls : List (Option PV)} {st : List PV} {h : PH} {Q : Option PV → PH → Prop}
/-- two numbers are compared: the condition as a proposition -/
theorem pw_if2p {c : Jvm.ClassFile.Cond} {off : Int} {t : Nat} {x z : Int32} {A : Prop} [Decidable A] (e : pm_cnd c x z = decide A) (hc : pp_code P y pc = some (.if_icmp c off)) (ht : pm_tg pc off = some t) (kt : A → pw P y (t, ls, st, kc, ks, h) Q) (kf : ¬ A → pw P y (pc + 3, ls, st, kc, ks, h) Q) : pw P y (pc, ls, .inl z :: .inl x :: st, kc, ks, h) Q :=
  pw_if2 hc ht (fun q => kt (of_decide_eq_true (e.symm.trans q))) (fun q => kf (of_decide_eq_false (e.symm.trans q)))
theorem pw_if1p {c : Jvm.ClassFile.Cond} {off : Int} {t : Nat} {x : Int32} {A : Prop} [Decidable A] (e : pm_cnd c x 0 = decide A) (hc : pp_code P y pc = some (.ifCond c off)) (ht : pm_tg pc off = some t) (kt : A → pw P y (t, ls, st, kc, ks, h) Q) (kf : ¬ A → pw P y (pc + 3, ls, st, kc, ks, h) Q) : pw P y (pc, ls, .inl x :: st, kc, ks, h) Q :=
  pw_if1 hc ht (fun q => kt (of_decide_eq_true (e.symm.trans q))) (fun q => kf (of_decide_eq_false (e.symm.trans q)))
end PNS
section PXN
variable {P : PP} {y pc kc ks : Nat} {ls : List (Option PV)} {st : List PV} {Q : Option PV → PH → Prop} {L : List SK} {F G : FN} {R O : RN}
theorem px_getv {idx ci fk i : Nat} {tg : List Nat} {x : Int32} (hc : pp_code P y pc = some (.getfield idx)) (hf : pp_fld P (pp_own P y) idx = some (ci, fk)) (hs : L[i]? = some (2, ci, tg, 0)) (ht : tg[fk]? = some 0) (hx : F i fk = x) (k : pw P y (pc + 3, ls, .inl x :: st, kc, ks, hb L F G R O) Q) : pw P y (pc, ls, .inr (some i) :: st, kc, ks, hb L F G R O) Q := by
  subst hx
  exact px_get hc hf hs ht k
theorem px_ialdn {i n j : Nat} {x : Int32} (hc : pp_code P y pc = some .iaload) (hs : L[i]? = some (0, 0, [], n)) (hj : j < n) (hn : n < 2 ^ 31) (hx : G i j = x) (k : pw P y (pc + 1, ls, .inl x :: st, kc, ks, hb L F G R O) Q) : pw P y (pc, ls, .inl (nI j) :: .inr (some i) :: st, kc, ks, hb L F G R O) Q := by
  subst hx
  exact px_iald hc hs (pin_n hj hn) (nI_clamp (by omega)) k
theorem px_saldn {i n j : Nat} {x : Int32} (hc : pp_code P y pc = some .iaload) (hs : L[i]? = some (0, 2, [], n)) (hj : j < n) (hn : n < 2 ^ 31) (hx : G i j = x) (k : pw P y (pc + 1, ls, .inl x :: st, kc, ks, hb L F G R O) Q) : pw P y (pc, ls, .inl (nI j) :: .inr (some i) :: st, kc, ks, hb L F G R O) Q := by
  subst hx
  exact px_sald hc hs (pin_n hj hn) (nI_clamp (by omega)) k
theorem px_zaldn {i n j : Nat} {x : Int32} (hc : pp_code P y pc = some .baload) (hs : L[i]? = some (0, 1, [], n)) (hj : j < n) (hn : n < 2 ^ 31) (hx : G i j = x) (k : pw P y (pc + 1, ls, .inl x :: st, kc, ks, hb L F G R O) Q) : pw P y (pc, ls, .inl (nI j) :: .inr (some i) :: st, kc, ks, hb L F G R O) Q := by
  subst hx
  exact px_zald hc hs (pin_n hj hn) (nI_clamp (by omega)) k
theorem px_aaldn {i ci n j : Nat} {r : Option Nat} (hc : pp_code P y pc = some .aaload) (hs : L[i]? = some (1, ci, [], n)) (ha : ((pp_cl P)[ci]?.map (fun q => q.2.2)) = some true) (hj : j < n) (hn : n < 2 ^ 31) (hr : R i j = r) (k : pw P y (pc + 1, ls, .inr r :: st, kc, ks, hb L F G R O) Q) : pw P y (pc, ls, .inl (nI j) :: .inr (some i) :: st, kc, ks, hb L F G R O) Q :=
  px_aald hc hs ha (pin_n hj hn) (nI_clamp (by omega)) hr k
theorem px_iastn {i n j : Nat} {x : Int32} (hc : pp_code P y pc = some .iastore) (hs : L[i]? = some (0, 0, [], n)) (hj : j < n) (hn : n < 2 ^ 31) (k : pw P y (pc + 1, ls, st, kc, ks, hb L F (up2 G i j x) R O) Q) : pw P y (pc, ls, .inl x :: .inl (nI j) :: .inr (some i) :: st, kc, ks, hb L F G R O) Q :=
  px_iast hc hs (pin_n hj hn) (nI_clamp (by omega)) k
theorem px_zastn {i n j : Nat} {x x1 : Int32} (hc : pp_code P y pc = some .bastore) (hs : L[i]? = some (0, 1, [], n)) (hj : j < n) (hn : n < 2 ^ 31) (hx : x &&& 1 = x1) (k : pw P y (pc + 1, ls, st, kc, ks, hb L F (up2 G i j x1) R O) Q) : pw P y (pc, ls, .inl x :: .inl (nI j) :: .inr (some i) :: st, kc, ks, hb L F G R O) Q :=
  px_zast hc hs (pin_n hj hn) (nI_clamp (by omega)) hx k
theorem px_aastn {i ci n v j : Nat} {tg : List Nat} (hc : pp_code P y pc = some .aastore) (hs : L[i]? = some (1, ci, [], n)) (hv : L[v]? = some (2, ci, tg, 0)) (ha : ((pp_cl P)[ci]?.map (fun q => q.2.2)) = some true) (hj : j < n) (hn : n < 2 ^ 31) (k : pw P y (pc + 1, ls, st, kc, ks, hb L F G (up2 R i j (some v)) O) Q) : pw P y (pc, ls, .inr (some v) :: .inl (nI j) :: .inr (some i) :: st, kc, ks, hb L F G R O) Q :=
  px_aast hc hs hv ha (pin_n hj hn) (nI_clamp (by omega)) k
end PXN
/-! THE SHAPE of the whole heap: 0 the script, 1 the bundle, 2 the stream, 4 the paths' array, path p at 5 + 21 p (its pipes at 6, 14, its segments at 22), 89 host A, 92 host B, 103 the reference -/
def slCopy : SK := (2, 1, [0, 0, 0, 0, 0, 0], 0)
def slSeg : SK := (2, 6, [0, 0, 0, 0, 0, 0], 0)
def slPipe : List SK := [(2, 5, [1, 0], 0), (1, 1, [], 6), slCopy, slCopy, slCopy, slCopy, slCopy, slCopy]
def slPath : List SK := (2, 4, [1, 1, 1, 0, 0, 0, 0, 0, 0, 0, 0, 0, 0, 0], 0) :: (slPipe ++ (slPipe ++ [(1, 6, [], 3), slSeg, slSeg, slSeg]))
def slArr : List SK := [(2, 0, [1, 0], 0), (0, 1, [], 402)]
def slModel : List SK := [(2, 9, [0, 0, 0, 0, 1, 0, 0, 1, 1, 0, 0, 1, 1, 1, 1, 1, 1, 1, 1, 1, 1, 1, 0, 0, 0, 0, 1, 1, 1, 1, 1, 1, 1, 1, 1, 1, 1, 1, 1], 0),
  (0, 0, [], 400), (0, 1, [], 1608), (0, 1, [], 401), (0, 0, [], 4), (0, 0, [], 4), (0, 0, [], 4), (0, 0, [], 4), (0, 0, [], 4), (0, 1, [], 4), (0, 0, [], 4), (0, 0, [], 4), (0, 0, [], 4), (0, 0, [], 4), (0, 0, [], 4),
  (0, 0, [], 1608), (0, 0, [], 1608), (0, 0, [], 1608), (0, 0, [], 1608), (0, 0, [], 1608), (0, 1, [], 401), (0, 0, [], 8), (0, 0, [], 48), (0, 0, [], 48), (0, 0, [], 48), (0, 0, [], 48), (0, 0, [], 48), (0, 0, [], 48)]
def sL (n : Nat) : List SK := [(0, 2, [], n), (2, 8, [0, 1, 1, 1, 1, 0], 0), (2, 7, [1, 0, 0], 0), (0, 0, [], 401), (1, 4, [], 4)] ++ (slPath ++ (slPath ++ (slPath ++ (slPath ++ ([(2, 2, [1, 1, 0, 1, 1, 0, 0, 0, 0], 0), (0, 1, [], 401), (0, 1, [], 401), (2, 3, [1, 0, 0, 1, 1, 0, 0, 0], 0), (1, 0, [], 4), (0, 1, [], 401)] ++ (slArr ++ (slArr ++ (slArr ++ (slArr ++ slModel)))))))))
/-- the reference fields, once all is made -/
def sOm (k : Nat) : Option Nat := ([none, none, none, none, some 104, none, none, some 105, some 106, none, none, some 107, some 108, some 109, some 110, some 111, some 112, some 113, some 114, some 115, some 116, some 117, none, none, none, none, some 118, some 119, some 120, some 121, some 122, some 123, some 124, some 125, some 126, some 127, some 128, some 129, some 130][k]?).join
def sOp (r : Nat) (i k : Nat) : Option Nat := match r, k with
  | 0, 0 => some (i + 1)
  | 0, 1 => some (i + 9)
  | 0, 2 => some (i + 17)
  | 1, 0 => some (i + 1)
  | 9, 0 => some (i + 1)
  | _, _ => none
def sO (i k : Nat) : Option Nat := match Nat.beq i 103 with
  | true => sOm k
  | false => match Nat.ble 5 i && Nat.blt i 89 with
    | true => sOp ((i - 5) % 21) i k
    | false => match i, k with
      | 1, 1 => some 2
      | 1, 2 => some 4
      | 1, 3 => some 89
      | 1, 4 => some 92
      | 2, 0 => some 3
      | 89, 0 => some 2
      | 89, 1 => some 4
      | 89, 3 => some 90
      | 89, 4 => some 91
      | 92, 0 => some 2
      | 92, 3 => some 93
      | 92, 4 => some 94
      | 95, 0 => some 96
      | 97, 0 => some 98
      | 99, 0 => some 100
      | 101, 0 => some 102
      | _, _ => none
set_option maxRecDepth 8000 in
theorem sL_len (n : Nat) : (sL n).length = 131 := rfl
theorem sl_path {n p : Nat} (hp : p < 4) : (sL n)[5 + 21 * p]? = some (2, 4, [1, 1, 1, 0, 0, 0, 0, 0, 0, 0, 0, 0, 0, 0], 0) := by
  have h : p = 0 ∨ p = 1 ∨ p = 2 ∨ p = 3 := by omega
  rcases h with rfl | rfl | rfl | rfl <;> rfl
theorem test_model (n : Nat) : (sL n)[103]? = some (2, 9, [0, 0, 0, 0, 1, 0, 0, 1, 1, 0, 0, 1, 1, 1, 1, 1, 1, 1, 1, 1, 1, 1, 0, 0, 0, 0, 1, 1, 1, 1, 1, 1, 1, 1, 1, 1, 1, 1, 1], 0) := rfl
theorem test_due (n : Nat) : (sL n)[130]? = some (0, 0, [], 48) := rfl
theorem test_o : sO 103 38 = some 130 ∧ sO 26 0 = some 27 ∧ sO 47 2 = some 64 ∧ sO 14 0 = some 15 := ⟨rfl, rfl, rfl, rfl⟩
end
section
/-! THE REFERENCE: its methods as functions of the memory; a method's row: what holds of its answer and its end holds (Q). Rows laid by a program (wip/whole/gen/twin1.py). -/
theorem cz_lt {a : Nat} (ha : a < 2 ^ 31) : pm_cnd .lt (nI a) 0 = decide (a < 0) := by have h := cn_lt (b := 0) ha (by decide); rw [nI_0] at h; exact h
theorem cz_ge {a : Nat} (ha : a < 2 ^ 31) : pm_cnd .ge (nI a) 0 = decide (0 ≤ a) := by have h := cn_ge (b := 0) ha (by decide); rw [nI_0] at h; exact h
theorem cz_gt {a : Nat} (ha : a < 2 ^ 31) : pm_cnd .gt (nI a) 0 = decide (0 < a) := by have h := cn_gt (b := 0) ha (by decide); rw [nI_0] at h; exact h
theorem cz_le {a : Nat} (ha : a < 2 ^ 31) : pm_cnd .le (nI a) 0 = decide (a ≤ 0) := by have h := cn_le (b := 0) ha (by decide); rw [nI_0] at h; exact h
theorem cz_eq {a : Nat} (ha : a < 2 ^ 31) : pm_cnd .eq (nI a) 0 = decide (a = 0) := by have h := cn_eq (b := 0) ha (by decide); rw [nI_0] at h; exact h
theorem cz_ne {a : Nat} (ha : a < 2 ^ 31) : pm_cnd .ne (nI a) 0 = decide (¬ a = 0) := by have h := cn_ne (b := 0) ha (by decide); rw [nI_0] at h; exact h
/-- a copy is put into the pipe q -/
def tput (G : FN) (q fl : Nat) (x1 x2 x3 x4 x5 x6 : Int32) : FN := (up2 (up2 (up2 (up2 (up2 (up2 (up2 G (125) (6 * q + fl) (x1)) (126) (6 * q + fl) (x2)) (127) (6 * q + fl) (x3)) (128) (6 * q + fl) (x4)) (129) (6 * q + fl) (x5)) (130) (6 * q + fl) (x6)) (124) (q) (nI (fl + 1)))
theorem t_put {L q fl : Nat} {x1 x2 x3 x4 x5 x6 : Int32} {F G : FN} {R : RN} (hq : q < 8) (hfl : G 124 q = nI fl) (hf : fl < 6) {Q : Option PV → PH → Prop} (k : Q none (hb (sL L) F (tput G q fl x1 x2 x3 x4 x5 x6) R sO)) : pz pP mSBModel_put [.inr (some (103)), .inl (nI (q)), .inl (x1), .inl (x2), .inl (x3), .inl (x4), .inl (x5), .inl (x6)] (hb (sL L) F G R sO) Q := by
  show pw pP mSBModel_put (0, [some (.inr (some (103))), some (.inl (nI (q))), some (.inl (x1)), some (.inl (x2)), some (.inl (x3)), some (.inl (x4)), some (.inl (x5)), some (.inl (x6)), none], [], 0, 0, hb (sL L) F G R sO) _
  refine pw_bipush (v := nI (6)) rfl (by decide) ?_
  refine pw_iload_n rfl rfl ?_
  refine pw_imul (z := nI (6 * q)) rfl (pk_mul _ _) ?_
  refine pw_aload_n rfl rfl ?_
  refine px_getr (r := some (124)) rfl rfl rfl rfl rfl ?_
  refine pw_iload_n rfl rfl ?_
  refine px_ialdn (x := nI (fl)) rfl rfl (by omega) (by decide) (hfl) ?_
  refine pw_iadd (z := nI (6 * q + fl)) rfl (nI_add _ _) ?_
  refine pw_istore (ls1 := [some (.inr (some (103))), some (.inl (nI (q))), some (.inl (x1)), some (.inl (x2)), some (.inl (x3)), some (.inl (x4)), some (.inl (x5)), some (.inl (x6)), some (.inl (nI (6 * q + fl)))]) rfl (Nat.le_of_ble_eq_true rfl) rfl ?_
  refine pw_aload_n rfl rfl ?_
  refine px_getr (r := some (125)) rfl rfl rfl rfl rfl ?_
  refine pw_iload rfl rfl ?_
  refine pw_iload_n rfl rfl ?_
  refine px_iastn rfl rfl (by omega) (by decide) ?_
  refine pw_aload_n rfl rfl ?_
  refine px_getr (r := some (126)) rfl rfl rfl rfl rfl ?_
  refine pw_iload rfl rfl ?_
  refine pw_iload_n rfl rfl ?_
  refine px_iastn rfl rfl (by omega) (by decide) ?_
  refine pw_aload_n rfl rfl ?_
  refine px_getr (r := some (127)) rfl rfl rfl rfl rfl ?_
  refine pw_iload rfl rfl ?_
  refine pw_iload rfl rfl ?_
  refine px_iastn rfl rfl (by omega) (by decide) ?_
  refine pw_aload_n rfl rfl ?_
  refine px_getr (r := some (128)) rfl rfl rfl rfl rfl ?_
  refine pw_iload rfl rfl ?_
  refine pw_iload rfl rfl ?_
  refine px_iastn rfl rfl (by omega) (by decide) ?_
  refine pw_aload_n rfl rfl ?_
  refine px_getr (r := some (129)) rfl rfl rfl rfl rfl ?_
  refine pw_iload rfl rfl ?_
  refine pw_iload rfl rfl ?_
  refine px_iastn rfl rfl (by omega) (by decide) ?_
  refine pw_aload_n rfl rfl ?_
  refine px_getr (r := some (130)) rfl rfl rfl rfl rfl ?_
  refine pw_iload rfl rfl ?_
  refine pw_iload rfl rfl ?_
  refine px_iastn rfl rfl (by omega) (by decide) ?_
  refine pw_aload_n rfl rfl ?_
  refine px_getr (r := some (124)) rfl rfl rfl rfl rfl ?_
  refine pw_iload_n rfl rfl ?_
  refine pw_dup2 rfl ?_
  refine px_ialdn (x := nI (fl)) rfl rfl (by omega) (by decide) (((up2_ne1 (by decide)).trans ((up2_ne1 (by decide)).trans ((up2_ne1 (by decide)).trans ((up2_ne1 (by decide)).trans ((up2_ne1 (by decide)).trans (up2_ne1 (by decide))))))).trans (hfl)) ?_
  refine pw_iconst (v := nI (1)) rfl (by decide) ?_
  refine pw_iadd (z := nI (fl + 1)) rfl (nI_add _ _) ?_
  refine px_iastn rfl rfl (by omega) (by decide) ?_
  exact pw_vret rfl rfl (Nat.zero_le _) (Nat.zero_le _) k
theorem t_path {L : Nat} {p : Int32} {F G : FN} {R : RN} {Q : Option PV → PH → Prop} (k : Q (some (.inl (if p < 0 then nI 0 else if nI 4 ≤ p then nI 0 else nI 1))) (hb (sL L) F G R sO)) : pz pP mSBModel_path [.inl (p)] (hb (sL L) F G R sO) Q := by
  show pw pP mSBModel_path (0, [some (.inl (p))], [], 0, 0, hb (sL L) F G R sO) _
  refine pw_iload_n rfl rfl ?_
  refine pw_if1p (A := p < 0) rfl rfl (t := 13) rfl (fun c1 => ?_) (fun c1 => ?_)
  · -- 13
    refine pw_iconst (v := nI (0)) rfl (by decide) ?_
    exact pw_iret rfl rfl (Nat.zero_le _) (Nat.zero_le _) rfl (by simp only [c1, if_true, if_false] at k; exact k)
  · -- 4
    refine pw_iload_n rfl rfl ?_
    refine pw_iconst (v := nI (4)) rfl (by decide) ?_
    refine pw_if2p (A := nI (4) ≤ p) rfl rfl (t := 13) rfl (fun c2 => ?_) (fun c2 => ?_)
    · -- 13
      refine pw_iconst (v := nI (0)) rfl (by decide) ?_
      exact pw_iret rfl rfl (Nat.zero_le _) (Nat.zero_le _) rfl (by simp only [c1, c2, if_true, if_false] at k; exact k)
    · -- 9
      refine pw_iconst (v := nI (1)) rfl (by decide) ?_
      refine pw_goto (t := 14) rfl rfl ?_
      exact pw_iret rfl rfl (Nat.zero_le _) (Nat.zero_le _) rfl (by simp only [c1, c2, if_true, if_false] at k; exact k)
theorem t_path_in {L p : Nat} {F G : FN} {R : RN} (hp : p < 4) {Q : Option PV → PH → Prop} (k : Q (some (.inl (nI 1))) (hb (sL L) F G R sO)) : pz pP mSBModel_path [.inl (nI p)] (hb (sL L) F G R sO) Q := by
  refine t_path ?_
  rw [if_neg (nI_pos (by omega)), if_neg (fun q => by rw [nI_leI (by omega) (by omega)] at q; omega)]
  exact k
theorem t_path_out {L : Nat} {p : Int32} {F G : FN} {R : RN} (hp : p < 0 ∨ nI 4 ≤ p) {Q : Option PV → PH → Prop} (k : Q (some (.inl (nI 0))) (hb (sL L) F G R sO)) : pz pP mSBModel_path [.inl p] (hb (sL L) F G R sO) Q := by
  refine t_path ?_
  by_cases h : p < 0
  · rw [if_pos h]
    exact k
  · rw [if_neg h, if_pos (hp.resolve_left h)]
    exact k
end
section
/-! THE REFERENCE, second part: loops and calls. Rows laid by a program (wip/whole/gen/twin2.py). -/
/-- the first of k places from u on that holds 0 -/
def lead (f : Nat → Int32) : Nat → Nat → Nat
  | 0, u => u
  | k + 1, u => if f u = 0 then u else lead f k (u + 1)
theorem lead_z {f : Nat → Int32} {k u : Nat} (h : f u = 0) : lead f (k + 1) u = u := by simp only [lead, if_pos h]
theorem lead_s {f : Nat → Int32} {k u : Nat} (h : ¬ f u = 0) : lead f (k + 1) u = lead f k (u + 1) := by simp only [lead, if_neg h]
theorem t_received_lp {L : Nat} {F G : FN} {R : RN} {Q : Option PV → PH → Prop} : ∀ n u : Nat, u + n = 401 → Q (some (.inl (nI (lead (G 106) n u)))) (hb (sL L) F G R sO) → pw pP mSBModel_received (2, [some (.inr (some (103))), some (.inl (nI (u)))], [], 0, 0, hb (sL L) F G R sO) Q := by
  intro n
  induction n with
  | zero =>
    intro u hn k
    refine pw_iload_n rfl rfl ?_
    refine pw_sipush (v := nI (401)) rfl (by decide) ?_
    refine pw_if2p (cn_ge (by omega) (by omega)) rfl (t := 24) rfl (fun c1 => ?_) (fun c1 => ?_)
    · -- 24
      refine pw_iload_n rfl rfl ?_
      exact pw_iret rfl rfl (Nat.zero_le _) (Nat.zero_le _) rfl k
    · -- 9
      exact absurd c1 (by omega)
  | succ n ih =>
    intro u hn k
    refine pw_iload_n rfl rfl ?_
    refine pw_sipush (v := nI (401)) rfl (by decide) ?_
    refine pw_if2p (cn_ge (by omega) (by omega)) rfl (t := 24) rfl (fun c1 => ?_) (fun c1 => ?_)
    · -- 24
      refine pw_iload_n rfl rfl ?_
      exact absurd c1 (by omega)
    · -- 9
      refine pw_aload_n rfl rfl ?_
      refine px_getr (r := some (106)) rfl rfl rfl rfl rfl ?_
      refine pw_iload_n rfl rfl ?_
      refine px_zaldn (x := G (106) (u)) rfl rfl (by omega) (by decide) (rfl) ?_
      refine pw_if1p (A := G (106) (u) = 0) rfl rfl (t := 24) rfl (fun c2 => ?_) (fun c2 => ?_)
      · -- 24
        refine pw_iload_n rfl rfl ?_
        exact pw_iret rfl rfl (Nat.zero_le _) (Nat.zero_le _) rfl (by rw [lead_z c2] at k; exact k)
      · -- 18
        refine pw_iinc (v := nI (u + 1)) (ls1 := [some (.inr (some (103))), some (.inl (nI (u + 1)))]) rfl rfl (iinc_n _) rfl ?_
        refine pw_goto (t := 2) rfl rfl ?_
        exact ih (u + 1) (by omega) (by rw [lead_s c2] at k; exact k)
theorem t_received {L : Nat} {F G : FN} {R : RN} {Q : Option PV → PH → Prop} (k : Q (some (.inl (nI (lead (G 106) 401 0)))) (hb (sL L) F G R sO)) : pz pP mSBModel_received [.inr (some (103))] (hb (sL L) F G R sO) Q := by
  show pw pP mSBModel_received (0, [some (.inr (some (103))), none], [], 0, 0, hb (sL L) F G R sO) _
  refine pw_iconst (v := nI (0)) rfl (by decide) ?_
  refine pw_istore_n (ls1 := [some (.inr (some (103))), some (.inl (nI (0)))]) rfl (Nat.le_of_ble_eq_true rfl) rfl ?_
  exact t_received_lp 401 0 rfl k
/-- the stream's length -/
def tlen (F : FN) : Int32 := if F 103 6 = 0 then F 103 5 else F 103 5 + nI 1
theorem t_length {L : Nat} {F G : FN} {R : RN} {Q : Option PV → PH → Prop} (k : Q (some (.inl (tlen F))) (hb (sL L) F G R sO)) : pz pP mSBModel_length [.inr (some (103))] (hb (sL L) F G R sO) Q := by
  show pw pP mSBModel_length (0, [some (.inr (some (103)))], [], 0, 0, hb (sL L) F G R sO) _
  refine pw_aload_n rfl rfl ?_
  refine px_getv (x := F (103) (6)) rfl rfl rfl rfl (rfl) ?_
  refine pw_if1p (A := F (103) (6) = 0) rfl rfl (t := 16) rfl (fun c1 => ?_) (fun c1 => ?_)
  · -- 16
    refine pw_aload_n rfl rfl ?_
    refine px_getv (x := F (103) (5)) rfl rfl rfl rfl (rfl) ?_
    exact pw_iret rfl rfl (Nat.zero_le _) (Nat.zero_le _) rfl (by simp only [tlen, c1, if_true, if_false] at k; exact k)
  · -- 7
    refine pw_aload_n rfl rfl ?_
    refine px_getv (x := F (103) (5)) rfl rfl rfl rfl (rfl) ?_
    refine pw_iconst (v := nI (1)) rfl (by decide) ?_
    refine pw_iadd (z := (F (103) (5)) + (nI (1))) rfl rfl ?_
    refine pw_goto (t := 20) rfl rfl ?_
    exact pw_iret rfl rfl (Nat.zero_le _) (Nat.zero_le _) rfl (by simp only [tlen, c1, if_true, if_false] at k; exact k)
def tship (F G : FN) (q fl : Nat) (x1 x2 x3 x4 x5 : Int32) : FN := if G 108 (q / 2) = 0 then G else if 6 ≤ fl then G else tput G q fl x1 x2 x3 x4 x5 (F 103 3 + G 108 (q / 2))
theorem t_ship {L q fl : Nat} {x1 x2 x3 x4 x5 : Int32} {F G : FN} {R : RN} (hq : q < 8) (hfl : G 124 q = nI fl) (hf : fl ≤ 6) {Q : Option PV → PH → Prop} (k : Q none (hb (sL L) F (tship F G q fl x1 x2 x3 x4 x5) R sO)) : pz pP mSBModel_ship [.inr (some (103)), .inl (nI (q)), .inl (x1), .inl (x2), .inl (x3), .inl (x4), .inl (x5)] (hb (sL L) F G R sO) Q := by
  show pw pP mSBModel_ship (0, [some (.inr (some (103))), some (.inl (nI (q))), some (.inl (x1)), some (.inl (x2)), some (.inl (x3)), some (.inl (x4)), some (.inl (x5)), none], [], 0, 0, hb (sL L) F G R sO) _
  refine pw_aload_n rfl rfl ?_
  refine px_getr (r := some (108)) rfl rfl rfl rfl rfl ?_
  refine pw_iload_n rfl rfl ?_
  refine pw_iconst (v := nI (2)) rfl (by decide) ?_
  refine pw_idiv (z := nI (q / 2)) rfl (nI_ne0 (by omega) (by omega)) (pk_div (by omega) (by omega) (by omega)) ?_
  refine px_ialdn (x := G (108) (q / 2)) rfl rfl (by omega) (by decide) (rfl) ?_
  refine pw_istore (ls1 := [some (.inr (some (103))), some (.inl (nI (q))), some (.inl (x1)), some (.inl (x2)), some (.inl (x3)), some (.inl (x4)), some (.inl (x5)), some (.inl (G (108) (q / 2)))]) rfl (Nat.le_of_ble_eq_true rfl) rfl ?_
  refine pw_iload rfl rfl ?_
  refine pw_if1p (A := G (108) (q / 2) = 0) rfl rfl (t := 46) rfl (fun c1 => ?_) (fun c1 => ?_)
  · -- 46
    exact pw_vret rfl rfl (Nat.zero_le _) (Nat.zero_le _) (by simp only [tship, c1, if_true, if_false] at k; exact k)
  · -- 15
    refine pw_aload_n rfl rfl ?_
    refine px_getr (r := some (124)) rfl rfl rfl rfl rfl ?_
    refine pw_iload_n rfl rfl ?_
    refine px_ialdn (x := nI (fl)) rfl rfl (by omega) (by decide) (hfl) ?_
    refine pw_bipush (v := nI (6)) rfl (by decide) ?_
    refine pw_if2p (cn_ge (by omega) (by omega)) rfl (t := 46) rfl (fun c2 => ?_) (fun c2 => ?_)
    · -- 46
      exact pw_vret rfl rfl (Nat.zero_le _) (Nat.zero_le _) (by simp only [tship, c1, c2, if_true, if_false] at k; exact k)
    · -- 26
      refine pw_aload_n rfl rfl ?_
      refine pw_iload_n rfl rfl ?_
      refine pw_iload_n rfl rfl ?_
      refine pw_iload_n rfl rfl ?_
      refine pw_iload rfl rfl ?_
      refine pw_iload rfl rfl ?_
      refine pw_iload rfl rfl ?_
      refine pw_aload_n rfl rfl ?_
      refine px_getv (x := F (103) (3)) rfl rfl rfl rfl (rfl) ?_
      refine pw_iload rfl rfl ?_
      refine pw_iadd (z := (F (103) (3)) + (G (108) (q / 2))) rfl rfl ?_
      refine px_callv (as := [.inr (some (103)), .inl (nI (q)), .inl (x1), .inl (x2), .inl (x3), .inl (x4), .inl (x5), .inl ((F (103) (3)) + (G (108) (q / 2)))]) (rest := []) rfl rfl (by decide) rfl (Nat.le_of_ble_eq_true rfl) (Nat.le_of_ble_eq_true rfl) (Nat.le_of_ble_eq_true rfl) (Nat.le_of_ble_eq_true rfl) rfl rfl rfl rfl ?_
      refine t_put (by omega) hfl (by omega) ?_
      show pw pP mSBModel_ship (46, [some (.inr (some (103))), some (.inl (nI (q))), some (.inl (x1)), some (.inl (x2)), some (.inl (x3)), some (.inl (x4)), some (.inl (x5)), some (.inl (G (108) (q / 2)))], [], 0, 0, hb (sL L) F (up2 (up2 (up2 (up2 (up2 (up2 (up2 G (125) (6 * q + fl) (x1)) (126) (6 * q + fl) (x2)) (127) (6 * q + fl) (x3)) (128) (6 * q + fl) (x4)) (129) (6 * q + fl) (x5)) (130) (6 * q + fl) ((F (103) (3)) + (G (108) (q / 2)))) (124) (q) (nI (fl + 1))) R sO) _
      exact pw_vret rfl rfl (Nat.zero_le _) (Nat.zero_le _) (by simp only [tship, c1, c2, if_true, if_false] at k; exact k)
end
section
/-! THE REFERENCE, third part. Rows laid by a program (wip/whole/gen/twin3.py). -/
/-- a boolean as an int -/
def bI (c : Prop) [Decidable c] : Int32 := if c then nI 1 else nI 0
theorem bI_t {c : Prop} [Decidable c] (h : c) : bI c = nI 1 := if_pos h
theorem bI_f {c : Prop} [Decidable c] (h : ¬ c) : bI c = nI 0 := if_neg h
theorem cb_ne {c : Prop} [Decidable c] : pm_cnd .ne (bI c) 0 = decide c := by
  by_cases h : c
  · rw [bI_t h, decide_eq_true h]; decide
  · rw [bI_f h, decide_eq_false h]; decide
theorem cb_eq {c : Prop} [Decidable c] : pm_cnd .eq (bI c) 0 = decide (¬ c) := by
  by_cases h : c
  · rw [bI_t h, decide_eq_false (fun q => q h)]; decide
  · rw [bI_f h, decide_eq_true h]; decide
def tsh1 (M : FN) (j : Nat) : FN := (up2 (up2 (up2 (up2 (up2 (up2 M (125) (j) (M 125 (j + 1))) (126) (j) (M 126 (j + 1))) (127) (j) (M 127 (j + 1))) (128) (j) (M 128 (j + 1))) (129) (j) (M 129 (j + 1))) (130) (j) (M 130 (j + 1)))
/-- n copies are moved one place down, from j on -/
def tsh : Nat → Nat → FN → FN
  | 0, _, M => M
  | n + 1, j, M => tsh n (j + 1) (tsh1 M j)
theorem tsh1_124 {M : FN} {j q : Nat} : tsh1 M j 124 q = M 124 q := by
  unfold tsh1
  rw [up2_ne1 (by decide), up2_ne1 (by decide), up2_ne1 (by decide), up2_ne1 (by decide), up2_ne1 (by decide), up2_ne1 (by decide)]
theorem t_drop_lp {L q kk fl : Nat} {F : FN} {R : RN} {Q : Option PV → PH → Prop} (hq : q < 8) (hf : fl ≤ 5) : ∀ (n j : Nat) (M : FN), j + n = 6 * q + fl → M 124 q = nI fl → Q none (hb (sL L) F (tsh n j M) R sO) → pw pP mSBModel_drop (17, [some (.inr (some (103))), some (.inl (nI (q))), some (.inl (nI (kk))), some (.inl (nI (j)))], [], 0, 0, hb (sL L) F M R sO) Q := by
  intro n
  induction n with
  | zero =>
    intro j M hn hM k
    refine pw_iload_n rfl rfl ?_
    refine pw_bipush (v := nI (6)) rfl (by decide) ?_
    refine pw_iload_n rfl rfl ?_
    refine pw_imul (z := nI (6 * q)) rfl (pk_mul _ _) ?_
    refine pw_aload_n rfl rfl ?_
    refine px_getr (r := some (124)) rfl rfl rfl rfl rfl ?_
    refine pw_iload_n rfl rfl ?_
    refine px_ialdn (x := nI (fl)) rfl rfl (by omega) (by decide) (hM) ?_
    refine pw_iadd (z := nI (6 * q + fl)) rfl (nI_add _ _) ?_
    refine pw_if2p (cn_ge (by omega) (by omega)) rfl (t := 122) rfl (fun c1 => ?_) (fun c1 => ?_)
    · -- 122
      exact pw_vret rfl rfl (Nat.zero_le _) (Nat.zero_le _) k
    · -- 32
      exact absurd c1 (by omega)
  | succ n ih =>
    intro j M hn hM k
    refine pw_iload_n rfl rfl ?_
    refine pw_bipush (v := nI (6)) rfl (by decide) ?_
    refine pw_iload_n rfl rfl ?_
    refine pw_imul (z := nI (6 * q)) rfl (pk_mul _ _) ?_
    refine pw_aload_n rfl rfl ?_
    refine px_getr (r := some (124)) rfl rfl rfl rfl rfl ?_
    refine pw_iload_n rfl rfl ?_
    refine px_ialdn (x := nI (fl)) rfl rfl (by omega) (by decide) (hM) ?_
    refine pw_iadd (z := nI (6 * q + fl)) rfl (nI_add _ _) ?_
    refine pw_if2p (cn_ge (by omega) (by omega)) rfl (t := 122) rfl (fun c1 => ?_) (fun c1 => ?_)
    · -- 122
      exact absurd c1 (by omega)
    · -- 32
      refine pw_aload_n rfl rfl ?_
      refine px_getr (r := some (125)) rfl rfl rfl rfl rfl ?_
      refine pw_iload_n rfl rfl ?_
      refine pw_aload_n rfl rfl ?_
      refine px_getr (r := some (125)) rfl rfl rfl rfl rfl ?_
      refine pw_iload_n rfl rfl ?_
      refine pw_iconst (v := nI (1)) rfl (by decide) ?_
      refine pw_iadd (z := nI (j + 1)) rfl (nI_add _ _) ?_
      refine px_ialdn (x := M (125) (j + 1)) rfl rfl (by omega) (by decide) (rfl) ?_
      refine px_iastn rfl rfl (by omega) (by decide) ?_
      refine pw_aload_n rfl rfl ?_
      refine px_getr (r := some (126)) rfl rfl rfl rfl rfl ?_
      refine pw_iload_n rfl rfl ?_
      refine pw_aload_n rfl rfl ?_
      refine px_getr (r := some (126)) rfl rfl rfl rfl rfl ?_
      refine pw_iload_n rfl rfl ?_
      refine pw_iconst (v := nI (1)) rfl (by decide) ?_
      refine pw_iadd (z := nI (j + 1)) rfl (nI_add _ _) ?_
      refine px_ialdn (x := M (126) (j + 1)) rfl rfl (by omega) (by decide) (up2_ne1 (by decide)) ?_
      refine px_iastn rfl rfl (by omega) (by decide) ?_
      refine pw_aload_n rfl rfl ?_
      refine px_getr (r := some (127)) rfl rfl rfl rfl rfl ?_
      refine pw_iload_n rfl rfl ?_
      refine pw_aload_n rfl rfl ?_
      refine px_getr (r := some (127)) rfl rfl rfl rfl rfl ?_
      refine pw_iload_n rfl rfl ?_
      refine pw_iconst (v := nI (1)) rfl (by decide) ?_
      refine pw_iadd (z := nI (j + 1)) rfl (nI_add _ _) ?_
      refine px_ialdn (x := M (127) (j + 1)) rfl rfl (by omega) (by decide) ((up2_ne1 (by decide)).trans (up2_ne1 (by decide))) ?_
      refine px_iastn rfl rfl (by omega) (by decide) ?_
      refine pw_aload_n rfl rfl ?_
      refine px_getr (r := some (128)) rfl rfl rfl rfl rfl ?_
      refine pw_iload_n rfl rfl ?_
      refine pw_aload_n rfl rfl ?_
      refine px_getr (r := some (128)) rfl rfl rfl rfl rfl ?_
      refine pw_iload_n rfl rfl ?_
      refine pw_iconst (v := nI (1)) rfl (by decide) ?_
      refine pw_iadd (z := nI (j + 1)) rfl (nI_add _ _) ?_
      refine px_ialdn (x := M (128) (j + 1)) rfl rfl (by omega) (by decide) ((up2_ne1 (by decide)).trans ((up2_ne1 (by decide)).trans (up2_ne1 (by decide)))) ?_
      refine px_iastn rfl rfl (by omega) (by decide) ?_
      refine pw_aload_n rfl rfl ?_
      refine px_getr (r := some (129)) rfl rfl rfl rfl rfl ?_
      refine pw_iload_n rfl rfl ?_
      refine pw_aload_n rfl rfl ?_
      refine px_getr (r := some (129)) rfl rfl rfl rfl rfl ?_
      refine pw_iload_n rfl rfl ?_
      refine pw_iconst (v := nI (1)) rfl (by decide) ?_
      refine pw_iadd (z := nI (j + 1)) rfl (nI_add _ _) ?_
      refine px_ialdn (x := M (129) (j + 1)) rfl rfl (by omega) (by decide) ((up2_ne1 (by decide)).trans ((up2_ne1 (by decide)).trans ((up2_ne1 (by decide)).trans (up2_ne1 (by decide))))) ?_
      refine px_iastn rfl rfl (by omega) (by decide) ?_
      refine pw_aload_n rfl rfl ?_
      refine px_getr (r := some (130)) rfl rfl rfl rfl rfl ?_
      refine pw_iload_n rfl rfl ?_
      refine pw_aload_n rfl rfl ?_
      refine px_getr (r := some (130)) rfl rfl rfl rfl rfl ?_
      refine pw_iload_n rfl rfl ?_
      refine pw_iconst (v := nI (1)) rfl (by decide) ?_
      refine pw_iadd (z := nI (j + 1)) rfl (nI_add _ _) ?_
      refine px_ialdn (x := M (130) (j + 1)) rfl rfl (by omega) (by decide) ((up2_ne1 (by decide)).trans ((up2_ne1 (by decide)).trans ((up2_ne1 (by decide)).trans ((up2_ne1 (by decide)).trans (up2_ne1 (by decide)))))) ?_
      refine px_iastn rfl rfl (by omega) (by decide) ?_
      refine pw_iinc (v := nI (j + 1)) (ls1 := [some (.inr (some (103))), some (.inl (nI (q))), some (.inl (nI (kk))), some (.inl (nI (j + 1)))]) rfl rfl (iinc_n _) rfl ?_
      refine pw_goto (t := 17) rfl rfl ?_
      exact ih (j + 1) (tsh1 M j) (by omega) (tsh1_124.trans hM) k
def tdrop (G : FN) (q fl kk : Nat) : FN := tsh (fl - 1 - kk) (6 * q + kk) (up2 G 124 q (nI (fl - 1)))
theorem t_drop {L q kk fl : Nat} {F G : FN} {R : RN} (hq : q < 8) (hfl : G 124 q = nI fl) (hf : fl ≤ 6) (hk : kk < fl) {Q : Option PV → PH → Prop} (k : Q none (hb (sL L) F (tdrop G q fl kk) R sO)) : pz pP mSBModel_drop [.inr (some (103)), .inl (nI (q)), .inl (nI (kk))] (hb (sL L) F G R sO) Q := by
  show pw pP mSBModel_drop (0, [some (.inr (some (103))), some (.inl (nI (q))), some (.inl (nI (kk))), none], [], 0, 0, hb (sL L) F G R sO) _
  refine pw_aload_n rfl rfl ?_
  refine px_getr (r := some (124)) rfl rfl rfl rfl rfl ?_
  refine pw_iload_n rfl rfl ?_
  refine pw_dup2 rfl ?_
  refine px_ialdn (x := nI (fl)) rfl rfl (by omega) (by decide) (hfl) ?_
  refine pw_iconst (v := nI (1)) rfl (by decide) ?_
  refine pw_isub (z := nI (fl - 1)) rfl (pk_sub (by omega)) ?_
  refine px_iastn rfl rfl (by omega) (by decide) ?_
  refine pw_bipush (v := nI (6)) rfl (by decide) ?_
  refine pw_iload_n rfl rfl ?_
  refine pw_imul (z := nI (6 * q)) rfl (pk_mul _ _) ?_
  refine pw_iload_n rfl rfl ?_
  refine pw_iadd (z := nI (6 * q + kk)) rfl (nI_add _ _) ?_
  refine pw_istore_n (ls1 := [some (.inr (some (103))), some (.inl (nI (q))), some (.inl (nI (kk))), some (.inl (nI (6 * q + kk)))]) rfl (Nat.le_of_ble_eq_true rfl) rfl ?_
  exact t_drop_lp hq (by omega) (fl - 1 - kk) (6 * q + kk) _ (by omega) up2_eq k
/-- SBModel_shut -/
def shut_G (G : FN) (p : Nat) : FN := (up2 (up2 (up2 (up2 G (107) (p) (nI (4))) (111) (p) (nI (0))) (124) (2 * p) (nI (0))) (124) (2 * p + 1) (nI (0)))
theorem t_shut {L p : Nat} {F G : FN} {R : RN} (hp : p < 4) {Q : Option PV → PH → Prop} (k : Q none (hb (sL L) F (shut_G G p) R sO)) : pz pP mSBModel_shut [.inr (some (103)), .inl (nI (p))] (hb (sL L) F G R sO) Q := by
  show pw pP mSBModel_shut (0, [some (.inr (some (103))), some (.inl (nI (p)))], [], 0, 0, hb (sL L) F G R sO) _
  refine pw_aload_n rfl rfl ?_
  refine px_getr (r := some (107)) rfl rfl rfl rfl rfl ?_
  refine pw_iload_n rfl rfl ?_
  refine pw_iconst (v := nI (4)) rfl (by decide) ?_
  refine px_iastn rfl rfl (by omega) (by decide) ?_
  refine pw_aload_n rfl rfl ?_
  refine px_getr (r := some (111)) rfl rfl rfl rfl rfl ?_
  refine pw_iload_n rfl rfl ?_
  refine pw_iconst (v := nI (0)) rfl (by decide) ?_
  refine px_iastn rfl rfl (by omega) (by decide) ?_
  refine pw_aload_n rfl rfl ?_
  refine px_getr (r := some (124)) rfl rfl rfl rfl rfl ?_
  refine pw_iconst (v := nI (2)) rfl (by decide) ?_
  refine pw_iload_n rfl rfl ?_
  refine pw_imul (z := nI (2 * p)) rfl (pk_mul _ _) ?_
  refine pw_iconst (v := nI (0)) rfl (by decide) ?_
  refine px_iastn rfl rfl (by omega) (by decide) ?_
  refine pw_aload_n rfl rfl ?_
  refine px_getr (r := some (124)) rfl rfl rfl rfl rfl ?_
  refine pw_iconst (v := nI (2)) rfl (by decide) ?_
  refine pw_iload_n rfl rfl ?_
  refine pw_imul (z := nI (2 * p)) rfl (pk_mul _ _) ?_
  refine pw_iconst (v := nI (1)) rfl (by decide) ?_
  refine pw_iadd (z := nI (2 * p + 1)) rfl (nI_add _ _) ?_
  refine pw_iconst (v := nI (0)) rfl (by decide) ?_
  refine px_iastn rfl rfl (by omega) (by decide) ?_
  exact pw_vret rfl rfl (Nat.zero_le _) (Nat.zero_le _) k
/-- SBModel_measure -/
def meas_G (G : FN) (p : Nat) (x : Int32) : FN := (if G (112) (p) = 0 then (if nI (6) ≤ (((nI (8)) * x) / (nI (8))) + ((nI (2)) * x) then (if (((nI (8)) * x) / (nI (8))) + ((nI (2)) * x) ≤ nI (120) then (up2 (up2 (up2 (up2 G (112) (p) (nI (1))) (113) (p) ((nI (8)) * x)) (114) (p) ((nI (2)) * x)) (110) (p) ((((nI (8)) * x) / (nI (8))) + ((nI (2)) * x))) else (up2 (up2 (up2 (up2 G (112) (p) (nI (1))) (113) (p) ((nI (8)) * x)) (114) (p) ((nI (2)) * x)) (110) (p) (nI (120)))) else (up2 (up2 (up2 (up2 G (112) (p) (nI (1))) (113) (p) ((nI (8)) * x)) (114) (p) ((nI (2)) * x)) (110) (p) (nI (6)))) else (if 0 ≤ ((G (113) (p)) / (nI (8))) - x then (if nI (6) ≤ ((((G (113) (p)) - ((G (113) (p)) / (nI (8)))) + x) / (nI (8))) + (((G (114) (p)) - ((G (114) (p)) / (nI (4)))) + (((G (113) (p)) / (nI (8))) - x)) then (if ((((G (113) (p)) - ((G (113) (p)) / (nI (8)))) + x) / (nI (8))) + (((G (114) (p)) - ((G (114) (p)) / (nI (4)))) + (((G (113) (p)) / (nI (8))) - x)) ≤ nI (120) then (up2 (up2 (up2 G (114) (p) (((G (114) (p)) - ((G (114) (p)) / (nI (4)))) + (((G (113) (p)) / (nI (8))) - x))) (113) (p) (((G (113) (p)) - ((G (113) (p)) / (nI (8)))) + x)) (110) (p) (((((G (113) (p)) - ((G (113) (p)) / (nI (8)))) + x) / (nI (8))) + (((G (114) (p)) - ((G (114) (p)) / (nI (4)))) + (((G (113) (p)) / (nI (8))) - x)))) else (up2 (up2 (up2 G (114) (p) (((G (114) (p)) - ((G (114) (p)) / (nI (4)))) + (((G (113) (p)) / (nI (8))) - x))) (113) (p) (((G (113) (p)) - ((G (113) (p)) / (nI (8)))) + x)) (110) (p) (nI (120)))) else (up2 (up2 (up2 G (114) (p) (((G (114) (p)) - ((G (114) (p)) / (nI (4)))) + (((G (113) (p)) / (nI (8))) - x))) (113) (p) (((G (113) (p)) - ((G (113) (p)) / (nI (8)))) + x)) (110) (p) (nI (6)))) else (if nI (6) ≤ ((((G (113) (p)) - ((G (113) (p)) / (nI (8)))) + x) / (nI (8))) + (((G (114) (p)) - ((G (114) (p)) / (nI (4)))) + (-(((G (113) (p)) / (nI (8))) - x))) then (if ((((G (113) (p)) - ((G (113) (p)) / (nI (8)))) + x) / (nI (8))) + (((G (114) (p)) - ((G (114) (p)) / (nI (4)))) + (-(((G (113) (p)) / (nI (8))) - x))) ≤ nI (120) then (up2 (up2 (up2 G (114) (p) (((G (114) (p)) - ((G (114) (p)) / (nI (4)))) + (-(((G (113) (p)) / (nI (8))) - x)))) (113) (p) (((G (113) (p)) - ((G (113) (p)) / (nI (8)))) + x)) (110) (p) (((((G (113) (p)) - ((G (113) (p)) / (nI (8)))) + x) / (nI (8))) + (((G (114) (p)) - ((G (114) (p)) / (nI (4)))) + (-(((G (113) (p)) / (nI (8))) - x))))) else (up2 (up2 (up2 G (114) (p) (((G (114) (p)) - ((G (114) (p)) / (nI (4)))) + (-(((G (113) (p)) / (nI (8))) - x)))) (113) (p) (((G (113) (p)) - ((G (113) (p)) / (nI (8)))) + x)) (110) (p) (nI (120)))) else (up2 (up2 (up2 G (114) (p) (((G (114) (p)) - ((G (114) (p)) / (nI (4)))) + (-(((G (113) (p)) / (nI (8))) - x)))) (113) (p) (((G (113) (p)) - ((G (113) (p)) / (nI (8)))) + x)) (110) (p) (nI (6))))))
theorem t_meas {L p : Nat} {x : Int32} {F G : FN} {R : RN} (hp : p < 4) {Q : Option PV → PH → Prop} (k : Q none (hb (sL L) F (meas_G G p x) R sO)) : pz pP mSBModel_measure [.inr (some (103)), .inl (nI (p)), .inl (x)] (hb (sL L) F G R sO) Q := by
  show pw pP mSBModel_measure (0, [some (.inr (some (103))), some (.inl (nI (p))), some (.inl (x)), none], [], 0, 0, hb (sL L) F G R sO) _
  refine pw_aload_n rfl rfl ?_
  refine px_getr (r := some (112)) rfl rfl rfl rfl rfl ?_
  refine pw_iload_n rfl rfl ?_
  refine px_zaldn (x := G (112) (p)) rfl rfl (by omega) (by decide) (rfl) ?_
  refine pw_if1p (A := G (112) (p) = 0) rfl rfl (t := 80) rfl (fun c1 => ?_) (fun c1 => ?_)
  · -- 80
    refine pw_aload_n rfl rfl ?_
    refine px_getr (r := some (112)) rfl rfl rfl rfl rfl ?_
    refine pw_iload_n rfl rfl ?_
    refine pw_iconst (v := nI (1)) rfl (by decide) ?_
    refine px_zastn (x1 := nI (1)) rfl rfl (by omega) (by decide) (by decide) ?_
    refine pw_aload_n rfl rfl ?_
    refine px_getr (r := some (113)) rfl rfl rfl rfl rfl ?_
    refine pw_iload_n rfl rfl ?_
    refine pw_bipush (v := nI (8)) rfl (by decide) ?_
    refine pw_iload_n rfl rfl ?_
    refine pw_imul (z := (nI (8)) * x) rfl rfl ?_
    refine px_iastn rfl rfl (by omega) (by decide) ?_
    refine pw_aload_n rfl rfl ?_
    refine px_getr (r := some (114)) rfl rfl rfl rfl rfl ?_
    refine pw_iload_n rfl rfl ?_
    refine pw_iconst (v := nI (2)) rfl (by decide) ?_
    refine pw_iload_n rfl rfl ?_
    refine pw_imul (z := (nI (2)) * x) rfl rfl ?_
    refine px_iastn rfl rfl (by omega) (by decide) ?_
    refine pw_aload_n rfl rfl ?_
    refine px_getr (r := some (113)) rfl rfl rfl rfl rfl ?_
    refine pw_iload_n rfl rfl ?_
    refine px_ialdn (x := (nI (8)) * x) rfl rfl (by omega) (by decide) ((up2_ne1 (by decide)).trans (up2_eq)) ?_
    refine pw_bipush (v := nI (8)) rfl (by decide) ?_
    refine pw_idiv (z := ((nI (8)) * x) / (nI (8))) rfl (nI_ne0 (by decide) (by decide)) rfl ?_
    refine pw_aload_n rfl rfl ?_
    refine px_getr (r := some (114)) rfl rfl rfl rfl rfl ?_
    refine pw_iload_n rfl rfl ?_
    refine px_ialdn (x := (nI (2)) * x) rfl rfl (by omega) (by decide) (up2_eq) ?_
    refine pw_iadd (z := (((nI (8)) * x) / (nI (8))) + ((nI (2)) * x)) rfl rfl ?_
    refine pw_istore_n (ls1 := [some (.inr (some (103))), some (.inl (nI (p))), some (.inl (x)), some (.inl ((((nI (8)) * x) / (nI (8))) + ((nI (2)) * x)))]) rfl (Nat.le_of_ble_eq_true rfl) rfl ?_
    refine pw_aload_n rfl rfl ?_
    refine px_getr (r := some (110)) rfl rfl rfl rfl rfl ?_
    refine pw_iload_n rfl rfl ?_
    refine pw_iload_n rfl rfl ?_
    refine pw_bipush (v := nI (6)) rfl (by decide) ?_
    refine pw_if2p (A := nI (6) ≤ (((nI (8)) * x) / (nI (8))) + ((nI (2)) * x)) rfl rfl (t := 139) rfl (fun c2 => ?_) (fun c2 => ?_)
    · -- 139
      refine pw_iload_n rfl rfl ?_
      refine pw_bipush (v := nI (120)) rfl (by decide) ?_
      refine pw_if2p (A := (((nI (8)) * x) / (nI (8))) + ((nI (2)) * x) ≤ nI (120)) rfl rfl (t := 150) rfl (fun c3 => ?_) (fun c3 => ?_)
      · -- 150
        refine pw_iload_n rfl rfl ?_
        refine px_iastn rfl rfl (by omega) (by decide) ?_
        exact pw_vret rfl rfl (Nat.zero_le _) (Nat.zero_le _) (by simp only [meas_G, c1, c2, c3, if_true, if_false] at k; exact k)
      · -- 145
        refine pw_bipush (v := nI (120)) rfl (by decide) ?_
        refine pw_goto (t := 151) rfl rfl ?_
        refine px_iastn rfl rfl (by omega) (by decide) ?_
        exact pw_vret rfl rfl (Nat.zero_le _) (Nat.zero_le _) (by simp only [meas_G, c1, c2, c3, if_true, if_false] at k; exact k)
    · -- 134
      refine pw_bipush (v := nI (6)) rfl (by decide) ?_
      refine pw_goto (t := 151) rfl rfl ?_
      refine px_iastn rfl rfl (by omega) (by decide) ?_
      exact pw_vret rfl rfl (Nat.zero_le _) (Nat.zero_le _) (by simp only [meas_G, c1, c2, if_true, if_false] at k; exact k)
  · -- 9
    refine pw_aload_n rfl rfl ?_
    refine px_getr (r := some (113)) rfl rfl rfl rfl rfl ?_
    refine pw_iload_n rfl rfl ?_
    refine px_ialdn (x := G (113) (p)) rfl rfl (by omega) (by decide) (rfl) ?_
    refine pw_bipush (v := nI (8)) rfl (by decide) ?_
    refine pw_idiv (z := (G (113) (p)) / (nI (8))) rfl (nI_ne0 (by decide) (by decide)) rfl ?_
    refine pw_iload_n rfl rfl ?_
    refine pw_isub (z := ((G (113) (p)) / (nI (8))) - x) rfl rfl ?_
    refine pw_istore_n (ls1 := [some (.inr (some (103))), some (.inl (nI (p))), some (.inl (x)), some (.inl (((G (113) (p)) / (nI (8))) - x))]) rfl (Nat.le_of_ble_eq_true rfl) rfl ?_
    refine pw_aload_n rfl rfl ?_
    refine px_getr (r := some (114)) rfl rfl rfl rfl rfl ?_
    refine pw_iload_n rfl rfl ?_
    refine pw_aload_n rfl rfl ?_
    refine px_getr (r := some (114)) rfl rfl rfl rfl rfl ?_
    refine pw_iload_n rfl rfl ?_
    refine px_ialdn (x := G (114) (p)) rfl rfl (by omega) (by decide) (rfl) ?_
    refine pw_aload_n rfl rfl ?_
    refine px_getr (r := some (114)) rfl rfl rfl rfl rfl ?_
    refine pw_iload_n rfl rfl ?_
    refine px_ialdn (x := G (114) (p)) rfl rfl (by omega) (by decide) (rfl) ?_
    refine pw_iconst (v := nI (4)) rfl (by decide) ?_
    refine pw_idiv (z := (G (114) (p)) / (nI (4))) rfl (nI_ne0 (by decide) (by decide)) rfl ?_
    refine pw_isub (z := (G (114) (p)) - ((G (114) (p)) / (nI (4)))) rfl rfl ?_
    refine pw_iload_n rfl rfl ?_
    refine pw_if1p (A := 0 ≤ ((G (113) (p)) / (nI (8))) - x) rfl rfl (t := 50) rfl (fun c4 => ?_) (fun c4 => ?_)
    · -- 50
      refine pw_iload_n rfl rfl ?_
      refine pw_iadd (z := ((G (114) (p)) - ((G (114) (p)) / (nI (4)))) + (((G (113) (p)) / (nI (8))) - x)) rfl rfl ?_
      refine px_iastn rfl rfl (by omega) (by decide) ?_
      refine pw_aload_n rfl rfl ?_
      refine px_getr (r := some (113)) rfl rfl rfl rfl rfl ?_
      refine pw_iload_n rfl rfl ?_
      refine pw_aload_n rfl rfl ?_
      refine px_getr (r := some (113)) rfl rfl rfl rfl rfl ?_
      refine pw_iload_n rfl rfl ?_
      refine px_ialdn (x := G (113) (p)) rfl rfl (by omega) (by decide) (up2_ne1 (by decide)) ?_
      refine pw_aload_n rfl rfl ?_
      refine px_getr (r := some (113)) rfl rfl rfl rfl rfl ?_
      refine pw_iload_n rfl rfl ?_
      refine px_ialdn (x := G (113) (p)) rfl rfl (by omega) (by decide) (up2_ne1 (by decide)) ?_
      refine pw_bipush (v := nI (8)) rfl (by decide) ?_
      refine pw_idiv (z := (G (113) (p)) / (nI (8))) rfl (nI_ne0 (by decide) (by decide)) rfl ?_
      refine pw_isub (z := (G (113) (p)) - ((G (113) (p)) / (nI (8)))) rfl rfl ?_
      refine pw_iload_n rfl rfl ?_
      refine pw_iadd (z := ((G (113) (p)) - ((G (113) (p)) / (nI (8)))) + x) rfl rfl ?_
      refine px_iastn rfl rfl (by omega) (by decide) ?_
      refine pw_goto (t := 106) rfl rfl ?_
      refine pw_aload_n rfl rfl ?_
      refine px_getr (r := some (113)) rfl rfl rfl rfl rfl ?_
      refine pw_iload_n rfl rfl ?_
      refine px_ialdn (x := ((G (113) (p)) - ((G (113) (p)) / (nI (8)))) + x) rfl rfl (by omega) (by decide) (up2_eq) ?_
      refine pw_bipush (v := nI (8)) rfl (by decide) ?_
      refine pw_idiv (z := (((G (113) (p)) - ((G (113) (p)) / (nI (8)))) + x) / (nI (8))) rfl (nI_ne0 (by decide) (by decide)) rfl ?_
      refine pw_aload_n rfl rfl ?_
      refine px_getr (r := some (114)) rfl rfl rfl rfl rfl ?_
      refine pw_iload_n rfl rfl ?_
      refine px_ialdn (x := ((G (114) (p)) - ((G (114) (p)) / (nI (4)))) + (((G (113) (p)) / (nI (8))) - x)) rfl rfl (by omega) (by decide) ((up2_ne1 (by decide)).trans (up2_eq)) ?_
      refine pw_iadd (z := ((((G (113) (p)) - ((G (113) (p)) / (nI (8)))) + x) / (nI (8))) + (((G (114) (p)) - ((G (114) (p)) / (nI (4)))) + (((G (113) (p)) / (nI (8))) - x))) rfl rfl ?_
      refine pw_istore_n (ls1 := [some (.inr (some (103))), some (.inl (nI (p))), some (.inl (x)), some (.inl (((((G (113) (p)) - ((G (113) (p)) / (nI (8)))) + x) / (nI (8))) + (((G (114) (p)) - ((G (114) (p)) / (nI (4)))) + (((G (113) (p)) / (nI (8))) - x))))]) rfl (Nat.le_of_ble_eq_true rfl) rfl ?_
      refine pw_aload_n rfl rfl ?_
      refine px_getr (r := some (110)) rfl rfl rfl rfl rfl ?_
      refine pw_iload_n rfl rfl ?_
      refine pw_iload_n rfl rfl ?_
      refine pw_bipush (v := nI (6)) rfl (by decide) ?_
      refine pw_if2p (A := nI (6) ≤ ((((G (113) (p)) - ((G (113) (p)) / (nI (8)))) + x) / (nI (8))) + (((G (114) (p)) - ((G (114) (p)) / (nI (4)))) + (((G (113) (p)) / (nI (8))) - x))) rfl rfl (t := 139) rfl (fun c5 => ?_) (fun c5 => ?_)
      · -- 139
        refine pw_iload_n rfl rfl ?_
        refine pw_bipush (v := nI (120)) rfl (by decide) ?_
        refine pw_if2p (A := ((((G (113) (p)) - ((G (113) (p)) / (nI (8)))) + x) / (nI (8))) + (((G (114) (p)) - ((G (114) (p)) / (nI (4)))) + (((G (113) (p)) / (nI (8))) - x)) ≤ nI (120)) rfl rfl (t := 150) rfl (fun c6 => ?_) (fun c6 => ?_)
        · -- 150
          refine pw_iload_n rfl rfl ?_
          refine px_iastn rfl rfl (by omega) (by decide) ?_
          exact pw_vret rfl rfl (Nat.zero_le _) (Nat.zero_le _) (by simp only [meas_G, c1, c4, c5, c6, if_true, if_false] at k; exact k)
        · -- 145
          refine pw_bipush (v := nI (120)) rfl (by decide) ?_
          refine pw_goto (t := 151) rfl rfl ?_
          refine px_iastn rfl rfl (by omega) (by decide) ?_
          exact pw_vret rfl rfl (Nat.zero_le _) (Nat.zero_le _) (by simp only [meas_G, c1, c4, c5, c6, if_true, if_false] at k; exact k)
      · -- 134
        refine pw_bipush (v := nI (6)) rfl (by decide) ?_
        refine pw_goto (t := 151) rfl rfl ?_
        refine px_iastn rfl rfl (by omega) (by decide) ?_
        exact pw_vret rfl rfl (Nat.zero_le _) (Nat.zero_le _) (by simp only [meas_G, c1, c4, c5, if_true, if_false] at k; exact k)
    · -- 45
      refine pw_iload_n rfl rfl ?_
      refine pw_ineg (z := -(((G (113) (p)) / (nI (8))) - x)) rfl rfl ?_
      refine pw_goto (t := 51) rfl rfl ?_
      refine pw_iadd (z := ((G (114) (p)) - ((G (114) (p)) / (nI (4)))) + (-(((G (113) (p)) / (nI (8))) - x))) rfl rfl ?_
      refine px_iastn rfl rfl (by omega) (by decide) ?_
      refine pw_aload_n rfl rfl ?_
      refine px_getr (r := some (113)) rfl rfl rfl rfl rfl ?_
      refine pw_iload_n rfl rfl ?_
      refine pw_aload_n rfl rfl ?_
      refine px_getr (r := some (113)) rfl rfl rfl rfl rfl ?_
      refine pw_iload_n rfl rfl ?_
      refine px_ialdn (x := G (113) (p)) rfl rfl (by omega) (by decide) (up2_ne1 (by decide)) ?_
      refine pw_aload_n rfl rfl ?_
      refine px_getr (r := some (113)) rfl rfl rfl rfl rfl ?_
      refine pw_iload_n rfl rfl ?_
      refine px_ialdn (x := G (113) (p)) rfl rfl (by omega) (by decide) (up2_ne1 (by decide)) ?_
      refine pw_bipush (v := nI (8)) rfl (by decide) ?_
      refine pw_idiv (z := (G (113) (p)) / (nI (8))) rfl (nI_ne0 (by decide) (by decide)) rfl ?_
      refine pw_isub (z := (G (113) (p)) - ((G (113) (p)) / (nI (8)))) rfl rfl ?_
      refine pw_iload_n rfl rfl ?_
      refine pw_iadd (z := ((G (113) (p)) - ((G (113) (p)) / (nI (8)))) + x) rfl rfl ?_
      refine px_iastn rfl rfl (by omega) (by decide) ?_
      refine pw_goto (t := 106) rfl rfl ?_
      refine pw_aload_n rfl rfl ?_
      refine px_getr (r := some (113)) rfl rfl rfl rfl rfl ?_
      refine pw_iload_n rfl rfl ?_
      refine px_ialdn (x := ((G (113) (p)) - ((G (113) (p)) / (nI (8)))) + x) rfl rfl (by omega) (by decide) (up2_eq) ?_
      refine pw_bipush (v := nI (8)) rfl (by decide) ?_
      refine pw_idiv (z := (((G (113) (p)) - ((G (113) (p)) / (nI (8)))) + x) / (nI (8))) rfl (nI_ne0 (by decide) (by decide)) rfl ?_
      refine pw_aload_n rfl rfl ?_
      refine px_getr (r := some (114)) rfl rfl rfl rfl rfl ?_
      refine pw_iload_n rfl rfl ?_
      refine px_ialdn (x := ((G (114) (p)) - ((G (114) (p)) / (nI (4)))) + (-(((G (113) (p)) / (nI (8))) - x))) rfl rfl (by omega) (by decide) ((up2_ne1 (by decide)).trans (up2_eq)) ?_
      refine pw_iadd (z := ((((G (113) (p)) - ((G (113) (p)) / (nI (8)))) + x) / (nI (8))) + (((G (114) (p)) - ((G (114) (p)) / (nI (4)))) + (-(((G (113) (p)) / (nI (8))) - x)))) rfl rfl ?_
      refine pw_istore_n (ls1 := [some (.inr (some (103))), some (.inl (nI (p))), some (.inl (x)), some (.inl (((((G (113) (p)) - ((G (113) (p)) / (nI (8)))) + x) / (nI (8))) + (((G (114) (p)) - ((G (114) (p)) / (nI (4)))) + (-(((G (113) (p)) / (nI (8))) - x)))))]) rfl (Nat.le_of_ble_eq_true rfl) rfl ?_
      refine pw_aload_n rfl rfl ?_
      refine px_getr (r := some (110)) rfl rfl rfl rfl rfl ?_
      refine pw_iload_n rfl rfl ?_
      refine pw_iload_n rfl rfl ?_
      refine pw_bipush (v := nI (6)) rfl (by decide) ?_
      refine pw_if2p (A := nI (6) ≤ ((((G (113) (p)) - ((G (113) (p)) / (nI (8)))) + x) / (nI (8))) + (((G (114) (p)) - ((G (114) (p)) / (nI (4)))) + (-(((G (113) (p)) / (nI (8))) - x)))) rfl rfl (t := 139) rfl (fun c7 => ?_) (fun c7 => ?_)
      · -- 139
        refine pw_iload_n rfl rfl ?_
        refine pw_bipush (v := nI (120)) rfl (by decide) ?_
        refine pw_if2p (A := ((((G (113) (p)) - ((G (113) (p)) / (nI (8)))) + x) / (nI (8))) + (((G (114) (p)) - ((G (114) (p)) / (nI (4)))) + (-(((G (113) (p)) / (nI (8))) - x))) ≤ nI (120)) rfl rfl (t := 150) rfl (fun c8 => ?_) (fun c8 => ?_)
        · -- 150
          refine pw_iload_n rfl rfl ?_
          refine px_iastn rfl rfl (by omega) (by decide) ?_
          exact pw_vret rfl rfl (Nat.zero_le _) (Nat.zero_le _) (by simp only [meas_G, c1, c4, c7, c8, if_true, if_false] at k; exact k)
        · -- 145
          refine pw_bipush (v := nI (120)) rfl (by decide) ?_
          refine pw_goto (t := 151) rfl rfl ?_
          refine px_iastn rfl rfl (by omega) (by decide) ?_
          exact pw_vret rfl rfl (Nat.zero_le _) (Nat.zero_le _) (by simp only [meas_G, c1, c4, c7, c8, if_true, if_false] at k; exact k)
      · -- 134
        refine pw_bipush (v := nI (6)) rfl (by decide) ?_
        refine pw_goto (t := 151) rfl rfl ?_
        refine px_iastn rfl rfl (by omega) (by decide) ?_
        exact pw_vret rfl rfl (Nat.zero_le _) (Nat.zero_le _) (by simp only [meas_G, c1, c4, c7, if_true, if_false] at k; exact k)
/-- SBModel_state -/
def state_r (G : FN) (p : Nat) : Int32 := G (107) (p)
theorem t_state {L p : Nat} {F G : FN} {R : RN} (hp : p < 4) {Q : Option PV → PH → Prop} (k : Q (some (.inl (state_r G p))) (hb (sL L) F G R sO)) : pz pP mSBModel_state [.inr (some (103)), .inl (nI (p))] (hb (sL L) F G R sO) Q := by
  show pw pP mSBModel_state (0, [some (.inr (some (103))), some (.inl (nI (p)))], [], 0, 0, hb (sL L) F G R sO) _
  refine pw_iload_n rfl rfl ?_
  refine pw_calls (as := [.inl (nI (p))]) (rest := []) rfl rfl (by decide) rfl (Nat.le_of_ble_eq_true rfl) (Nat.le_of_ble_eq_true rfl) (Nat.le_of_ble_eq_true rfl) (Nat.le_of_ble_eq_true rfl) rfl rfl ?_
  refine t_path_in hp ?_
  show pw pP mSBModel_state (4, [some (.inr (some (103))), some (.inl (nI (p)))], [.inl (nI (1))], 0, 0, hb (sL L) F G R sO) _
  refine pw_if1 (t := 16) rfl rfl (fun q => absurd q (by decide)) (fun _ => ?_)
  refine pw_aload_n rfl rfl ?_
  refine px_getr (r := some (107)) rfl rfl rfl rfl rfl ?_
  refine pw_iload_n rfl rfl ?_
  refine px_ialdn (x := G (107) (p)) rfl rfl (by omega) (by decide) (rfl) ?_
  refine pw_goto (t := 17) rfl rfl ?_
  exact pw_iret rfl rfl (Nat.zero_le _) (Nat.zero_le _) rfl k
/-- SBModel_timeout -/
def timeout_r (G : FN) (p : Nat) : Int32 := G (110) (p)
theorem t_timeout {L p : Nat} {F G : FN} {R : RN} (hp : p < 4) {Q : Option PV → PH → Prop} (k : Q (some (.inl (timeout_r G p))) (hb (sL L) F G R sO)) : pz pP mSBModel_timeout [.inr (some (103)), .inl (nI (p))] (hb (sL L) F G R sO) Q := by
  show pw pP mSBModel_timeout (0, [some (.inr (some (103))), some (.inl (nI (p)))], [], 0, 0, hb (sL L) F G R sO) _
  refine pw_iload_n rfl rfl ?_
  refine pw_calls (as := [.inl (nI (p))]) (rest := []) rfl rfl (by decide) rfl (Nat.le_of_ble_eq_true rfl) (Nat.le_of_ble_eq_true rfl) (Nat.le_of_ble_eq_true rfl) (Nat.le_of_ble_eq_true rfl) rfl rfl ?_
  refine t_path_in hp ?_
  show pw pP mSBModel_timeout (4, [some (.inr (some (103))), some (.inl (nI (p)))], [.inl (nI (1))], 0, 0, hb (sL L) F G R sO) _
  refine pw_if1 (t := 16) rfl rfl (fun q => absurd q (by decide)) (fun _ => ?_)
  refine pw_aload_n rfl rfl ?_
  refine px_getr (r := some (110)) rfl rfl rfl rfl rfl ?_
  refine pw_iload_n rfl rfl ?_
  refine px_ialdn (x := G (110) (p)) rfl rfl (by omega) (by decide) (rfl) ?_
  refine pw_goto (t := 17) rfl rfl ?_
  exact pw_iret rfl rfl (Nat.zero_le _) (Nat.zero_le _) rfl k
/-- SBModel_sent -/
def sent_r (G : FN) (p : Nat) : Int32 := G (117) (p)
theorem t_sent {L p : Nat} {F G : FN} {R : RN} (hp : p < 4) {Q : Option PV → PH → Prop} (k : Q (some (.inl (sent_r G p))) (hb (sL L) F G R sO)) : pz pP mSBModel_sent [.inr (some (103)), .inl (nI (p))] (hb (sL L) F G R sO) Q := by
  show pw pP mSBModel_sent (0, [some (.inr (some (103))), some (.inl (nI (p)))], [], 0, 0, hb (sL L) F G R sO) _
  refine pw_iload_n rfl rfl ?_
  refine pw_calls (as := [.inl (nI (p))]) (rest := []) rfl rfl (by decide) rfl (Nat.le_of_ble_eq_true rfl) (Nat.le_of_ble_eq_true rfl) (Nat.le_of_ble_eq_true rfl) (Nat.le_of_ble_eq_true rfl) rfl rfl ?_
  refine t_path_in hp ?_
  show pw pP mSBModel_sent (4, [some (.inr (some (103))), some (.inl (nI (p)))], [.inl (nI (1))], 0, 0, hb (sL L) F G R sO) _
  refine pw_if1 (t := 16) rfl rfl (fun q => absurd q (by decide)) (fun _ => ?_)
  refine pw_aload_n rfl rfl ?_
  refine px_getr (r := some (117)) rfl rfl rfl rfl rfl ?_
  refine pw_iload_n rfl rfl ?_
  refine px_ialdn (x := G (117) (p)) rfl rfl (by omega) (by decide) (rfl) ?_
  refine pw_goto (t := 17) rfl rfl ?_
  exact pw_iret rfl rfl (Nat.zero_le _) (Nat.zero_le _) rfl k
/-- SBModel_acknowledged -/
def acknowledged_r (F : FN) : Int32 := F (103) (22)
theorem t_acknowledged {L : Nat} {F G : FN} {R : RN} {Q : Option PV → PH → Prop} (k : Q (some (.inl (acknowledged_r F))) (hb (sL L) F G R sO)) : pz pP mSBModel_acknowledged [.inr (some (103))] (hb (sL L) F G R sO) Q := by
  show pw pP mSBModel_acknowledged (0, [some (.inr (some (103)))], [], 0, 0, hb (sL L) F G R sO) _
  refine pw_aload_n rfl rfl ?_
  refine px_getv (x := F (103) (22)) rfl rfl rfl rfl (rfl) ?_
  exact pw_iret rfl rfl (Nat.zero_le _) (Nat.zero_le _) rfl k
/-- SBModel_reinjected -/
def reinjected_r (F : FN) : Int32 := F (103) (24)
theorem t_reinjected {L : Nat} {F G : FN} {R : RN} {Q : Option PV → PH → Prop} (k : Q (some (.inl (reinjected_r F))) (hb (sL L) F G R sO)) : pz pP mSBModel_reinjected [.inr (some (103))] (hb (sL L) F G R sO) Q := by
  show pw pP mSBModel_reinjected (0, [some (.inr (some (103)))], [], 0, 0, hb (sL L) F G R sO) _
  refine pw_aload_n rfl rfl ?_
  refine px_getv (x := F (103) (24)) rfl rfl rfl rfl (rfl) ?_
  exact pw_iret rfl rfl (Nat.zero_le _) (Nat.zero_le _) rfl k
/-- SBModel_token -/
def token_r (F : FN) : Int32 := F (103) (2)
theorem t_token {L : Nat} {F G : FN} {R : RN} {Q : Option PV → PH → Prop} (k : Q (some (.inl (token_r F))) (hb (sL L) F G R sO)) : pz pP mSBModel_token [.inr (some (103))] (hb (sL L) F G R sO) Q := by
  show pw pP mSBModel_token (0, [some (.inr (some (103)))], [], 0, 0, hb (sL L) F G R sO) _
  refine pw_aload_n rfl rfl ?_
  refine px_getv (x := F (103) (2)) rfl rfl rfl rfl (rfl) ?_
  exact pw_iret rfl rfl (Nat.zero_le _) (Nat.zero_le _) rfl k
end
section
/-! THE REFERENCE, fourth part: the calls that look, lose, double. Rows laid by a program (wip/whole/gen/twin4.py). -/
/-- SBModel_there -/
def there_in0_r  : Int32 := nI (1)
theorem t_there_in0 {L p kk fl : Nat} {F G : FN} {R : RN} (hp : p < 4) (hfl : G 124 (2 * p) = nI fl) (hf : fl ≤ 6) (hk : kk < fl) {Q : Option PV → PH → Prop} (k : Q (some (.inl (there_in0_r ))) (hb (sL L) F G R sO)) : pz pP mSBModel_there [.inr (some (103)), .inl (nI (p)), .inl (nI (0)), .inl (nI (kk))] (hb (sL L) F G R sO) Q := by
  show pw pP mSBModel_there (0, [some (.inr (some (103))), some (.inl (nI (p))), some (.inl (nI (0))), some (.inl (nI (kk)))], [], 0, 0, hb (sL L) F G R sO) _
  refine pw_iload_n rfl rfl ?_
  refine pw_calls (as := [.inl (nI (p))]) (rest := []) rfl rfl (by decide) rfl (Nat.le_of_ble_eq_true rfl) (Nat.le_of_ble_eq_true rfl) (Nat.le_of_ble_eq_true rfl) (Nat.le_of_ble_eq_true rfl) rfl rfl ?_
  refine t_path_in hp ?_
  show pw pP mSBModel_there (4, [some (.inr (some (103))), some (.inl (nI (p))), some (.inl (nI (0))), some (.inl (nI (kk)))], [.inl (nI (1))], 0, 0, hb (sL L) F G R sO) _
  refine pw_if1 (t := 39) rfl rfl (fun q => absurd q (by decide)) (fun _ => ?_)
  refine pw_iload_n rfl rfl ?_
  refine pw_if1p (cz_lt (by omega)) rfl (t := 39) rfl (fun q => absurd q (by omega)) (fun _ => ?_)
  refine pw_iload_n rfl rfl ?_
  refine pw_aload_n rfl rfl ?_
  refine px_getr (r := some (124)) rfl rfl rfl rfl rfl ?_
  refine pw_iload_n rfl rfl ?_
  refine pw_if1 (t := 28) rfl rfl (fun _ => ?_) (fun q => absurd q (by decide))
  refine pw_iconst (v := nI (2)) rfl (by decide) ?_
  refine pw_iload_n rfl rfl ?_
  refine pw_imul (z := nI (2 * p)) rfl (pk_mul _ _) ?_
  refine px_ialdn (x := nI (fl)) rfl rfl (by omega) (by decide) (hfl) ?_
  refine pw_if2p (cn_ge (by omega) (by omega)) rfl (t := 39) rfl (fun q => absurd q (by omega)) (fun _ => ?_)
  refine pw_iconst (v := nI (1)) rfl (by decide) ?_
  refine pw_goto (t := 40) rfl rfl ?_
  exact pw_iret rfl rfl (Nat.zero_le _) (Nat.zero_le _) rfl k
theorem t_there_out0 {L p fl : Nat} {x : Int32} {F G : FN} {R : RN} (hp : p < 4) (hfl : G 124 (2 * p) = nI fl) (hk : x < 0 ∨ nI fl ≤ x) {Q : Option PV → PH → Prop} (k : Q (some (.inl (nI (0)))) (hb (sL L) F G R sO)) : pz pP mSBModel_there [.inr (some (103)), .inl (nI (p)), .inl (nI (0)), .inl (x)] (hb (sL L) F G R sO) Q := by
  show pw pP mSBModel_there (0, [some (.inr (some (103))), some (.inl (nI (p))), some (.inl (nI (0))), some (.inl (x))], [], 0, 0, hb (sL L) F G R sO) _
  refine pw_iload_n rfl rfl ?_
  refine pw_calls (as := [.inl (nI (p))]) (rest := []) rfl rfl (by decide) rfl (Nat.le_of_ble_eq_true rfl) (Nat.le_of_ble_eq_true rfl) (Nat.le_of_ble_eq_true rfl) (Nat.le_of_ble_eq_true rfl) rfl rfl ?_
  refine t_path_in hp ?_
  show pw pP mSBModel_there (4, [some (.inr (some (103))), some (.inl (nI (p))), some (.inl (nI (0))), some (.inl (x))], [.inl (nI (1))], 0, 0, hb (sL L) F G R sO) _
  refine pw_if1 (t := 39) rfl rfl (fun q => absurd q (by decide)) (fun _ => ?_)
  refine pw_iload_n rfl rfl ?_
  refine pw_if1p (A := x < 0) rfl rfl (t := 39) rfl (fun c1 => ?_) (fun c1 => ?_)
  · -- 39
    refine pw_iconst (v := nI (0)) rfl (by decide) ?_
    exact pw_iret rfl rfl (Nat.zero_le _) (Nat.zero_le _) rfl k
  · -- 11
    refine pw_iload_n rfl rfl ?_
    refine pw_aload_n rfl rfl ?_
    refine px_getr (r := some (124)) rfl rfl rfl rfl rfl ?_
    refine pw_iload_n rfl rfl ?_
    refine pw_if1 (t := 28) rfl rfl (fun _ => ?_) (fun q => absurd q (by decide))
    refine pw_iconst (v := nI (2)) rfl (by decide) ?_
    refine pw_iload_n rfl rfl ?_
    refine pw_imul (z := nI (2 * p)) rfl (pk_mul _ _) ?_
    refine px_ialdn (x := nI (fl)) rfl rfl (by omega) (by decide) (hfl) ?_
    refine pw_if2p (A := nI (fl) ≤ x) rfl rfl (t := 39) rfl (fun c2 => ?_) (fun c2 => ?_)
    · -- 39
      refine pw_iconst (v := nI (0)) rfl (by decide) ?_
      exact pw_iret rfl rfl (Nat.zero_le _) (Nat.zero_le _) rfl k
    · -- 35
      refine pw_iconst (v := nI (1)) rfl (by decide) ?_
      refine pw_goto (t := 40) rfl rfl ?_
      exact absurd (hk.resolve_left c1) c2
/-- SBModel_flight -/
def flight0_r (G : FN) (p : Nat) : Int32 := G (124) (2 * p)
theorem t_flight0 {L p : Nat} {F G : FN} {R : RN} (hp : p < 4) {Q : Option PV → PH → Prop} (k : Q (some (.inl (flight0_r G p))) (hb (sL L) F G R sO)) : pz pP mSBModel_flight [.inr (some (103)), .inl (nI (p)), .inl (nI (0))] (hb (sL L) F G R sO) Q := by
  show pw pP mSBModel_flight (0, [some (.inr (some (103))), some (.inl (nI (p))), some (.inl (nI (0)))], [], 0, 0, hb (sL L) F G R sO) _
  refine pw_iload_n rfl rfl ?_
  refine pw_calls (as := [.inl (nI (p))]) (rest := []) rfl rfl (by decide) rfl (Nat.le_of_ble_eq_true rfl) (Nat.le_of_ble_eq_true rfl) (Nat.le_of_ble_eq_true rfl) (Nat.le_of_ble_eq_true rfl) rfl rfl ?_
  refine t_path_in hp ?_
  show pw pP mSBModel_flight (4, [some (.inr (some (103))), some (.inl (nI (p))), some (.inl (nI (0)))], [.inl (nI (1))], 0, 0, hb (sL L) F G R sO) _
  refine pw_if1 (t := 30) rfl rfl (fun q => absurd q (by decide)) (fun _ => ?_)
  refine pw_aload_n rfl rfl ?_
  refine px_getr (r := some (124)) rfl rfl rfl rfl rfl ?_
  refine pw_iload_n rfl rfl ?_
  refine pw_if1 (t := 23) rfl rfl (fun _ => ?_) (fun q => absurd q (by decide))
  refine pw_iconst (v := nI (2)) rfl (by decide) ?_
  refine pw_iload_n rfl rfl ?_
  refine pw_imul (z := nI (2 * p)) rfl (pk_mul _ _) ?_
  refine px_ialdn (x := G (124) (2 * p)) rfl rfl (by omega) (by decide) (rfl) ?_
  refine pw_goto (t := 31) rfl rfl ?_
  exact pw_iret rfl rfl (Nat.zero_le _) (Nat.zero_le _) rfl k
/-- SBModel_there -/
def there_no0_r  : Int32 := nI (0)
theorem t_there_no0 {L : Nat} {p x : Int32} {F G : FN} {R : RN} (hp : p < 0 ∨ nI 4 ≤ p) {Q : Option PV → PH → Prop} (k : Q (some (.inl (there_no0_r ))) (hb (sL L) F G R sO)) : pz pP mSBModel_there [.inr (some (103)), .inl (p), .inl (nI (0)), .inl (x)] (hb (sL L) F G R sO) Q := by
  show pw pP mSBModel_there (0, [some (.inr (some (103))), some (.inl (p)), some (.inl (nI (0))), some (.inl (x))], [], 0, 0, hb (sL L) F G R sO) _
  refine pw_iload_n rfl rfl ?_
  refine pw_calls (as := [.inl (p)]) (rest := []) rfl rfl (by decide) rfl (Nat.le_of_ble_eq_true rfl) (Nat.le_of_ble_eq_true rfl) (Nat.le_of_ble_eq_true rfl) (Nat.le_of_ble_eq_true rfl) rfl rfl ?_
  refine t_path_out hp ?_
  show pw pP mSBModel_there (4, [some (.inr (some (103))), some (.inl (p)), some (.inl (nI (0))), some (.inl (x))], [.inl (nI (0))], 0, 0, hb (sL L) F G R sO) _
  refine pw_if1 (t := 39) rfl rfl (fun _ => ?_) (fun q => absurd q (by decide))
  refine pw_iconst (v := nI (0)) rfl (by decide) ?_
  exact pw_iret rfl rfl (Nat.zero_le _) (Nat.zero_le _) rfl k
/-- SBModel_flight -/
def flight_no0_r  : Int32 := (-1)
theorem t_flight_no0 {L : Nat} {p : Int32} {F G : FN} {R : RN} (hp : p < 0 ∨ nI 4 ≤ p) {Q : Option PV → PH → Prop} (k : Q (some (.inl (flight_no0_r ))) (hb (sL L) F G R sO)) : pz pP mSBModel_flight [.inr (some (103)), .inl (p), .inl (nI (0))] (hb (sL L) F G R sO) Q := by
  show pw pP mSBModel_flight (0, [some (.inr (some (103))), some (.inl (p)), some (.inl (nI (0)))], [], 0, 0, hb (sL L) F G R sO) _
  refine pw_iload_n rfl rfl ?_
  refine pw_calls (as := [.inl (p)]) (rest := []) rfl rfl (by decide) rfl (Nat.le_of_ble_eq_true rfl) (Nat.le_of_ble_eq_true rfl) (Nat.le_of_ble_eq_true rfl) (Nat.le_of_ble_eq_true rfl) rfl rfl ?_
  refine t_path_out hp ?_
  show pw pP mSBModel_flight (4, [some (.inr (some (103))), some (.inl (p)), some (.inl (nI (0)))], [.inl (nI (0))], 0, 0, hb (sL L) F G R sO) _
  refine pw_if1 (t := 30) rfl rfl (fun _ => ?_) (fun q => absurd q (by decide))
  refine pw_iconst (v := (-1)) rfl (by decide) ?_
  exact pw_iret rfl rfl (Nat.zero_le _) (Nat.zero_le _) rfl k
/-- SBModel_lose -/
def lose_in0_r (G : FN) (p fl kk : Nat) : Int32 := nI (1)
/-- SBModel_lose -/
def lose_in0_G (G : FN) (p fl kk : Nat) : FN := (tdrop G (2 * p) fl kk)
theorem t_lose_in0 {L p kk fl : Nat} {F G : FN} {R : RN} (hp : p < 4) (hfl : G 124 (2 * p) = nI fl) (hf : fl ≤ 6) (hk : kk < fl) {Q : Option PV → PH → Prop} (k : Q (some (.inl (lose_in0_r G p fl kk))) (hb (sL L) F (lose_in0_G G p fl kk) R sO)) : pz pP mSBModel_lose [.inr (some (103)), .inl (nI (p)), .inl (nI (0)), .inl (nI (kk))] (hb (sL L) F G R sO) Q := by
  show pw pP mSBModel_lose (0, [some (.inr (some (103))), some (.inl (nI (p))), some (.inl (nI (0))), some (.inl (nI (kk))), none], [], 0, 0, hb (sL L) F G R sO) _
  refine pw_aload_n rfl rfl ?_
  refine pw_iload_n rfl rfl ?_
  refine pw_iload_n rfl rfl ?_
  refine pw_iload_n rfl rfl ?_
  refine px_callv (as := [.inr (some (103)), .inl (nI (p)), .inl (nI (0)), .inl (nI (kk))]) (rest := []) rfl rfl (by decide) rfl (Nat.le_of_ble_eq_true rfl) (Nat.le_of_ble_eq_true rfl) (Nat.le_of_ble_eq_true rfl) (Nat.le_of_ble_eq_true rfl) rfl rfl rfl rfl ?_
  refine t_there_in0 hp hfl hf hk ?_
  show pw pP mSBModel_lose (7, [some (.inr (some (103))), some (.inl (nI (p))), some (.inl (nI (0))), some (.inl (nI (kk))), none], [.inl (nI (1))], 0, 0, hb (sL L) F G R sO) _
  refine pw_istore (ls1 := [some (.inr (some (103))), some (.inl (nI (p))), some (.inl (nI (0))), some (.inl (nI (kk))), some (.inl (nI (1)))]) rfl (Nat.le_of_ble_eq_true rfl) rfl ?_
  refine pw_iload rfl rfl ?_
  refine pw_if1 (t := 34) rfl rfl (fun q => absurd q (by decide)) (fun _ => ?_)
  refine pw_aload_n rfl rfl ?_
  refine pw_iload_n rfl rfl ?_
  refine pw_if1 (t := 27) rfl rfl (fun _ => ?_) (fun q => absurd q (by decide))
  refine pw_iconst (v := nI (2)) rfl (by decide) ?_
  refine pw_iload_n rfl rfl ?_
  refine pw_imul (z := nI (2 * p)) rfl (pk_mul _ _) ?_
  refine pw_iload_n rfl rfl ?_
  refine px_callv (as := [.inr (some (103)), .inl (nI (2 * p)), .inl (nI (kk))]) (rest := []) rfl rfl (by decide) rfl (Nat.le_of_ble_eq_true rfl) (Nat.le_of_ble_eq_true rfl) (Nat.le_of_ble_eq_true rfl) (Nat.le_of_ble_eq_true rfl) rfl rfl rfl rfl ?_
  refine t_drop (by omega) hfl hf hk ?_
  show pw pP mSBModel_lose (34, [some (.inr (some (103))), some (.inl (nI (p))), some (.inl (nI (0))), some (.inl (nI (kk))), some (.inl (nI (1)))], [], 0, 0, hb (sL L) F (tdrop G (2 * p) fl kk) R sO) _
  refine pw_iload rfl rfl ?_
  exact pw_iret rfl rfl (Nat.zero_le _) (Nat.zero_le _) rfl k
/-- SBModel_lose -/
def lose_out0_r  : Int32 := nI (0)
theorem t_lose_out0 {L p fl : Nat} {x : Int32} {F G : FN} {R : RN} (hp : p < 4) (hfl : G 124 (2 * p) = nI fl) (hk : x < 0 ∨ nI fl ≤ x) {Q : Option PV → PH → Prop} (k : Q (some (.inl (lose_out0_r ))) (hb (sL L) F G R sO)) : pz pP mSBModel_lose [.inr (some (103)), .inl (nI (p)), .inl (nI (0)), .inl (x)] (hb (sL L) F G R sO) Q := by
  show pw pP mSBModel_lose (0, [some (.inr (some (103))), some (.inl (nI (p))), some (.inl (nI (0))), some (.inl (x)), none], [], 0, 0, hb (sL L) F G R sO) _
  refine pw_aload_n rfl rfl ?_
  refine pw_iload_n rfl rfl ?_
  refine pw_iload_n rfl rfl ?_
  refine pw_iload_n rfl rfl ?_
  refine px_callv (as := [.inr (some (103)), .inl (nI (p)), .inl (nI (0)), .inl (x)]) (rest := []) rfl rfl (by decide) rfl (Nat.le_of_ble_eq_true rfl) (Nat.le_of_ble_eq_true rfl) (Nat.le_of_ble_eq_true rfl) (Nat.le_of_ble_eq_true rfl) rfl rfl rfl rfl ?_
  refine t_there_out0 hp hfl hk ?_
  show pw pP mSBModel_lose (7, [some (.inr (some (103))), some (.inl (nI (p))), some (.inl (nI (0))), some (.inl (x)), none], [.inl (nI (0))], 0, 0, hb (sL L) F G R sO) _
  refine pw_istore (ls1 := [some (.inr (some (103))), some (.inl (nI (p))), some (.inl (nI (0))), some (.inl (x)), some (.inl (nI (0)))]) rfl (Nat.le_of_ble_eq_true rfl) rfl ?_
  refine pw_iload rfl rfl ?_
  refine pw_if1 (t := 34) rfl rfl (fun _ => ?_) (fun q => absurd q (by decide))
  refine pw_iload rfl rfl ?_
  exact pw_iret rfl rfl (Nat.zero_le _) (Nat.zero_le _) rfl k
/-- SBModel_lose -/
def lose_no0_r  : Int32 := nI (0)
theorem t_lose_no0 {L : Nat} {p x : Int32} {F G : FN} {R : RN} (hp : p < 0 ∨ nI 4 ≤ p) {Q : Option PV → PH → Prop} (k : Q (some (.inl (lose_no0_r ))) (hb (sL L) F G R sO)) : pz pP mSBModel_lose [.inr (some (103)), .inl (p), .inl (nI (0)), .inl (x)] (hb (sL L) F G R sO) Q := by
  show pw pP mSBModel_lose (0, [some (.inr (some (103))), some (.inl (p)), some (.inl (nI (0))), some (.inl (x)), none], [], 0, 0, hb (sL L) F G R sO) _
  refine pw_aload_n rfl rfl ?_
  refine pw_iload_n rfl rfl ?_
  refine pw_iload_n rfl rfl ?_
  refine pw_iload_n rfl rfl ?_
  refine px_callv (as := [.inr (some (103)), .inl (p), .inl (nI (0)), .inl (x)]) (rest := []) rfl rfl (by decide) rfl (Nat.le_of_ble_eq_true rfl) (Nat.le_of_ble_eq_true rfl) (Nat.le_of_ble_eq_true rfl) (Nat.le_of_ble_eq_true rfl) rfl rfl rfl rfl ?_
  refine t_there_no0 hp ?_
  show pw pP mSBModel_lose (7, [some (.inr (some (103))), some (.inl (p)), some (.inl (nI (0))), some (.inl (x)), none], [.inl (nI (0))], 0, 0, hb (sL L) F G R sO) _
  refine pw_istore (ls1 := [some (.inr (some (103))), some (.inl (p)), some (.inl (nI (0))), some (.inl (x)), some (.inl (nI (0)))]) rfl (Nat.le_of_ble_eq_true rfl) rfl ?_
  refine pw_iload rfl rfl ?_
  refine pw_if1 (t := 34) rfl rfl (fun _ => ?_) (fun q => absurd q (by decide))
  refine pw_iload rfl rfl ?_
  exact pw_iret rfl rfl (Nat.zero_le _) (Nat.zero_le _) rfl k
/-- SBModel_twice -/
def twice_in0_r (F G : FN) (p fl kk : Nat) (z : Int32) : Int32 := (if z < nI (1) then nI (0) else (if z ≤ nI (40) then (if fl < 6 then nI (1) else nI (0)) else nI (0)))
/-- SBModel_twice -/
def twice_in0_G (F G : FN) (p fl kk : Nat) (z : Int32) : FN := (if z < nI (1) then G else (if z ≤ nI (40) then (if fl < 6 then (tput G (2 * p) fl (G (125) (6 * (2 * p) + kk)) (G (126) (6 * (2 * p) + kk)) (G (127) (6 * (2 * p) + kk)) (G (128) (6 * (2 * p) + kk)) (G (129) (6 * (2 * p) + kk)) ((F (103) (3)) + z)) else G) else G))
theorem t_twice_in0 {L p kk fl : Nat} {z : Int32} {F G : FN} {R : RN} (hp : p < 4) (hfl : G 124 (2 * p) = nI fl) (hf : fl ≤ 6) (hk : kk < fl) {Q : Option PV → PH → Prop} (k : Q (some (.inl (twice_in0_r F G p fl kk z))) (hb (sL L) F (twice_in0_G F G p fl kk z) R sO)) : pz pP mSBModel_twice [.inr (some (103)), .inl (nI (p)), .inl (nI (0)), .inl (nI (kk)), .inl (z)] (hb (sL L) F G R sO) Q := by
  show pw pP mSBModel_twice (0, [some (.inr (some (103))), some (.inl (nI (p))), some (.inl (nI (0))), some (.inl (nI (kk))), some (.inl (z)), none, none], [], 0, 0, hb (sL L) F G R sO) _
  refine pw_aload_n rfl rfl ?_
  refine pw_iload_n rfl rfl ?_
  refine pw_iload_n rfl rfl ?_
  refine pw_iload_n rfl rfl ?_
  refine px_callv (as := [.inr (some (103)), .inl (nI (p)), .inl (nI (0)), .inl (nI (kk))]) (rest := []) rfl rfl (by decide) rfl (Nat.le_of_ble_eq_true rfl) (Nat.le_of_ble_eq_true rfl) (Nat.le_of_ble_eq_true rfl) (Nat.le_of_ble_eq_true rfl) rfl rfl rfl rfl ?_
  refine t_there_in0 hp hfl hf hk ?_
  show pw pP mSBModel_twice (7, [some (.inr (some (103))), some (.inl (nI (p))), some (.inl (nI (0))), some (.inl (nI (kk))), some (.inl (z)), none, none], [.inl (nI (1))], 0, 0, hb (sL L) F G R sO) _
  refine pw_if1 (t := 23) rfl rfl (fun q => absurd q (by decide)) (fun _ => ?_)
  refine pw_iload rfl rfl ?_
  refine pw_iconst (v := nI (1)) rfl (by decide) ?_
  refine pw_if2p (A := z < nI (1)) rfl rfl (t := 23) rfl (fun c1 => ?_) (fun c1 => ?_)
  · -- 23
    refine pw_iconst (v := nI (0)) rfl (by decide) ?_
    exact pw_iret rfl rfl (Nat.zero_le _) (Nat.zero_le _) rfl (by simp only [twice_in0_r, twice_in0_G, c1, if_true, if_false] at k; exact k)
  · -- 16
    refine pw_iload rfl rfl ?_
    refine pw_bipush (v := nI (40)) rfl (by decide) ?_
    refine pw_if2p (A := z ≤ nI (40)) rfl rfl (t := 25) rfl (fun c2 => ?_) (fun c2 => ?_)
    · -- 25
      refine pw_iload_n rfl rfl ?_
      refine pw_if1 (t := 37) rfl rfl (fun _ => ?_) (fun q => absurd q (by decide))
      refine pw_iconst (v := nI (2)) rfl (by decide) ?_
      refine pw_iload_n rfl rfl ?_
      refine pw_imul (z := nI (2 * p)) rfl (pk_mul _ _) ?_
      refine pw_istore (ls1 := [some (.inr (some (103))), some (.inl (nI (p))), some (.inl (nI (0))), some (.inl (nI (kk))), some (.inl (z)), some (.inl (nI (2 * p))), none]) rfl (Nat.le_of_ble_eq_true rfl) rfl ?_
      refine pw_aload_n rfl rfl ?_
      refine px_getr (r := some (124)) rfl rfl rfl rfl rfl ?_
      refine pw_iload rfl rfl ?_
      refine px_ialdn (x := nI (fl)) rfl rfl (by omega) (by decide) (hfl) ?_
      refine pw_bipush (v := nI (6)) rfl (by decide) ?_
      refine pw_if2p (cn_lt (by omega) (by omega)) rfl (t := 56) rfl (fun c3 => ?_) (fun c3 => ?_)
      · -- 56
        refine pw_bipush (v := nI (6)) rfl (by decide) ?_
        refine pw_iload rfl rfl ?_
        refine pw_imul (z := nI (6 * (2 * p))) rfl (pk_mul _ _) ?_
        refine pw_iload_n rfl rfl ?_
        refine pw_iadd (z := nI (6 * (2 * p) + kk)) rfl (nI_add _ _) ?_
        refine pw_istore (ls1 := [some (.inr (some (103))), some (.inl (nI (p))), some (.inl (nI (0))), some (.inl (nI (kk))), some (.inl (z)), some (.inl (nI (2 * p))), some (.inl (nI (6 * (2 * p) + kk)))]) rfl (Nat.le_of_ble_eq_true rfl) rfl ?_
        refine pw_aload_n rfl rfl ?_
        refine pw_iload rfl rfl ?_
        refine pw_aload_n rfl rfl ?_
        refine px_getr (r := some (125)) rfl rfl rfl rfl rfl ?_
        refine pw_iload rfl rfl ?_
        refine px_ialdn (x := G (125) (6 * (2 * p) + kk)) rfl rfl (by omega) (by decide) (rfl) ?_
        refine pw_aload_n rfl rfl ?_
        refine px_getr (r := some (126)) rfl rfl rfl rfl rfl ?_
        refine pw_iload rfl rfl ?_
        refine px_ialdn (x := G (126) (6 * (2 * p) + kk)) rfl rfl (by omega) (by decide) (rfl) ?_
        refine pw_aload_n rfl rfl ?_
        refine px_getr (r := some (127)) rfl rfl rfl rfl rfl ?_
        refine pw_iload rfl rfl ?_
        refine px_ialdn (x := G (127) (6 * (2 * p) + kk)) rfl rfl (by omega) (by decide) (rfl) ?_
        refine pw_aload_n rfl rfl ?_
        refine px_getr (r := some (128)) rfl rfl rfl rfl rfl ?_
        refine pw_iload rfl rfl ?_
        refine px_ialdn (x := G (128) (6 * (2 * p) + kk)) rfl rfl (by omega) (by decide) (rfl) ?_
        refine pw_aload_n rfl rfl ?_
        refine px_getr (r := some (129)) rfl rfl rfl rfl rfl ?_
        refine pw_iload rfl rfl ?_
        refine px_ialdn (x := G (129) (6 * (2 * p) + kk)) rfl rfl (by omega) (by decide) (rfl) ?_
        refine pw_aload_n rfl rfl ?_
        refine px_getv (x := F (103) (3)) rfl rfl rfl rfl (rfl) ?_
        refine pw_iload rfl rfl ?_
        refine pw_iadd (z := (F (103) (3)) + z) rfl rfl ?_
        refine px_callv (as := [.inr (some (103)), .inl (nI (2 * p)), .inl (G (125) (6 * (2 * p) + kk)), .inl (G (126) (6 * (2 * p) + kk)), .inl (G (127) (6 * (2 * p) + kk)), .inl (G (128) (6 * (2 * p) + kk)), .inl (G (129) (6 * (2 * p) + kk)), .inl ((F (103) (3)) + z)]) (rest := []) rfl rfl (by decide) rfl (Nat.le_of_ble_eq_true rfl) (Nat.le_of_ble_eq_true rfl) (Nat.le_of_ble_eq_true rfl) (Nat.le_of_ble_eq_true rfl) rfl rfl rfl rfl ?_
        refine t_put (by omega) hfl (by omega) ?_
        show pw pP mSBModel_twice (113, [some (.inr (some (103))), some (.inl (nI (p))), some (.inl (nI (0))), some (.inl (nI (kk))), some (.inl (z)), some (.inl (nI (2 * p))), some (.inl (nI (6 * (2 * p) + kk)))], [], 0, 0, hb (sL L) F (tput G (2 * p) fl (G (125) (6 * (2 * p) + kk)) (G (126) (6 * (2 * p) + kk)) (G (127) (6 * (2 * p) + kk)) (G (128) (6 * (2 * p) + kk)) (G (129) (6 * (2 * p) + kk)) ((F (103) (3)) + z)) R sO) _
        refine pw_iconst (v := nI (1)) rfl (by decide) ?_
        exact pw_iret rfl rfl (Nat.zero_le _) (Nat.zero_le _) rfl (by simp only [twice_in0_r, twice_in0_G, c1, c2, c3, if_true, if_false] at k; exact k)
      · -- 54
        refine pw_iconst (v := nI (0)) rfl (by decide) ?_
        exact pw_iret rfl rfl (Nat.zero_le _) (Nat.zero_le _) rfl (by simp only [twice_in0_r, twice_in0_G, c1, c2, c3, if_true, if_false] at k; exact k)
    · -- 23
      refine pw_iconst (v := nI (0)) rfl (by decide) ?_
      exact pw_iret rfl rfl (Nat.zero_le _) (Nat.zero_le _) rfl (by simp only [twice_in0_r, twice_in0_G, c1, c2, if_true, if_false] at k; exact k)
/-- SBModel_twice -/
def twice_out0_r  : Int32 := nI (0)
theorem t_twice_out0 {L p fl : Nat} {x z : Int32} {F G : FN} {R : RN} (hp : p < 4) (hfl : G 124 (2 * p) = nI fl) (hk : x < 0 ∨ nI fl ≤ x) {Q : Option PV → PH → Prop} (k : Q (some (.inl (twice_out0_r ))) (hb (sL L) F G R sO)) : pz pP mSBModel_twice [.inr (some (103)), .inl (nI (p)), .inl (nI (0)), .inl (x), .inl (z)] (hb (sL L) F G R sO) Q := by
  show pw pP mSBModel_twice (0, [some (.inr (some (103))), some (.inl (nI (p))), some (.inl (nI (0))), some (.inl (x)), some (.inl (z)), none, none], [], 0, 0, hb (sL L) F G R sO) _
  refine pw_aload_n rfl rfl ?_
  refine pw_iload_n rfl rfl ?_
  refine pw_iload_n rfl rfl ?_
  refine pw_iload_n rfl rfl ?_
  refine px_callv (as := [.inr (some (103)), .inl (nI (p)), .inl (nI (0)), .inl (x)]) (rest := []) rfl rfl (by decide) rfl (Nat.le_of_ble_eq_true rfl) (Nat.le_of_ble_eq_true rfl) (Nat.le_of_ble_eq_true rfl) (Nat.le_of_ble_eq_true rfl) rfl rfl rfl rfl ?_
  refine t_there_out0 hp hfl hk ?_
  show pw pP mSBModel_twice (7, [some (.inr (some (103))), some (.inl (nI (p))), some (.inl (nI (0))), some (.inl (x)), some (.inl (z)), none, none], [.inl (nI (0))], 0, 0, hb (sL L) F G R sO) _
  refine pw_if1 (t := 23) rfl rfl (fun _ => ?_) (fun q => absurd q (by decide))
  refine pw_iconst (v := nI (0)) rfl (by decide) ?_
  exact pw_iret rfl rfl (Nat.zero_le _) (Nat.zero_le _) rfl k
/-- SBModel_twice -/
def twice_no0_r  : Int32 := nI (0)
theorem t_twice_no0 {L : Nat} {p x z : Int32} {F G : FN} {R : RN} (hp : p < 0 ∨ nI 4 ≤ p) {Q : Option PV → PH → Prop} (k : Q (some (.inl (twice_no0_r ))) (hb (sL L) F G R sO)) : pz pP mSBModel_twice [.inr (some (103)), .inl (p), .inl (nI (0)), .inl (x), .inl (z)] (hb (sL L) F G R sO) Q := by
  show pw pP mSBModel_twice (0, [some (.inr (some (103))), some (.inl (p)), some (.inl (nI (0))), some (.inl (x)), some (.inl (z)), none, none], [], 0, 0, hb (sL L) F G R sO) _
  refine pw_aload_n rfl rfl ?_
  refine pw_iload_n rfl rfl ?_
  refine pw_iload_n rfl rfl ?_
  refine pw_iload_n rfl rfl ?_
  refine px_callv (as := [.inr (some (103)), .inl (p), .inl (nI (0)), .inl (x)]) (rest := []) rfl rfl (by decide) rfl (Nat.le_of_ble_eq_true rfl) (Nat.le_of_ble_eq_true rfl) (Nat.le_of_ble_eq_true rfl) (Nat.le_of_ble_eq_true rfl) rfl rfl rfl rfl ?_
  refine t_there_no0 hp ?_
  show pw pP mSBModel_twice (7, [some (.inr (some (103))), some (.inl (p)), some (.inl (nI (0))), some (.inl (x)), some (.inl (z)), none, none], [.inl (nI (0))], 0, 0, hb (sL L) F G R sO) _
  refine pw_if1 (t := 23) rfl rfl (fun _ => ?_) (fun q => absurd q (by decide))
  refine pw_iconst (v := nI (0)) rfl (by decide) ?_
  exact pw_iret rfl rfl (Nat.zero_le _) (Nat.zero_le _) rfl k
/-- SBModel_there -/
def there_in1_r  : Int32 := nI (1)
theorem t_there_in1 {L p kk fl : Nat} {F G : FN} {R : RN} (hp : p < 4) (hfl : G 124 (2 * p + 1) = nI fl) (hf : fl ≤ 6) (hk : kk < fl) {Q : Option PV → PH → Prop} (k : Q (some (.inl (there_in1_r ))) (hb (sL L) F G R sO)) : pz pP mSBModel_there [.inr (some (103)), .inl (nI (p)), .inl (nI (1)), .inl (nI (kk))] (hb (sL L) F G R sO) Q := by
  show pw pP mSBModel_there (0, [some (.inr (some (103))), some (.inl (nI (p))), some (.inl (nI (1))), some (.inl (nI (kk)))], [], 0, 0, hb (sL L) F G R sO) _
  refine pw_iload_n rfl rfl ?_
  refine pw_calls (as := [.inl (nI (p))]) (rest := []) rfl rfl (by decide) rfl (Nat.le_of_ble_eq_true rfl) (Nat.le_of_ble_eq_true rfl) (Nat.le_of_ble_eq_true rfl) (Nat.le_of_ble_eq_true rfl) rfl rfl ?_
  refine t_path_in hp ?_
  show pw pP mSBModel_there (4, [some (.inr (some (103))), some (.inl (nI (p))), some (.inl (nI (1))), some (.inl (nI (kk)))], [.inl (nI (1))], 0, 0, hb (sL L) F G R sO) _
  refine pw_if1 (t := 39) rfl rfl (fun q => absurd q (by decide)) (fun _ => ?_)
  refine pw_iload_n rfl rfl ?_
  refine pw_if1p (cz_lt (by omega)) rfl (t := 39) rfl (fun q => absurd q (by omega)) (fun _ => ?_)
  refine pw_iload_n rfl rfl ?_
  refine pw_aload_n rfl rfl ?_
  refine px_getr (r := some (124)) rfl rfl rfl rfl rfl ?_
  refine pw_iload_n rfl rfl ?_
  refine pw_if1 (t := 28) rfl rfl (fun q => absurd q (by decide)) (fun _ => ?_)
  refine pw_iconst (v := nI (2)) rfl (by decide) ?_
  refine pw_iload_n rfl rfl ?_
  refine pw_imul (z := nI (2 * p)) rfl (pk_mul _ _) ?_
  refine pw_iconst (v := nI (1)) rfl (by decide) ?_
  refine pw_iadd (z := nI (2 * p + 1)) rfl (nI_add _ _) ?_
  refine pw_goto (t := 31) rfl rfl ?_
  refine px_ialdn (x := nI (fl)) rfl rfl (by omega) (by decide) (hfl) ?_
  refine pw_if2p (cn_ge (by omega) (by omega)) rfl (t := 39) rfl (fun q => absurd q (by omega)) (fun _ => ?_)
  refine pw_iconst (v := nI (1)) rfl (by decide) ?_
  refine pw_goto (t := 40) rfl rfl ?_
  exact pw_iret rfl rfl (Nat.zero_le _) (Nat.zero_le _) rfl k
theorem t_there_out1 {L p fl : Nat} {x : Int32} {F G : FN} {R : RN} (hp : p < 4) (hfl : G 124 (2 * p + 1) = nI fl) (hk : x < 0 ∨ nI fl ≤ x) {Q : Option PV → PH → Prop} (k : Q (some (.inl (nI (0)))) (hb (sL L) F G R sO)) : pz pP mSBModel_there [.inr (some (103)), .inl (nI (p)), .inl (nI (1)), .inl (x)] (hb (sL L) F G R sO) Q := by
  show pw pP mSBModel_there (0, [some (.inr (some (103))), some (.inl (nI (p))), some (.inl (nI (1))), some (.inl (x))], [], 0, 0, hb (sL L) F G R sO) _
  refine pw_iload_n rfl rfl ?_
  refine pw_calls (as := [.inl (nI (p))]) (rest := []) rfl rfl (by decide) rfl (Nat.le_of_ble_eq_true rfl) (Nat.le_of_ble_eq_true rfl) (Nat.le_of_ble_eq_true rfl) (Nat.le_of_ble_eq_true rfl) rfl rfl ?_
  refine t_path_in hp ?_
  show pw pP mSBModel_there (4, [some (.inr (some (103))), some (.inl (nI (p))), some (.inl (nI (1))), some (.inl (x))], [.inl (nI (1))], 0, 0, hb (sL L) F G R sO) _
  refine pw_if1 (t := 39) rfl rfl (fun q => absurd q (by decide)) (fun _ => ?_)
  refine pw_iload_n rfl rfl ?_
  refine pw_if1p (A := x < 0) rfl rfl (t := 39) rfl (fun c1 => ?_) (fun c1 => ?_)
  · -- 39
    refine pw_iconst (v := nI (0)) rfl (by decide) ?_
    exact pw_iret rfl rfl (Nat.zero_le _) (Nat.zero_le _) rfl k
  · -- 11
    refine pw_iload_n rfl rfl ?_
    refine pw_aload_n rfl rfl ?_
    refine px_getr (r := some (124)) rfl rfl rfl rfl rfl ?_
    refine pw_iload_n rfl rfl ?_
    refine pw_if1 (t := 28) rfl rfl (fun q => absurd q (by decide)) (fun _ => ?_)
    refine pw_iconst (v := nI (2)) rfl (by decide) ?_
    refine pw_iload_n rfl rfl ?_
    refine pw_imul (z := nI (2 * p)) rfl (pk_mul _ _) ?_
    refine pw_iconst (v := nI (1)) rfl (by decide) ?_
    refine pw_iadd (z := nI (2 * p + 1)) rfl (nI_add _ _) ?_
    refine pw_goto (t := 31) rfl rfl ?_
    refine px_ialdn (x := nI (fl)) rfl rfl (by omega) (by decide) (hfl) ?_
    refine pw_if2p (A := nI (fl) ≤ x) rfl rfl (t := 39) rfl (fun c2 => ?_) (fun c2 => ?_)
    · -- 39
      refine pw_iconst (v := nI (0)) rfl (by decide) ?_
      exact pw_iret rfl rfl (Nat.zero_le _) (Nat.zero_le _) rfl k
    · -- 35
      refine pw_iconst (v := nI (1)) rfl (by decide) ?_
      refine pw_goto (t := 40) rfl rfl ?_
      exact absurd (hk.resolve_left c1) c2
/-- SBModel_flight -/
def flight1_r (G : FN) (p : Nat) : Int32 := G (124) (2 * p + 1)
theorem t_flight1 {L p : Nat} {F G : FN} {R : RN} (hp : p < 4) {Q : Option PV → PH → Prop} (k : Q (some (.inl (flight1_r G p))) (hb (sL L) F G R sO)) : pz pP mSBModel_flight [.inr (some (103)), .inl (nI (p)), .inl (nI (1))] (hb (sL L) F G R sO) Q := by
  show pw pP mSBModel_flight (0, [some (.inr (some (103))), some (.inl (nI (p))), some (.inl (nI (1)))], [], 0, 0, hb (sL L) F G R sO) _
  refine pw_iload_n rfl rfl ?_
  refine pw_calls (as := [.inl (nI (p))]) (rest := []) rfl rfl (by decide) rfl (Nat.le_of_ble_eq_true rfl) (Nat.le_of_ble_eq_true rfl) (Nat.le_of_ble_eq_true rfl) (Nat.le_of_ble_eq_true rfl) rfl rfl ?_
  refine t_path_in hp ?_
  show pw pP mSBModel_flight (4, [some (.inr (some (103))), some (.inl (nI (p))), some (.inl (nI (1)))], [.inl (nI (1))], 0, 0, hb (sL L) F G R sO) _
  refine pw_if1 (t := 30) rfl rfl (fun q => absurd q (by decide)) (fun _ => ?_)
  refine pw_aload_n rfl rfl ?_
  refine px_getr (r := some (124)) rfl rfl rfl rfl rfl ?_
  refine pw_iload_n rfl rfl ?_
  refine pw_if1 (t := 23) rfl rfl (fun q => absurd q (by decide)) (fun _ => ?_)
  refine pw_iconst (v := nI (2)) rfl (by decide) ?_
  refine pw_iload_n rfl rfl ?_
  refine pw_imul (z := nI (2 * p)) rfl (pk_mul _ _) ?_
  refine pw_iconst (v := nI (1)) rfl (by decide) ?_
  refine pw_iadd (z := nI (2 * p + 1)) rfl (nI_add _ _) ?_
  refine pw_goto (t := 26) rfl rfl ?_
  refine px_ialdn (x := G (124) (2 * p + 1)) rfl rfl (by omega) (by decide) (rfl) ?_
  refine pw_goto (t := 31) rfl rfl ?_
  exact pw_iret rfl rfl (Nat.zero_le _) (Nat.zero_le _) rfl k
/-- SBModel_there -/
def there_no1_r  : Int32 := nI (0)
theorem t_there_no1 {L : Nat} {p x : Int32} {F G : FN} {R : RN} (hp : p < 0 ∨ nI 4 ≤ p) {Q : Option PV → PH → Prop} (k : Q (some (.inl (there_no1_r ))) (hb (sL L) F G R sO)) : pz pP mSBModel_there [.inr (some (103)), .inl (p), .inl (nI (1)), .inl (x)] (hb (sL L) F G R sO) Q := by
  show pw pP mSBModel_there (0, [some (.inr (some (103))), some (.inl (p)), some (.inl (nI (1))), some (.inl (x))], [], 0, 0, hb (sL L) F G R sO) _
  refine pw_iload_n rfl rfl ?_
  refine pw_calls (as := [.inl (p)]) (rest := []) rfl rfl (by decide) rfl (Nat.le_of_ble_eq_true rfl) (Nat.le_of_ble_eq_true rfl) (Nat.le_of_ble_eq_true rfl) (Nat.le_of_ble_eq_true rfl) rfl rfl ?_
  refine t_path_out hp ?_
  show pw pP mSBModel_there (4, [some (.inr (some (103))), some (.inl (p)), some (.inl (nI (1))), some (.inl (x))], [.inl (nI (0))], 0, 0, hb (sL L) F G R sO) _
  refine pw_if1 (t := 39) rfl rfl (fun _ => ?_) (fun q => absurd q (by decide))
  refine pw_iconst (v := nI (0)) rfl (by decide) ?_
  exact pw_iret rfl rfl (Nat.zero_le _) (Nat.zero_le _) rfl k
/-- SBModel_flight -/
def flight_no1_r  : Int32 := (-1)
theorem t_flight_no1 {L : Nat} {p : Int32} {F G : FN} {R : RN} (hp : p < 0 ∨ nI 4 ≤ p) {Q : Option PV → PH → Prop} (k : Q (some (.inl (flight_no1_r ))) (hb (sL L) F G R sO)) : pz pP mSBModel_flight [.inr (some (103)), .inl (p), .inl (nI (1))] (hb (sL L) F G R sO) Q := by
  show pw pP mSBModel_flight (0, [some (.inr (some (103))), some (.inl (p)), some (.inl (nI (1)))], [], 0, 0, hb (sL L) F G R sO) _
  refine pw_iload_n rfl rfl ?_
  refine pw_calls (as := [.inl (p)]) (rest := []) rfl rfl (by decide) rfl (Nat.le_of_ble_eq_true rfl) (Nat.le_of_ble_eq_true rfl) (Nat.le_of_ble_eq_true rfl) (Nat.le_of_ble_eq_true rfl) rfl rfl ?_
  refine t_path_out hp ?_
  show pw pP mSBModel_flight (4, [some (.inr (some (103))), some (.inl (p)), some (.inl (nI (1)))], [.inl (nI (0))], 0, 0, hb (sL L) F G R sO) _
  refine pw_if1 (t := 30) rfl rfl (fun _ => ?_) (fun q => absurd q (by decide))
  refine pw_iconst (v := (-1)) rfl (by decide) ?_
  exact pw_iret rfl rfl (Nat.zero_le _) (Nat.zero_le _) rfl k
/-- SBModel_lose -/
def lose_in1_r (G : FN) (p fl kk : Nat) : Int32 := nI (1)
/-- SBModel_lose -/
def lose_in1_G (G : FN) (p fl kk : Nat) : FN := (tdrop G (2 * p + 1) fl kk)
theorem t_lose_in1 {L p kk fl : Nat} {F G : FN} {R : RN} (hp : p < 4) (hfl : G 124 (2 * p + 1) = nI fl) (hf : fl ≤ 6) (hk : kk < fl) {Q : Option PV → PH → Prop} (k : Q (some (.inl (lose_in1_r G p fl kk))) (hb (sL L) F (lose_in1_G G p fl kk) R sO)) : pz pP mSBModel_lose [.inr (some (103)), .inl (nI (p)), .inl (nI (1)), .inl (nI (kk))] (hb (sL L) F G R sO) Q := by
  show pw pP mSBModel_lose (0, [some (.inr (some (103))), some (.inl (nI (p))), some (.inl (nI (1))), some (.inl (nI (kk))), none], [], 0, 0, hb (sL L) F G R sO) _
  refine pw_aload_n rfl rfl ?_
  refine pw_iload_n rfl rfl ?_
  refine pw_iload_n rfl rfl ?_
  refine pw_iload_n rfl rfl ?_
  refine px_callv (as := [.inr (some (103)), .inl (nI (p)), .inl (nI (1)), .inl (nI (kk))]) (rest := []) rfl rfl (by decide) rfl (Nat.le_of_ble_eq_true rfl) (Nat.le_of_ble_eq_true rfl) (Nat.le_of_ble_eq_true rfl) (Nat.le_of_ble_eq_true rfl) rfl rfl rfl rfl ?_
  refine t_there_in1 hp hfl hf hk ?_
  show pw pP mSBModel_lose (7, [some (.inr (some (103))), some (.inl (nI (p))), some (.inl (nI (1))), some (.inl (nI (kk))), none], [.inl (nI (1))], 0, 0, hb (sL L) F G R sO) _
  refine pw_istore (ls1 := [some (.inr (some (103))), some (.inl (nI (p))), some (.inl (nI (1))), some (.inl (nI (kk))), some (.inl (nI (1)))]) rfl (Nat.le_of_ble_eq_true rfl) rfl ?_
  refine pw_iload rfl rfl ?_
  refine pw_if1 (t := 34) rfl rfl (fun q => absurd q (by decide)) (fun _ => ?_)
  refine pw_aload_n rfl rfl ?_
  refine pw_iload_n rfl rfl ?_
  refine pw_if1 (t := 27) rfl rfl (fun q => absurd q (by decide)) (fun _ => ?_)
  refine pw_iconst (v := nI (2)) rfl (by decide) ?_
  refine pw_iload_n rfl rfl ?_
  refine pw_imul (z := nI (2 * p)) rfl (pk_mul _ _) ?_
  refine pw_iconst (v := nI (1)) rfl (by decide) ?_
  refine pw_iadd (z := nI (2 * p + 1)) rfl (nI_add _ _) ?_
  refine pw_goto (t := 30) rfl rfl ?_
  refine pw_iload_n rfl rfl ?_
  refine px_callv (as := [.inr (some (103)), .inl (nI (2 * p + 1)), .inl (nI (kk))]) (rest := []) rfl rfl (by decide) rfl (Nat.le_of_ble_eq_true rfl) (Nat.le_of_ble_eq_true rfl) (Nat.le_of_ble_eq_true rfl) (Nat.le_of_ble_eq_true rfl) rfl rfl rfl rfl ?_
  refine t_drop (by omega) hfl hf hk ?_
  show pw pP mSBModel_lose (34, [some (.inr (some (103))), some (.inl (nI (p))), some (.inl (nI (1))), some (.inl (nI (kk))), some (.inl (nI (1)))], [], 0, 0, hb (sL L) F (tdrop G (2 * p + 1) fl kk) R sO) _
  refine pw_iload rfl rfl ?_
  exact pw_iret rfl rfl (Nat.zero_le _) (Nat.zero_le _) rfl k
/-- SBModel_lose -/
def lose_out1_r  : Int32 := nI (0)
theorem t_lose_out1 {L p fl : Nat} {x : Int32} {F G : FN} {R : RN} (hp : p < 4) (hfl : G 124 (2 * p + 1) = nI fl) (hk : x < 0 ∨ nI fl ≤ x) {Q : Option PV → PH → Prop} (k : Q (some (.inl (lose_out1_r ))) (hb (sL L) F G R sO)) : pz pP mSBModel_lose [.inr (some (103)), .inl (nI (p)), .inl (nI (1)), .inl (x)] (hb (sL L) F G R sO) Q := by
  show pw pP mSBModel_lose (0, [some (.inr (some (103))), some (.inl (nI (p))), some (.inl (nI (1))), some (.inl (x)), none], [], 0, 0, hb (sL L) F G R sO) _
  refine pw_aload_n rfl rfl ?_
  refine pw_iload_n rfl rfl ?_
  refine pw_iload_n rfl rfl ?_
  refine pw_iload_n rfl rfl ?_
  refine px_callv (as := [.inr (some (103)), .inl (nI (p)), .inl (nI (1)), .inl (x)]) (rest := []) rfl rfl (by decide) rfl (Nat.le_of_ble_eq_true rfl) (Nat.le_of_ble_eq_true rfl) (Nat.le_of_ble_eq_true rfl) (Nat.le_of_ble_eq_true rfl) rfl rfl rfl rfl ?_
  refine t_there_out1 hp hfl hk ?_
  show pw pP mSBModel_lose (7, [some (.inr (some (103))), some (.inl (nI (p))), some (.inl (nI (1))), some (.inl (x)), none], [.inl (nI (0))], 0, 0, hb (sL L) F G R sO) _
  refine pw_istore (ls1 := [some (.inr (some (103))), some (.inl (nI (p))), some (.inl (nI (1))), some (.inl (x)), some (.inl (nI (0)))]) rfl (Nat.le_of_ble_eq_true rfl) rfl ?_
  refine pw_iload rfl rfl ?_
  refine pw_if1 (t := 34) rfl rfl (fun _ => ?_) (fun q => absurd q (by decide))
  refine pw_iload rfl rfl ?_
  exact pw_iret rfl rfl (Nat.zero_le _) (Nat.zero_le _) rfl k
/-- SBModel_lose -/
def lose_no1_r  : Int32 := nI (0)
theorem t_lose_no1 {L : Nat} {p x : Int32} {F G : FN} {R : RN} (hp : p < 0 ∨ nI 4 ≤ p) {Q : Option PV → PH → Prop} (k : Q (some (.inl (lose_no1_r ))) (hb (sL L) F G R sO)) : pz pP mSBModel_lose [.inr (some (103)), .inl (p), .inl (nI (1)), .inl (x)] (hb (sL L) F G R sO) Q := by
  show pw pP mSBModel_lose (0, [some (.inr (some (103))), some (.inl (p)), some (.inl (nI (1))), some (.inl (x)), none], [], 0, 0, hb (sL L) F G R sO) _
  refine pw_aload_n rfl rfl ?_
  refine pw_iload_n rfl rfl ?_
  refine pw_iload_n rfl rfl ?_
  refine pw_iload_n rfl rfl ?_
  refine px_callv (as := [.inr (some (103)), .inl (p), .inl (nI (1)), .inl (x)]) (rest := []) rfl rfl (by decide) rfl (Nat.le_of_ble_eq_true rfl) (Nat.le_of_ble_eq_true rfl) (Nat.le_of_ble_eq_true rfl) (Nat.le_of_ble_eq_true rfl) rfl rfl rfl rfl ?_
  refine t_there_no1 hp ?_
  show pw pP mSBModel_lose (7, [some (.inr (some (103))), some (.inl (p)), some (.inl (nI (1))), some (.inl (x)), none], [.inl (nI (0))], 0, 0, hb (sL L) F G R sO) _
  refine pw_istore (ls1 := [some (.inr (some (103))), some (.inl (p)), some (.inl (nI (1))), some (.inl (x)), some (.inl (nI (0)))]) rfl (Nat.le_of_ble_eq_true rfl) rfl ?_
  refine pw_iload rfl rfl ?_
  refine pw_if1 (t := 34) rfl rfl (fun _ => ?_) (fun q => absurd q (by decide))
  refine pw_iload rfl rfl ?_
  exact pw_iret rfl rfl (Nat.zero_le _) (Nat.zero_le _) rfl k
/-- SBModel_twice -/
def twice_in1_r (F G : FN) (p fl kk : Nat) (z : Int32) : Int32 := (if z < nI (1) then nI (0) else (if z ≤ nI (40) then (if fl < 6 then nI (1) else nI (0)) else nI (0)))
/-- SBModel_twice -/
def twice_in1_G (F G : FN) (p fl kk : Nat) (z : Int32) : FN := (if z < nI (1) then G else (if z ≤ nI (40) then (if fl < 6 then (tput G (2 * p + 1) fl (G (125) (6 * (2 * p + 1) + kk)) (G (126) (6 * (2 * p + 1) + kk)) (G (127) (6 * (2 * p + 1) + kk)) (G (128) (6 * (2 * p + 1) + kk)) (G (129) (6 * (2 * p + 1) + kk)) ((F (103) (3)) + z)) else G) else G))
theorem t_twice_in1 {L p kk fl : Nat} {z : Int32} {F G : FN} {R : RN} (hp : p < 4) (hfl : G 124 (2 * p + 1) = nI fl) (hf : fl ≤ 6) (hk : kk < fl) {Q : Option PV → PH → Prop} (k : Q (some (.inl (twice_in1_r F G p fl kk z))) (hb (sL L) F (twice_in1_G F G p fl kk z) R sO)) : pz pP mSBModel_twice [.inr (some (103)), .inl (nI (p)), .inl (nI (1)), .inl (nI (kk)), .inl (z)] (hb (sL L) F G R sO) Q := by
  show pw pP mSBModel_twice (0, [some (.inr (some (103))), some (.inl (nI (p))), some (.inl (nI (1))), some (.inl (nI (kk))), some (.inl (z)), none, none], [], 0, 0, hb (sL L) F G R sO) _
  refine pw_aload_n rfl rfl ?_
  refine pw_iload_n rfl rfl ?_
  refine pw_iload_n rfl rfl ?_
  refine pw_iload_n rfl rfl ?_
  refine px_callv (as := [.inr (some (103)), .inl (nI (p)), .inl (nI (1)), .inl (nI (kk))]) (rest := []) rfl rfl (by decide) rfl (Nat.le_of_ble_eq_true rfl) (Nat.le_of_ble_eq_true rfl) (Nat.le_of_ble_eq_true rfl) (Nat.le_of_ble_eq_true rfl) rfl rfl rfl rfl ?_
  refine t_there_in1 hp hfl hf hk ?_
  show pw pP mSBModel_twice (7, [some (.inr (some (103))), some (.inl (nI (p))), some (.inl (nI (1))), some (.inl (nI (kk))), some (.inl (z)), none, none], [.inl (nI (1))], 0, 0, hb (sL L) F G R sO) _
  refine pw_if1 (t := 23) rfl rfl (fun q => absurd q (by decide)) (fun _ => ?_)
  refine pw_iload rfl rfl ?_
  refine pw_iconst (v := nI (1)) rfl (by decide) ?_
  refine pw_if2p (A := z < nI (1)) rfl rfl (t := 23) rfl (fun c1 => ?_) (fun c1 => ?_)
  · -- 23
    refine pw_iconst (v := nI (0)) rfl (by decide) ?_
    exact pw_iret rfl rfl (Nat.zero_le _) (Nat.zero_le _) rfl (by simp only [twice_in1_r, twice_in1_G, c1, if_true, if_false] at k; exact k)
  · -- 16
    refine pw_iload rfl rfl ?_
    refine pw_bipush (v := nI (40)) rfl (by decide) ?_
    refine pw_if2p (A := z ≤ nI (40)) rfl rfl (t := 25) rfl (fun c2 => ?_) (fun c2 => ?_)
    · -- 25
      refine pw_iload_n rfl rfl ?_
      refine pw_if1 (t := 37) rfl rfl (fun q => absurd q (by decide)) (fun _ => ?_)
      refine pw_iconst (v := nI (2)) rfl (by decide) ?_
      refine pw_iload_n rfl rfl ?_
      refine pw_imul (z := nI (2 * p)) rfl (pk_mul _ _) ?_
      refine pw_iconst (v := nI (1)) rfl (by decide) ?_
      refine pw_iadd (z := nI (2 * p + 1)) rfl (nI_add _ _) ?_
      refine pw_goto (t := 40) rfl rfl ?_
      refine pw_istore (ls1 := [some (.inr (some (103))), some (.inl (nI (p))), some (.inl (nI (1))), some (.inl (nI (kk))), some (.inl (z)), some (.inl (nI (2 * p + 1))), none]) rfl (Nat.le_of_ble_eq_true rfl) rfl ?_
      refine pw_aload_n rfl rfl ?_
      refine px_getr (r := some (124)) rfl rfl rfl rfl rfl ?_
      refine pw_iload rfl rfl ?_
      refine px_ialdn (x := nI (fl)) rfl rfl (by omega) (by decide) (hfl) ?_
      refine pw_bipush (v := nI (6)) rfl (by decide) ?_
      refine pw_if2p (cn_lt (by omega) (by omega)) rfl (t := 56) rfl (fun c3 => ?_) (fun c3 => ?_)
      · -- 56
        refine pw_bipush (v := nI (6)) rfl (by decide) ?_
        refine pw_iload rfl rfl ?_
        refine pw_imul (z := nI (6 * (2 * p + 1))) rfl (pk_mul _ _) ?_
        refine pw_iload_n rfl rfl ?_
        refine pw_iadd (z := nI (6 * (2 * p + 1) + kk)) rfl (nI_add _ _) ?_
        refine pw_istore (ls1 := [some (.inr (some (103))), some (.inl (nI (p))), some (.inl (nI (1))), some (.inl (nI (kk))), some (.inl (z)), some (.inl (nI (2 * p + 1))), some (.inl (nI (6 * (2 * p + 1) + kk)))]) rfl (Nat.le_of_ble_eq_true rfl) rfl ?_
        refine pw_aload_n rfl rfl ?_
        refine pw_iload rfl rfl ?_
        refine pw_aload_n rfl rfl ?_
        refine px_getr (r := some (125)) rfl rfl rfl rfl rfl ?_
        refine pw_iload rfl rfl ?_
        refine px_ialdn (x := G (125) (6 * (2 * p + 1) + kk)) rfl rfl (by omega) (by decide) (rfl) ?_
        refine pw_aload_n rfl rfl ?_
        refine px_getr (r := some (126)) rfl rfl rfl rfl rfl ?_
        refine pw_iload rfl rfl ?_
        refine px_ialdn (x := G (126) (6 * (2 * p + 1) + kk)) rfl rfl (by omega) (by decide) (rfl) ?_
        refine pw_aload_n rfl rfl ?_
        refine px_getr (r := some (127)) rfl rfl rfl rfl rfl ?_
        refine pw_iload rfl rfl ?_
        refine px_ialdn (x := G (127) (6 * (2 * p + 1) + kk)) rfl rfl (by omega) (by decide) (rfl) ?_
        refine pw_aload_n rfl rfl ?_
        refine px_getr (r := some (128)) rfl rfl rfl rfl rfl ?_
        refine pw_iload rfl rfl ?_
        refine px_ialdn (x := G (128) (6 * (2 * p + 1) + kk)) rfl rfl (by omega) (by decide) (rfl) ?_
        refine pw_aload_n rfl rfl ?_
        refine px_getr (r := some (129)) rfl rfl rfl rfl rfl ?_
        refine pw_iload rfl rfl ?_
        refine px_ialdn (x := G (129) (6 * (2 * p + 1) + kk)) rfl rfl (by omega) (by decide) (rfl) ?_
        refine pw_aload_n rfl rfl ?_
        refine px_getv (x := F (103) (3)) rfl rfl rfl rfl (rfl) ?_
        refine pw_iload rfl rfl ?_
        refine pw_iadd (z := (F (103) (3)) + z) rfl rfl ?_
        refine px_callv (as := [.inr (some (103)), .inl (nI (2 * p + 1)), .inl (G (125) (6 * (2 * p + 1) + kk)), .inl (G (126) (6 * (2 * p + 1) + kk)), .inl (G (127) (6 * (2 * p + 1) + kk)), .inl (G (128) (6 * (2 * p + 1) + kk)), .inl (G (129) (6 * (2 * p + 1) + kk)), .inl ((F (103) (3)) + z)]) (rest := []) rfl rfl (by decide) rfl (Nat.le_of_ble_eq_true rfl) (Nat.le_of_ble_eq_true rfl) (Nat.le_of_ble_eq_true rfl) (Nat.le_of_ble_eq_true rfl) rfl rfl rfl rfl ?_
        refine t_put (by omega) hfl (by omega) ?_
        show pw pP mSBModel_twice (113, [some (.inr (some (103))), some (.inl (nI (p))), some (.inl (nI (1))), some (.inl (nI (kk))), some (.inl (z)), some (.inl (nI (2 * p + 1))), some (.inl (nI (6 * (2 * p + 1) + kk)))], [], 0, 0, hb (sL L) F (tput G (2 * p + 1) fl (G (125) (6 * (2 * p + 1) + kk)) (G (126) (6 * (2 * p + 1) + kk)) (G (127) (6 * (2 * p + 1) + kk)) (G (128) (6 * (2 * p + 1) + kk)) (G (129) (6 * (2 * p + 1) + kk)) ((F (103) (3)) + z)) R sO) _
        refine pw_iconst (v := nI (1)) rfl (by decide) ?_
        exact pw_iret rfl rfl (Nat.zero_le _) (Nat.zero_le _) rfl (by simp only [twice_in1_r, twice_in1_G, c1, c2, c3, if_true, if_false] at k; exact k)
      · -- 54
        refine pw_iconst (v := nI (0)) rfl (by decide) ?_
        exact pw_iret rfl rfl (Nat.zero_le _) (Nat.zero_le _) rfl (by simp only [twice_in1_r, twice_in1_G, c1, c2, c3, if_true, if_false] at k; exact k)
    · -- 23
      refine pw_iconst (v := nI (0)) rfl (by decide) ?_
      exact pw_iret rfl rfl (Nat.zero_le _) (Nat.zero_le _) rfl (by simp only [twice_in1_r, twice_in1_G, c1, c2, if_true, if_false] at k; exact k)
/-- SBModel_twice -/
def twice_out1_r  : Int32 := nI (0)
theorem t_twice_out1 {L p fl : Nat} {x z : Int32} {F G : FN} {R : RN} (hp : p < 4) (hfl : G 124 (2 * p + 1) = nI fl) (hk : x < 0 ∨ nI fl ≤ x) {Q : Option PV → PH → Prop} (k : Q (some (.inl (twice_out1_r ))) (hb (sL L) F G R sO)) : pz pP mSBModel_twice [.inr (some (103)), .inl (nI (p)), .inl (nI (1)), .inl (x), .inl (z)] (hb (sL L) F G R sO) Q := by
  show pw pP mSBModel_twice (0, [some (.inr (some (103))), some (.inl (nI (p))), some (.inl (nI (1))), some (.inl (x)), some (.inl (z)), none, none], [], 0, 0, hb (sL L) F G R sO) _
  refine pw_aload_n rfl rfl ?_
  refine pw_iload_n rfl rfl ?_
  refine pw_iload_n rfl rfl ?_
  refine pw_iload_n rfl rfl ?_
  refine px_callv (as := [.inr (some (103)), .inl (nI (p)), .inl (nI (1)), .inl (x)]) (rest := []) rfl rfl (by decide) rfl (Nat.le_of_ble_eq_true rfl) (Nat.le_of_ble_eq_true rfl) (Nat.le_of_ble_eq_true rfl) (Nat.le_of_ble_eq_true rfl) rfl rfl rfl rfl ?_
  refine t_there_out1 hp hfl hk ?_
  show pw pP mSBModel_twice (7, [some (.inr (some (103))), some (.inl (nI (p))), some (.inl (nI (1))), some (.inl (x)), some (.inl (z)), none, none], [.inl (nI (0))], 0, 0, hb (sL L) F G R sO) _
  refine pw_if1 (t := 23) rfl rfl (fun _ => ?_) (fun q => absurd q (by decide))
  refine pw_iconst (v := nI (0)) rfl (by decide) ?_
  exact pw_iret rfl rfl (Nat.zero_le _) (Nat.zero_le _) rfl k
/-- SBModel_twice -/
def twice_no1_r  : Int32 := nI (0)
theorem t_twice_no1 {L : Nat} {p x z : Int32} {F G : FN} {R : RN} (hp : p < 0 ∨ nI 4 ≤ p) {Q : Option PV → PH → Prop} (k : Q (some (.inl (twice_no1_r ))) (hb (sL L) F G R sO)) : pz pP mSBModel_twice [.inr (some (103)), .inl (p), .inl (nI (1)), .inl (x), .inl (z)] (hb (sL L) F G R sO) Q := by
  show pw pP mSBModel_twice (0, [some (.inr (some (103))), some (.inl (p)), some (.inl (nI (1))), some (.inl (x)), some (.inl (z)), none, none], [], 0, 0, hb (sL L) F G R sO) _
  refine pw_aload_n rfl rfl ?_
  refine pw_iload_n rfl rfl ?_
  refine pw_iload_n rfl rfl ?_
  refine pw_iload_n rfl rfl ?_
  refine px_callv (as := [.inr (some (103)), .inl (p), .inl (nI (1)), .inl (x)]) (rest := []) rfl rfl (by decide) rfl (Nat.le_of_ble_eq_true rfl) (Nat.le_of_ble_eq_true rfl) (Nat.le_of_ble_eq_true rfl) (Nat.le_of_ble_eq_true rfl) rfl rfl rfl rfl ?_
  refine t_there_no1 hp ?_
  show pw pP mSBModel_twice (7, [some (.inr (some (103))), some (.inl (p)), some (.inl (nI (1))), some (.inl (x)), some (.inl (z)), none, none], [.inl (nI (0))], 0, 0, hb (sL L) F G R sO) _
  refine pw_if1 (t := 23) rfl rfl (fun _ => ?_) (fun q => absurd q (by decide))
  refine pw_iconst (v := nI (0)) rfl (by decide) ?_
  exact pw_iret rfl rfl (Nat.zero_le _) (Nat.zero_le _) rfl k
/-- SBModel_state -/
def state_no_r  : Int32 := (-1)
theorem t_state_no {L : Nat} {p : Int32} {F G : FN} {R : RN} (hp : p < 0 ∨ nI 4 ≤ p) {Q : Option PV → PH → Prop} (k : Q (some (.inl (state_no_r ))) (hb (sL L) F G R sO)) : pz pP mSBModel_state [.inr (some (103)), .inl (p)] (hb (sL L) F G R sO) Q := by
  show pw pP mSBModel_state (0, [some (.inr (some (103))), some (.inl (p))], [], 0, 0, hb (sL L) F G R sO) _
  refine pw_iload_n rfl rfl ?_
  refine pw_calls (as := [.inl (p)]) (rest := []) rfl rfl (by decide) rfl (Nat.le_of_ble_eq_true rfl) (Nat.le_of_ble_eq_true rfl) (Nat.le_of_ble_eq_true rfl) (Nat.le_of_ble_eq_true rfl) rfl rfl ?_
  refine t_path_out hp ?_
  show pw pP mSBModel_state (4, [some (.inr (some (103))), some (.inl (p))], [.inl (nI (0))], 0, 0, hb (sL L) F G R sO) _
  refine pw_if1 (t := 16) rfl rfl (fun _ => ?_) (fun q => absurd q (by decide))
  refine pw_iconst (v := (-1)) rfl (by decide) ?_
  exact pw_iret rfl rfl (Nat.zero_le _) (Nat.zero_le _) rfl k
/-- SBModel_timeout -/
def timeout_no_r  : Int32 := (-1)
theorem t_timeout_no {L : Nat} {p : Int32} {F G : FN} {R : RN} (hp : p < 0 ∨ nI 4 ≤ p) {Q : Option PV → PH → Prop} (k : Q (some (.inl (timeout_no_r ))) (hb (sL L) F G R sO)) : pz pP mSBModel_timeout [.inr (some (103)), .inl (p)] (hb (sL L) F G R sO) Q := by
  show pw pP mSBModel_timeout (0, [some (.inr (some (103))), some (.inl (p))], [], 0, 0, hb (sL L) F G R sO) _
  refine pw_iload_n rfl rfl ?_
  refine pw_calls (as := [.inl (p)]) (rest := []) rfl rfl (by decide) rfl (Nat.le_of_ble_eq_true rfl) (Nat.le_of_ble_eq_true rfl) (Nat.le_of_ble_eq_true rfl) (Nat.le_of_ble_eq_true rfl) rfl rfl ?_
  refine t_path_out hp ?_
  show pw pP mSBModel_timeout (4, [some (.inr (some (103))), some (.inl (p))], [.inl (nI (0))], 0, 0, hb (sL L) F G R sO) _
  refine pw_if1 (t := 16) rfl rfl (fun _ => ?_) (fun q => absurd q (by decide))
  refine pw_iconst (v := (-1)) rfl (by decide) ?_
  exact pw_iret rfl rfl (Nat.zero_le _) (Nat.zero_le _) rfl k
/-- SBModel_sent -/
def sent_no_r  : Int32 := (-1)
theorem t_sent_no {L : Nat} {p : Int32} {F G : FN} {R : RN} (hp : p < 0 ∨ nI 4 ≤ p) {Q : Option PV → PH → Prop} (k : Q (some (.inl (sent_no_r ))) (hb (sL L) F G R sO)) : pz pP mSBModel_sent [.inr (some (103)), .inl (p)] (hb (sL L) F G R sO) Q := by
  show pw pP mSBModel_sent (0, [some (.inr (some (103))), some (.inl (p))], [], 0, 0, hb (sL L) F G R sO) _
  refine pw_iload_n rfl rfl ?_
  refine pw_calls (as := [.inl (p)]) (rest := []) rfl rfl (by decide) rfl (Nat.le_of_ble_eq_true rfl) (Nat.le_of_ble_eq_true rfl) (Nat.le_of_ble_eq_true rfl) (Nat.le_of_ble_eq_true rfl) rfl rfl ?_
  refine t_path_out hp ?_
  show pw pP mSBModel_sent (4, [some (.inr (some (103))), some (.inl (p))], [.inl (nI (0))], 0, 0, hb (sL L) F G R sO) _
  refine pw_if1 (t := 16) rfl rfl (fun _ => ?_) (fun q => absurd q (by decide))
  refine pw_iconst (v := (-1)) rfl (by decide) ?_
  exact pw_iret rfl rfl (Nat.zero_le _) (Nat.zero_le _) rfl k
/-- SBModel_smooth -/
def smooth_no_r  : Int32 := (-1)
theorem t_smooth_no {L : Nat} {p : Int32} {F G : FN} {R : RN} (hp : p < 0 ∨ nI 4 ≤ p) {Q : Option PV → PH → Prop} (k : Q (some (.inl (smooth_no_r ))) (hb (sL L) F G R sO)) : pz pP mSBModel_smooth [.inr (some (103)), .inl (p)] (hb (sL L) F G R sO) Q := by
  show pw pP mSBModel_smooth (0, [some (.inr (some (103))), some (.inl (p))], [], 0, 0, hb (sL L) F G R sO) _
  refine pw_iload_n rfl rfl ?_
  refine pw_calls (as := [.inl (p)]) (rest := []) rfl rfl (by decide) rfl (Nat.le_of_ble_eq_true rfl) (Nat.le_of_ble_eq_true rfl) (Nat.le_of_ble_eq_true rfl) (Nat.le_of_ble_eq_true rfl) rfl rfl ?_
  refine t_path_out hp ?_
  show pw pP mSBModel_smooth (4, [some (.inr (some (103))), some (.inl (p))], [.inl (nI (0))], 0, 0, hb (sL L) F G R sO) _
  refine pw_if1 (t := 25) rfl rfl (fun _ => ?_) (fun q => absurd q (by decide))
  refine pw_iconst (v := (-1)) rfl (by decide) ?_
  exact pw_iret rfl rfl (Nat.zero_le _) (Nat.zero_le _) rfl k
/-- SBModel_unacked -/
def unacked_no_r  : Int32 := (-1)
theorem t_unacked_no {L : Nat} {p : Int32} {F G : FN} {R : RN} (hp : p < 0 ∨ nI 4 ≤ p) {Q : Option PV → PH → Prop} (k : Q (some (.inl (unacked_no_r ))) (hb (sL L) F G R sO)) : pz pP mSBModel_unacked [.inr (some (103)), .inl (p)] (hb (sL L) F G R sO) Q := by
  show pw pP mSBModel_unacked (0, [some (.inr (some (103))), some (.inl (p))], [], 0, 0, hb (sL L) F G R sO) _
  refine pw_iload_n rfl rfl ?_
  refine pw_calls (as := [.inl (p)]) (rest := []) rfl rfl (by decide) rfl (Nat.le_of_ble_eq_true rfl) (Nat.le_of_ble_eq_true rfl) (Nat.le_of_ble_eq_true rfl) (Nat.le_of_ble_eq_true rfl) rfl rfl ?_
  refine t_path_out hp ?_
  show pw pP mSBModel_unacked (4, [some (.inr (some (103))), some (.inl (p))], [.inl (nI (0))], 0, 0, hb (sL L) F G R sO) _
  refine pw_if1 (t := 11) rfl rfl (fun q => absurd q (by decide)) (fun _ => ?_)
  refine pw_iconst (v := (-1)) rfl (by decide) ?_
  refine pw_goto (t := 38) rfl rfl ?_
  exact pw_iret rfl rfl (Nat.zero_le _) (Nat.zero_le _) rfl k
/-- SBModel_smooth -/
def smooth_r (G : FN) (p : Nat) : Int32 := (if G (112) (p) = 0 then (-1) else G (113) (p))
theorem t_smooth {L p : Nat} {F G : FN} {R : RN} (hp : p < 4) {Q : Option PV → PH → Prop} (k : Q (some (.inl (smooth_r G p))) (hb (sL L) F G R sO)) : pz pP mSBModel_smooth [.inr (some (103)), .inl (nI (p))] (hb (sL L) F G R sO) Q := by
  show pw pP mSBModel_smooth (0, [some (.inr (some (103))), some (.inl (nI (p)))], [], 0, 0, hb (sL L) F G R sO) _
  refine pw_iload_n rfl rfl ?_
  refine pw_calls (as := [.inl (nI (p))]) (rest := []) rfl rfl (by decide) rfl (Nat.le_of_ble_eq_true rfl) (Nat.le_of_ble_eq_true rfl) (Nat.le_of_ble_eq_true rfl) (Nat.le_of_ble_eq_true rfl) rfl rfl ?_
  refine t_path_in hp ?_
  show pw pP mSBModel_smooth (4, [some (.inr (some (103))), some (.inl (nI (p)))], [.inl (nI (1))], 0, 0, hb (sL L) F G R sO) _
  refine pw_if1 (t := 25) rfl rfl (fun q => absurd q (by decide)) (fun _ => ?_)
  refine pw_aload_n rfl rfl ?_
  refine px_getr (r := some (112)) rfl rfl rfl rfl rfl ?_
  refine pw_iload_n rfl rfl ?_
  refine px_zaldn (x := G (112) (p)) rfl rfl (by omega) (by decide) (rfl) ?_
  refine pw_if1p (A := G (112) (p) = 0) rfl rfl (t := 25) rfl (fun c1 => ?_) (fun c1 => ?_)
  · -- 25
    refine pw_iconst (v := (-1)) rfl (by decide) ?_
    exact pw_iret rfl rfl (Nat.zero_le _) (Nat.zero_le _) rfl (by simp only [smooth_r, c1, if_true, if_false] at k; exact k)
  · -- 16
    refine pw_aload_n rfl rfl ?_
    refine px_getr (r := some (113)) rfl rfl rfl rfl rfl ?_
    refine pw_iload_n rfl rfl ?_
    refine px_ialdn (x := G (113) (p)) rfl rfl (by omega) (by decide) (rfl) ?_
    refine pw_goto (t := 26) rfl rfl ?_
    exact pw_iret rfl rfl (Nat.zero_le _) (Nat.zero_le _) rfl (by simp only [smooth_r, c1, if_true, if_false] at k; exact k)
/-- SBModel_unacked -/
def unacked_r (G : FN) (p : Nat) : Int32 := (if ¬ G (107) (p) = nI (4) then (G (116) (p)) - (G (115) (p)) else nI (0))
theorem t_unacked {L p : Nat} {F G : FN} {R : RN} (hp : p < 4) {Q : Option PV → PH → Prop} (k : Q (some (.inl (unacked_r G p))) (hb (sL L) F G R sO)) : pz pP mSBModel_unacked [.inr (some (103)), .inl (nI (p))] (hb (sL L) F G R sO) Q := by
  show pw pP mSBModel_unacked (0, [some (.inr (some (103))), some (.inl (nI (p)))], [], 0, 0, hb (sL L) F G R sO) _
  refine pw_iload_n rfl rfl ?_
  refine pw_calls (as := [.inl (nI (p))]) (rest := []) rfl rfl (by decide) rfl (Nat.le_of_ble_eq_true rfl) (Nat.le_of_ble_eq_true rfl) (Nat.le_of_ble_eq_true rfl) (Nat.le_of_ble_eq_true rfl) rfl rfl ?_
  refine t_path_in hp ?_
  show pw pP mSBModel_unacked (4, [some (.inr (some (103))), some (.inl (nI (p)))], [.inl (nI (1))], 0, 0, hb (sL L) F G R sO) _
  refine pw_if1 (t := 11) rfl rfl (fun _ => ?_) (fun q => absurd q (by decide))
  refine pw_aload_n rfl rfl ?_
  refine px_getr (r := some (107)) rfl rfl rfl rfl rfl ?_
  refine pw_iload_n rfl rfl ?_
  refine px_ialdn (x := G (107) (p)) rfl rfl (by omega) (by decide) (rfl) ?_
  refine pw_iconst (v := nI (4)) rfl (by decide) ?_
  refine pw_if2p (A := ¬ G (107) (p) = nI (4)) rfl rfl (t := 25) rfl (fun c1 => ?_) (fun c1 => ?_)
  · -- 25
    refine pw_aload_n rfl rfl ?_
    refine px_getr (r := some (116)) rfl rfl rfl rfl rfl ?_
    refine pw_iload_n rfl rfl ?_
    refine px_ialdn (x := G (116) (p)) rfl rfl (by omega) (by decide) (rfl) ?_
    refine pw_aload_n rfl rfl ?_
    refine px_getr (r := some (115)) rfl rfl rfl rfl rfl ?_
    refine pw_iload_n rfl rfl ?_
    refine px_ialdn (x := G (115) (p)) rfl rfl (by omega) (by decide) (rfl) ?_
    refine pw_isub (z := (G (116) (p)) - (G (115) (p))) rfl rfl ?_
    exact pw_iret rfl rfl (Nat.zero_le _) (Nat.zero_le _) rfl (by simp only [unacked_r, c1, if_true, if_false] at k; exact k)
  · -- 21
    refine pw_iconst (v := nI (0)) rfl (by decide) ?_
    refine pw_goto (t := 38) rfl rfl ?_
    exact pw_iret rfl rfl (Nat.zero_le _) (Nat.zero_le _) rfl (by simp only [unacked_r, c1, if_true, if_false] at k; exact k)
/-- SBModel_delay -/
def delay_no_r  : Int32 := nI (0)
theorem t_delay_no {L : Nat} {p x : Int32} {F G : FN} {R : RN} (hp : p < 0 ∨ nI 4 ≤ p) {Q : Option PV → PH → Prop} (k : Q (some (.inl (delay_no_r ))) (hb (sL L) F G R sO)) : pz pP mSBModel_delay [.inr (some (103)), .inl (p), .inl (x)] (hb (sL L) F G R sO) Q := by
  show pw pP mSBModel_delay (0, [some (.inr (some (103))), some (.inl (p)), some (.inl (x))], [], 0, 0, hb (sL L) F G R sO) _
  refine pw_iload_n rfl rfl ?_
  refine pw_calls (as := [.inl (p)]) (rest := []) rfl rfl (by decide) rfl (Nat.le_of_ble_eq_true rfl) (Nat.le_of_ble_eq_true rfl) (Nat.le_of_ble_eq_true rfl) (Nat.le_of_ble_eq_true rfl) rfl rfl ?_
  refine t_path_out hp ?_
  show pw pP mSBModel_delay (4, [some (.inr (some (103))), some (.inl (p)), some (.inl (x))], [.inl (nI (0))], 0, 0, hb (sL L) F G R sO) _
  refine pw_if1 (t := 17) rfl rfl (fun _ => ?_) (fun q => absurd q (by decide))
  refine pw_iconst (v := nI (0)) rfl (by decide) ?_
  exact pw_iret rfl rfl (Nat.zero_le _) (Nat.zero_le _) rfl k
/-- SBModel_delay -/
def delay_r (G : FN) (p : Nat) (x : Int32) : Int32 := (if x < 0 then nI (0) else (if x ≤ nI (40) then (if G (107) (p) = 0 then nI (0) else (if ¬ G (107) (p) = nI (4) then nI (1) else nI (0))) else nI (0)))
/-- SBModel_delay -/
def delay_G (G : FN) (p : Nat) (x : Int32) : FN := (if x < 0 then G else (if x ≤ nI (40) then (if G (107) (p) = 0 then G else (if ¬ G (107) (p) = nI (4) then (up2 G (108) (p) (x)) else G)) else G))
theorem t_delay {L p : Nat} {x : Int32} {F G : FN} {R : RN} (hp : p < 4) {Q : Option PV → PH → Prop} (k : Q (some (.inl (delay_r G p x))) (hb (sL L) F (delay_G G p x) R sO)) : pz pP mSBModel_delay [.inr (some (103)), .inl (nI (p)), .inl (x)] (hb (sL L) F G R sO) Q := by
  show pw pP mSBModel_delay (0, [some (.inr (some (103))), some (.inl (nI (p))), some (.inl (x))], [], 0, 0, hb (sL L) F G R sO) _
  refine pw_iload_n rfl rfl ?_
  refine pw_calls (as := [.inl (nI (p))]) (rest := []) rfl rfl (by decide) rfl (Nat.le_of_ble_eq_true rfl) (Nat.le_of_ble_eq_true rfl) (Nat.le_of_ble_eq_true rfl) (Nat.le_of_ble_eq_true rfl) rfl rfl ?_
  refine t_path_in hp ?_
  show pw pP mSBModel_delay (4, [some (.inr (some (103))), some (.inl (nI (p))), some (.inl (x))], [.inl (nI (1))], 0, 0, hb (sL L) F G R sO) _
  refine pw_if1 (t := 17) rfl rfl (fun q => absurd q (by decide)) (fun _ => ?_)
  refine pw_iload_n rfl rfl ?_
  refine pw_if1p (A := x < 0) rfl rfl (t := 17) rfl (fun c1 => ?_) (fun c1 => ?_)
  · -- 17
    refine pw_iconst (v := nI (0)) rfl (by decide) ?_
    exact pw_iret rfl rfl (Nat.zero_le _) (Nat.zero_le _) rfl (by simp only [delay_r, delay_G, c1, if_true, if_false] at k; exact k)
  · -- 11
    refine pw_iload_n rfl rfl ?_
    refine pw_bipush (v := nI (40)) rfl (by decide) ?_
    refine pw_if2p (A := x ≤ nI (40)) rfl rfl (t := 19) rfl (fun c2 => ?_) (fun c2 => ?_)
    · -- 19
      refine pw_aload_n rfl rfl ?_
      refine px_getr (r := some (107)) rfl rfl rfl rfl rfl ?_
      refine pw_iload_n rfl rfl ?_
      refine px_ialdn (x := G (107) (p)) rfl rfl (by omega) (by decide) (rfl) ?_
      refine pw_if1p (A := G (107) (p) = 0) rfl rfl (t := 38) rfl (fun c3 => ?_) (fun c3 => ?_)
      · -- 38
        refine pw_iconst (v := nI (0)) rfl (by decide) ?_
        exact pw_iret rfl rfl (Nat.zero_le _) (Nat.zero_le _) rfl (by simp only [delay_r, delay_G, c1, c2, c3, if_true, if_false] at k; exact k)
      · -- 28
        refine pw_aload_n rfl rfl ?_
        refine px_getr (r := some (107)) rfl rfl rfl rfl rfl ?_
        refine pw_iload_n rfl rfl ?_
        refine px_ialdn (x := G (107) (p)) rfl rfl (by omega) (by decide) (rfl) ?_
        refine pw_iconst (v := nI (4)) rfl (by decide) ?_
        refine pw_if2p (A := ¬ G (107) (p) = nI (4)) rfl rfl (t := 40) rfl (fun c4 => ?_) (fun c4 => ?_)
        · -- 40
          refine pw_aload_n rfl rfl ?_
          refine px_getr (r := some (108)) rfl rfl rfl rfl rfl ?_
          refine pw_iload_n rfl rfl ?_
          refine pw_iload_n rfl rfl ?_
          refine px_iastn rfl rfl (by omega) (by decide) ?_
          refine pw_iconst (v := nI (1)) rfl (by decide) ?_
          exact pw_iret rfl rfl (Nat.zero_le _) (Nat.zero_le _) rfl (by simp only [delay_r, delay_G, c1, c2, c3, c4, if_true, if_false] at k; exact k)
        · -- 38
          refine pw_iconst (v := nI (0)) rfl (by decide) ?_
          exact pw_iret rfl rfl (Nat.zero_le _) (Nat.zero_le _) rfl (by simp only [delay_r, delay_G, c1, c2, c3, c4, if_true, if_false] at k; exact k)
    · -- 17
      refine pw_iconst (v := nI (0)) rfl (by decide) ?_
      exact pw_iret rfl rfl (Nat.zero_le _) (Nat.zero_le _) rfl (by simp only [delay_r, delay_G, c1, c2, if_true, if_false] at k; exact k)
/-- SBModel_close -/
def close_no_r  : Int32 := nI (0)
theorem t_close_no {L : Nat} {p : Int32} {F G : FN} {R : RN} (hp : p < 0 ∨ nI 4 ≤ p) {Q : Option PV → PH → Prop} (k : Q (some (.inl (close_no_r ))) (hb (sL L) F G R sO)) : pz pP mSBModel_close [.inr (some (103)), .inl (p)] (hb (sL L) F G R sO) Q := by
  show pw pP mSBModel_close (0, [some (.inr (some (103))), some (.inl (p))], [], 0, 0, hb (sL L) F G R sO) _
  refine pw_iload_n rfl rfl ?_
  refine pw_calls (as := [.inl (p)]) (rest := []) rfl rfl (by decide) rfl (Nat.le_of_ble_eq_true rfl) (Nat.le_of_ble_eq_true rfl) (Nat.le_of_ble_eq_true rfl) (Nat.le_of_ble_eq_true rfl) rfl rfl ?_
  refine t_path_out hp ?_
  show pw pP mSBModel_close (4, [some (.inr (some (103))), some (.inl (p))], [.inl (nI (0))], 0, 0, hb (sL L) F G R sO) _
  refine pw_if1 (t := 26) rfl rfl (fun _ => ?_) (fun q => absurd q (by decide))
  refine pw_iconst (v := nI (0)) rfl (by decide) ?_
  exact pw_iret rfl rfl (Nat.zero_le _) (Nat.zero_le _) rfl k
/-- SBModel_close -/
def close_r (G : FN) (p : Nat) : Int32 := (if G (107) (p) = 0 then nI (0) else (if ¬ G (107) (p) = nI (4) then nI (1) else nI (0)))
/-- SBModel_close -/
def close_G (G : FN) (p : Nat) : FN := (if G (107) (p) = 0 then G else (if ¬ G (107) (p) = nI (4) then (shut_G G p) else G))
theorem t_close {L p : Nat} {F G : FN} {R : RN} (hp : p < 4) {Q : Option PV → PH → Prop} (k : Q (some (.inl (close_r G p))) (hb (sL L) F (close_G G p) R sO)) : pz pP mSBModel_close [.inr (some (103)), .inl (nI (p))] (hb (sL L) F G R sO) Q := by
  show pw pP mSBModel_close (0, [some (.inr (some (103))), some (.inl (nI (p)))], [], 0, 0, hb (sL L) F G R sO) _
  refine pw_iload_n rfl rfl ?_
  refine pw_calls (as := [.inl (nI (p))]) (rest := []) rfl rfl (by decide) rfl (Nat.le_of_ble_eq_true rfl) (Nat.le_of_ble_eq_true rfl) (Nat.le_of_ble_eq_true rfl) (Nat.le_of_ble_eq_true rfl) rfl rfl ?_
  refine t_path_in hp ?_
  show pw pP mSBModel_close (4, [some (.inr (some (103))), some (.inl (nI (p)))], [.inl (nI (1))], 0, 0, hb (sL L) F G R sO) _
  refine pw_if1 (t := 26) rfl rfl (fun q => absurd q (by decide)) (fun _ => ?_)
  refine pw_aload_n rfl rfl ?_
  refine px_getr (r := some (107)) rfl rfl rfl rfl rfl ?_
  refine pw_iload_n rfl rfl ?_
  refine px_ialdn (x := G (107) (p)) rfl rfl (by omega) (by decide) (rfl) ?_
  refine pw_if1p (A := G (107) (p) = 0) rfl rfl (t := 26) rfl (fun c1 => ?_) (fun c1 => ?_)
  · -- 26
    refine pw_iconst (v := nI (0)) rfl (by decide) ?_
    exact pw_iret rfl rfl (Nat.zero_le _) (Nat.zero_le _) rfl (by simp only [close_r, close_G, c1, if_true, if_false] at k; exact k)
  · -- 16
    refine pw_aload_n rfl rfl ?_
    refine px_getr (r := some (107)) rfl rfl rfl rfl rfl ?_
    refine pw_iload_n rfl rfl ?_
    refine px_ialdn (x := G (107) (p)) rfl rfl (by omega) (by decide) (rfl) ?_
    refine pw_iconst (v := nI (4)) rfl (by decide) ?_
    refine pw_if2p (A := ¬ G (107) (p) = nI (4)) rfl rfl (t := 28) rfl (fun c2 => ?_) (fun c2 => ?_)
    · -- 28
      refine pw_aload_n rfl rfl ?_
      refine pw_iload_n rfl rfl ?_
      refine px_callv (as := [.inr (some (103)), .inl (nI (p))]) (rest := []) rfl rfl (by decide) rfl (Nat.le_of_ble_eq_true rfl) (Nat.le_of_ble_eq_true rfl) (Nat.le_of_ble_eq_true rfl) (Nat.le_of_ble_eq_true rfl) rfl rfl rfl rfl ?_
      refine t_shut hp ?_
      show pw pP mSBModel_close (33, [some (.inr (some (103))), some (.inl (nI (p)))], [], 0, 0, hb (sL L) F (shut_G G p) R sO) _
      refine pw_iconst (v := nI (1)) rfl (by decide) ?_
      exact pw_iret rfl rfl (Nat.zero_le _) (Nat.zero_le _) rfl (by simp only [close_r, close_G, c1, c2, if_true, if_false] at k; exact k)
    · -- 26
      refine pw_iconst (v := nI (0)) rfl (by decide) ?_
      exact pw_iret rfl rfl (Nat.zero_le _) (Nat.zero_le _) rfl (by simp only [close_r, close_G, c1, c2, if_true, if_false] at k; exact k)
/-- SBModel_finish -/
def finish_r (F : FN) : Int32 := (if ¬ F (103) (6) = 0 then nI (0) else nI (1))
/-- SBModel_finish -/
def finish_F (F : FN) : FN := (up2 F (103) (6) (nI (1)))
theorem t_finish {L : Nat} {F G : FN} {R : RN} {Q : Option PV → PH → Prop} (k : Q (some (.inl (finish_r F))) (hb (sL L) (finish_F F) G R sO)) : pz pP mSBModel_finish [.inr (some (103))] (hb (sL L) F G R sO) Q := by
  show pw pP mSBModel_finish (0, [some (.inr (some (103))), none], [], 0, 0, hb (sL L) F G R sO) _
  refine pw_aload_n rfl rfl ?_
  refine px_getv (x := F (103) (6)) rfl rfl rfl rfl (rfl) ?_
  refine pw_istore_n (ls1 := [some (.inr (some (103))), some (.inl (F (103) (6)))]) rfl (Nat.le_of_ble_eq_true rfl) rfl ?_
  refine pw_aload_n rfl rfl ?_
  refine pw_iconst (v := nI (1)) rfl (by decide) ?_
  refine px_put rfl rfl rfl rfl rfl ?_
  refine pw_iload_n rfl rfl ?_
  refine pw_if1p (A := ¬ F (103) (6) = 0) rfl rfl (t := 18) rfl (fun c1 => ?_) (fun c1 => ?_)
  · -- 18
    refine pw_iconst (v := nI (0)) rfl (by decide) ?_
    exact pw_iret rfl rfl (Nat.zero_le _) (Nat.zero_le _) rfl (by simp only [finish_r, finish_F, c1, if_true, if_false] at k; exact k)
  · -- 14
    refine pw_iconst (v := nI (1)) rfl (by decide) ?_
    refine pw_goto (t := 19) rfl rfl ?_
    exact pw_iret rfl rfl (Nat.zero_le _) (Nat.zero_le _) rfl (by simp only [finish_r, finish_F, c1, if_true, if_false] at k; exact k)
/-- SBModel_read -/
def read_r (F G : FN) (nx : Nat) : Int32 := (if 400 < nx then (-1) else (if ¬ G (106) (nx) = 0 then (if F (103) (6) = 0 then G (104) (nx + 1 - 1) else (if ¬ nI (nx) = F (103) (5) then G (104) (nx + 1 - 1) else (-2))) else (-1)))
/-- SBModel_read -/
def read_F (F G : FN) (nx : Nat) : FN := (if 400 < nx then F else (if ¬ G (106) (nx) = 0 then (if F (103) (6) = 0 then (up2 F (103) (10) (nI (nx + 1))) else (if ¬ nI (nx) = F (103) (5) then (up2 F (103) (10) (nI (nx + 1))) else F)) else F))
theorem t_read {L nx : Nat} {F G : FN} {R : RN} (hn : F 103 10 = nI nx) (hn4 : nx ≤ 401) (hx : nx ≤ 400 → ¬ G 106 nx = 0 → (F 103 6 = 0 ∨ ¬ nI nx = F 103 5) → nx < 400) {Q : Option PV → PH → Prop} (k : Q (some (.inl (read_r F G nx))) (hb (sL L) (read_F F G nx) G R sO)) : pz pP mSBModel_read [.inr (some (103))] (hb (sL L) F G R sO) Q := by
  show pw pP mSBModel_read (0, [some (.inr (some (103)))], [], 0, 0, hb (sL L) F G R sO) _
  refine pw_aload_n rfl rfl ?_
  refine px_getv (x := nI (nx)) rfl rfl rfl rfl (hn) ?_
  refine pw_sipush (v := nI (400)) rfl (by decide) ?_
  refine pw_if2p (cn_gt (by omega) (by omega)) rfl (t := 22) rfl (fun c1 => ?_) (fun c1 => ?_)
  · -- 22
    refine pw_iconst (v := (-1)) rfl (by decide) ?_
    exact pw_iret rfl rfl (Nat.zero_le _) (Nat.zero_le _) rfl (by simp only [read_r, read_F, c1, if_true, if_false] at k; exact k)
  · -- 10
    refine pw_aload_n rfl rfl ?_
    refine px_getr (r := some (106)) rfl rfl rfl rfl rfl ?_
    refine pw_aload_n rfl rfl ?_
    refine px_getv (x := nI (nx)) rfl rfl rfl rfl (hn) ?_
    refine px_zaldn (x := G (106) (nx)) rfl rfl (by omega) (by decide) (rfl) ?_
    refine pw_if1p (A := ¬ G (106) (nx) = 0) rfl rfl (t := 24) rfl (fun c2 => ?_) (fun c2 => ?_)
    · -- 24
      refine pw_aload_n rfl rfl ?_
      refine px_getv (x := F (103) (6)) rfl rfl rfl rfl (rfl) ?_
      refine pw_if1p (A := F (103) (6) = 0) rfl rfl (t := 45) rfl (fun c3 => ?_) (fun c3 => ?_)
      · -- 45
        have hx2 : nx < 400 := hx (by omega) (by first | exact c2 | assumption) (by first | exact Or.inl c3 | exact Or.inr c4)
        refine pw_aload_n rfl rfl ?_
        refine pw_dup rfl ?_
        refine px_getv (x := nI (nx)) rfl rfl rfl rfl (hn) ?_
        refine pw_iconst (v := nI (1)) rfl (by decide) ?_
        refine pw_iadd (z := nI (nx + 1)) rfl (nI_add _ _) ?_
        refine px_put rfl rfl rfl rfl rfl ?_
        refine pw_aload_n rfl rfl ?_
        refine px_getr (r := some (104)) rfl rfl rfl rfl rfl ?_
        refine pw_aload_n rfl rfl ?_
        refine px_getv (x := nI (nx + 1)) rfl rfl rfl rfl (up2_eq) ?_
        refine pw_iconst (v := nI (1)) rfl (by decide) ?_
        refine pw_isub (z := nI (nx + 1 - 1)) rfl (pk_sub (by omega)) ?_
        refine px_ialdn (x := G (104) (nx + 1 - 1)) rfl rfl (by omega) (by decide) (rfl) ?_
        exact pw_iret rfl rfl (Nat.zero_le _) (Nat.zero_le _) rfl (by simp only [read_r, read_F, c1, c2, c3, if_true, if_false] at k; exact k)
      · -- 31
        refine pw_aload_n rfl rfl ?_
        refine px_getv (x := nI (nx)) rfl rfl rfl rfl (hn) ?_
        refine pw_aload_n rfl rfl ?_
        refine px_getv (x := F (103) (5)) rfl rfl rfl rfl (rfl) ?_
        refine pw_if2p (A := ¬ nI (nx) = F (103) (5)) rfl rfl (t := 45) rfl (fun c4 => ?_) (fun c4 => ?_)
        · -- 45
          have hx2 : nx < 400 := hx (by omega) (by first | exact c2 | assumption) (by first | exact Or.inl c3 | exact Or.inr c4)
          refine pw_aload_n rfl rfl ?_
          refine pw_dup rfl ?_
          refine px_getv (x := nI (nx)) rfl rfl rfl rfl (hn) ?_
          refine pw_iconst (v := nI (1)) rfl (by decide) ?_
          refine pw_iadd (z := nI (nx + 1)) rfl (nI_add _ _) ?_
          refine px_put rfl rfl rfl rfl rfl ?_
          refine pw_aload_n rfl rfl ?_
          refine px_getr (r := some (104)) rfl rfl rfl rfl rfl ?_
          refine pw_aload_n rfl rfl ?_
          refine px_getv (x := nI (nx + 1)) rfl rfl rfl rfl (up2_eq) ?_
          refine pw_iconst (v := nI (1)) rfl (by decide) ?_
          refine pw_isub (z := nI (nx + 1 - 1)) rfl (pk_sub (by omega)) ?_
          refine px_ialdn (x := G (104) (nx + 1 - 1)) rfl rfl (by omega) (by decide) (rfl) ?_
          exact pw_iret rfl rfl (Nat.zero_le _) (Nat.zero_le _) rfl (by simp only [read_r, read_F, c1, c2, c3, c4, if_true, if_false] at k; exact k)
        · -- 42
          refine pw_bipush (v := (-2)) rfl (by decide) ?_
          exact pw_iret rfl rfl (Nat.zero_le _) (Nat.zero_le _) rfl (by simp only [read_r, read_F, c1, c2, c3, c4, if_true, if_false] at k; exact k)
    · -- 22
      refine pw_iconst (v := (-1)) rfl (by decide) ?_
      exact pw_iret rfl rfl (Nat.zero_le _) (Nat.zero_le _) rfl (by simp only [read_r, read_F, c1, c2, if_true, if_false] at k; exact k)
end
section
/-! THE REFERENCE, fifth part: sending. Rows laid by a program (wip/whole/gen/twin5.py). -/
/-- SBModel_transmit -/
def trans_G (F G : FN) (p f fl : Nat) : FN := (if ¬ f = 0 then (if F (103) (6) = 0 then (tship F (up2 (up2 G (121) (402 * p + f) ((G (121) (402 * p + f)) + (nI (1)))) (117) (p) ((G (117) (p)) + (nI (1)))) (2 * p) fl (nI (1)) (nI (f)) (G (118) (402 * p + f)) (nI (0)) (G (119) (402 * p + f))) else (if ¬ ((G (118) (402 * p + f)) + (G (119) (402 * p + f))) - (nI (1)) = F (103) (5) then (tship F (up2 (up2 G (121) (402 * p + f) ((G (121) (402 * p + f)) + (nI (1)))) (117) (p) ((G (117) (p)) + (nI (1)))) (2 * p) fl (nI (1)) (nI (f)) (G (118) (402 * p + f)) (nI (0)) (G (119) (402 * p + f))) else (tship F (up2 (up2 G (121) (402 * p + f) ((G (121) (402 * p + f)) + (nI (1)))) (117) (p) ((G (117) (p)) + (nI (1)))) (2 * p) fl (nI (1)) (nI (f)) (G (118) (402 * p + f)) (nI (1)) (G (119) (402 * p + f))))) else (tship F (up2 (up2 G (121) (402 * p + f) ((G (121) (402 * p + f)) + (nI (1)))) (117) (p) ((G (117) (p)) + (nI (1)))) (2 * p) fl (nI (0)) (nI (0)) (G (109) (p)) (nI (0)) (nI (0))))
theorem t_trans {L p f fl : Nat} {F G : FN} {R : RN} (hp : p < 4) (hf : f < 402) (hfl : G 124 (2 * p) = nI fl) (hf6 : fl ≤ 6) {Q : Option PV → PH → Prop} (k : Q none (hb (sL L) F (trans_G F G p f fl) R sO)) : pz pP mSBModel_transmit [.inr (some (103)), .inl (nI (p)), .inl (nI (f))] (hb (sL L) F G R sO) Q := by
  show pw pP mSBModel_transmit (0, [some (.inr (some (103))), some (.inl (nI (p))), some (.inl (nI (f))), none, none, none], [], 0, 0, hb (sL L) F G R sO) _
  refine pw_sipush (v := nI (402)) rfl (by decide) ?_
  refine pw_iload_n rfl rfl ?_
  refine pw_imul (z := nI (402 * p)) rfl (pk_mul _ _) ?_
  refine pw_iload_n rfl rfl ?_
  refine pw_iadd (z := nI (402 * p + f)) rfl (nI_add _ _) ?_
  refine pw_istore_n (ls1 := [some (.inr (some (103))), some (.inl (nI (p))), some (.inl (nI (f))), some (.inl (nI (402 * p + f))), none, none]) rfl (Nat.le_of_ble_eq_true rfl) rfl ?_
  refine pw_aload_n rfl rfl ?_
  refine px_getr (r := some (121)) rfl rfl rfl rfl rfl ?_
  refine pw_iload_n rfl rfl ?_
  refine pw_dup2 rfl ?_
  refine px_ialdn (x := G (121) (402 * p + f)) rfl rfl (by omega) (by decide) (rfl) ?_
  refine pw_iconst (v := nI (1)) rfl (by decide) ?_
  refine pw_iadd (z := (G (121) (402 * p + f)) + (nI (1))) rfl rfl ?_
  refine px_iastn rfl rfl (by omega) (by decide) ?_
  refine pw_aload_n rfl rfl ?_
  refine px_getr (r := some (117)) rfl rfl rfl rfl rfl ?_
  refine pw_iload_n rfl rfl ?_
  refine pw_dup2 rfl ?_
  refine px_ialdn (x := G (117) (p)) rfl rfl (by omega) (by decide) (up2_ne1 (by decide)) ?_
  refine pw_iconst (v := nI (1)) rfl (by decide) ?_
  refine pw_iadd (z := (G (117) (p)) + (nI (1))) rfl rfl ?_
  refine px_iastn rfl rfl (by omega) (by decide) ?_
  refine pw_iload_n rfl rfl ?_
  refine pw_if1p (cz_ne (by omega)) rfl (t := 52) rfl (fun c1 => ?_) (fun c1 => ?_)
  · -- 52
    refine pw_aload_n rfl rfl ?_
    refine px_getr (r := some (119)) rfl rfl rfl rfl rfl ?_
    refine pw_iload_n rfl rfl ?_
    refine px_ialdn (x := G (119) (402 * p + f)) rfl rfl (by omega) (by decide) ((up2_ne1 (by decide)).trans (up2_ne1 (by decide))) ?_
    refine pw_istore (ls1 := [some (.inr (some (103))), some (.inl (nI (p))), some (.inl (nI (f))), some (.inl (nI (402 * p + f))), some (.inl (G (119) (402 * p + f))), none]) rfl (Nat.le_of_ble_eq_true rfl) rfl ?_
    refine pw_aload_n rfl rfl ?_
    refine px_getv (x := F (103) (6)) rfl rfl rfl rfl (rfl) ?_
    refine pw_if1p (A := F (103) (6) = 0) rfl rfl (t := 89) rfl (fun c2 => ?_) (fun c2 => ?_)
    · -- 89
      refine pw_iconst (v := nI (0)) rfl (by decide) ?_
      refine pw_istore (ls1 := [some (.inr (some (103))), some (.inl (nI (p))), some (.inl (nI (f))), some (.inl (nI (402 * p + f))), some (.inl (G (119) (402 * p + f))), some (.inl (nI (0)))]) rfl (Nat.le_of_ble_eq_true rfl) rfl ?_
      refine pw_aload_n rfl rfl ?_
      refine pw_iconst (v := nI (2)) rfl (by decide) ?_
      refine pw_iload_n rfl rfl ?_
      refine pw_imul (z := nI (2 * p)) rfl (pk_mul _ _) ?_
      refine pw_iconst (v := nI (1)) rfl (by decide) ?_
      refine pw_iload_n rfl rfl ?_
      refine pw_aload_n rfl rfl ?_
      refine px_getr (r := some (118)) rfl rfl rfl rfl rfl ?_
      refine pw_iload_n rfl rfl ?_
      refine px_ialdn (x := G (118) (402 * p + f)) rfl rfl (by omega) (by decide) ((up2_ne1 (by decide)).trans (up2_ne1 (by decide))) ?_
      refine pw_iload rfl rfl ?_
      refine pw_if1 (t := 113) rfl rfl (fun _ => ?_) (fun q => absurd q (by decide))
      refine pw_iconst (v := nI (0)) rfl (by decide) ?_
      refine pw_iload rfl rfl ?_
      refine px_callv (as := [.inr (some (103)), .inl (nI (2 * p)), .inl (nI (1)), .inl (nI (f)), .inl (G (118) (402 * p + f)), .inl (nI (0)), .inl (G (119) (402 * p + f))]) (rest := []) rfl rfl (by decide) rfl (Nat.le_of_ble_eq_true rfl) (Nat.le_of_ble_eq_true rfl) (Nat.le_of_ble_eq_true rfl) (Nat.le_of_ble_eq_true rfl) rfl rfl rfl rfl ?_
      refine t_ship (by omega) (((up2_ne1 (by decide)).trans (up2_ne1 (by decide))).trans (hfl)) hf6 ?_
      show pw pP mSBModel_transmit (119, [some (.inr (some (103))), some (.inl (nI (p))), some (.inl (nI (f))), some (.inl (nI (402 * p + f))), some (.inl (G (119) (402 * p + f))), some (.inl (nI (0)))], [], 0, 0, hb (sL L) F (tship F (up2 (up2 G (121) (402 * p + f) ((G (121) (402 * p + f)) + (nI (1)))) (117) (p) ((G (117) (p)) + (nI (1)))) (2 * p) fl (nI (1)) (nI (f)) (G (118) (402 * p + f)) (nI (0)) (G (119) (402 * p + f))) R sO) _
      exact pw_vret rfl rfl (Nat.zero_le _) (Nat.zero_le _) (by simp only [trans_G, c1, c2, if_true, if_false] at k; exact k)
    · -- 67
      refine pw_aload_n rfl rfl ?_
      refine px_getr (r := some (118)) rfl rfl rfl rfl rfl ?_
      refine pw_iload_n rfl rfl ?_
      refine px_ialdn (x := G (118) (402 * p + f)) rfl rfl (by omega) (by decide) ((up2_ne1 (by decide)).trans (up2_ne1 (by decide))) ?_
      refine pw_iload rfl rfl ?_
      refine pw_iadd (z := (G (118) (402 * p + f)) + (G (119) (402 * p + f))) rfl rfl ?_
      refine pw_iconst (v := nI (1)) rfl (by decide) ?_
      refine pw_isub (z := ((G (118) (402 * p + f)) + (G (119) (402 * p + f))) - (nI (1))) rfl rfl ?_
      refine pw_aload_n rfl rfl ?_
      refine px_getv (x := F (103) (5)) rfl rfl rfl rfl (rfl) ?_
      refine pw_if2p (A := ¬ ((G (118) (402 * p + f)) + (G (119) (402 * p + f))) - (nI (1)) = F (103) (5)) rfl rfl (t := 89) rfl (fun c3 => ?_) (fun c3 => ?_)
      · -- 89
        refine pw_iconst (v := nI (0)) rfl (by decide) ?_
        refine pw_istore (ls1 := [some (.inr (some (103))), some (.inl (nI (p))), some (.inl (nI (f))), some (.inl (nI (402 * p + f))), some (.inl (G (119) (402 * p + f))), some (.inl (nI (0)))]) rfl (Nat.le_of_ble_eq_true rfl) rfl ?_
        refine pw_aload_n rfl rfl ?_
        refine pw_iconst (v := nI (2)) rfl (by decide) ?_
        refine pw_iload_n rfl rfl ?_
        refine pw_imul (z := nI (2 * p)) rfl (pk_mul _ _) ?_
        refine pw_iconst (v := nI (1)) rfl (by decide) ?_
        refine pw_iload_n rfl rfl ?_
        refine pw_aload_n rfl rfl ?_
        refine px_getr (r := some (118)) rfl rfl rfl rfl rfl ?_
        refine pw_iload_n rfl rfl ?_
        refine px_ialdn (x := G (118) (402 * p + f)) rfl rfl (by omega) (by decide) ((up2_ne1 (by decide)).trans (up2_ne1 (by decide))) ?_
        refine pw_iload rfl rfl ?_
        refine pw_if1 (t := 113) rfl rfl (fun _ => ?_) (fun q => absurd q (by decide))
        refine pw_iconst (v := nI (0)) rfl (by decide) ?_
        refine pw_iload rfl rfl ?_
        refine px_callv (as := [.inr (some (103)), .inl (nI (2 * p)), .inl (nI (1)), .inl (nI (f)), .inl (G (118) (402 * p + f)), .inl (nI (0)), .inl (G (119) (402 * p + f))]) (rest := []) rfl rfl (by decide) rfl (Nat.le_of_ble_eq_true rfl) (Nat.le_of_ble_eq_true rfl) (Nat.le_of_ble_eq_true rfl) (Nat.le_of_ble_eq_true rfl) rfl rfl rfl rfl ?_
        refine t_ship (by omega) (((up2_ne1 (by decide)).trans (up2_ne1 (by decide))).trans (hfl)) hf6 ?_
        show pw pP mSBModel_transmit (119, [some (.inr (some (103))), some (.inl (nI (p))), some (.inl (nI (f))), some (.inl (nI (402 * p + f))), some (.inl (G (119) (402 * p + f))), some (.inl (nI (0)))], [], 0, 0, hb (sL L) F (tship F (up2 (up2 G (121) (402 * p + f) ((G (121) (402 * p + f)) + (nI (1)))) (117) (p) ((G (117) (p)) + (nI (1)))) (2 * p) fl (nI (1)) (nI (f)) (G (118) (402 * p + f)) (nI (0)) (G (119) (402 * p + f))) R sO) _
        exact pw_vret rfl rfl (Nat.zero_le _) (Nat.zero_le _) (by simp only [trans_G, c1, c2, c3, if_true, if_false] at k; exact k)
      · -- 85
        refine pw_iconst (v := nI (1)) rfl (by decide) ?_
        refine pw_goto (t := 90) rfl rfl ?_
        refine pw_istore (ls1 := [some (.inr (some (103))), some (.inl (nI (p))), some (.inl (nI (f))), some (.inl (nI (402 * p + f))), some (.inl (G (119) (402 * p + f))), some (.inl (nI (1)))]) rfl (Nat.le_of_ble_eq_true rfl) rfl ?_
        refine pw_aload_n rfl rfl ?_
        refine pw_iconst (v := nI (2)) rfl (by decide) ?_
        refine pw_iload_n rfl rfl ?_
        refine pw_imul (z := nI (2 * p)) rfl (pk_mul _ _) ?_
        refine pw_iconst (v := nI (1)) rfl (by decide) ?_
        refine pw_iload_n rfl rfl ?_
        refine pw_aload_n rfl rfl ?_
        refine px_getr (r := some (118)) rfl rfl rfl rfl rfl ?_
        refine pw_iload_n rfl rfl ?_
        refine px_ialdn (x := G (118) (402 * p + f)) rfl rfl (by omega) (by decide) ((up2_ne1 (by decide)).trans (up2_ne1 (by decide))) ?_
        refine pw_iload rfl rfl ?_
        refine pw_if1 (t := 113) rfl rfl (fun q => absurd q (by decide)) (fun _ => ?_)
        refine pw_iconst (v := nI (1)) rfl (by decide) ?_
        refine pw_goto (t := 114) rfl rfl ?_
        refine pw_iload rfl rfl ?_
        refine px_callv (as := [.inr (some (103)), .inl (nI (2 * p)), .inl (nI (1)), .inl (nI (f)), .inl (G (118) (402 * p + f)), .inl (nI (1)), .inl (G (119) (402 * p + f))]) (rest := []) rfl rfl (by decide) rfl (Nat.le_of_ble_eq_true rfl) (Nat.le_of_ble_eq_true rfl) (Nat.le_of_ble_eq_true rfl) (Nat.le_of_ble_eq_true rfl) rfl rfl rfl rfl ?_
        refine t_ship (by omega) (((up2_ne1 (by decide)).trans (up2_ne1 (by decide))).trans (hfl)) hf6 ?_
        show pw pP mSBModel_transmit (119, [some (.inr (some (103))), some (.inl (nI (p))), some (.inl (nI (f))), some (.inl (nI (402 * p + f))), some (.inl (G (119) (402 * p + f))), some (.inl (nI (1)))], [], 0, 0, hb (sL L) F (tship F (up2 (up2 G (121) (402 * p + f) ((G (121) (402 * p + f)) + (nI (1)))) (117) (p) ((G (117) (p)) + (nI (1)))) (2 * p) fl (nI (1)) (nI (f)) (G (118) (402 * p + f)) (nI (1)) (G (119) (402 * p + f))) R sO) _
        exact pw_vret rfl rfl (Nat.zero_le _) (Nat.zero_le _) (by simp only [trans_G, c1, c2, c3, if_true, if_false] at k; exact k)
  · -- 32
    refine pw_aload_n rfl rfl ?_
    refine pw_iconst (v := nI (2)) rfl (by decide) ?_
    refine pw_iload_n rfl rfl ?_
    refine pw_imul (z := nI (2 * p)) rfl (pk_mul _ _) ?_
    refine pw_iconst (v := nI (0)) rfl (by decide) ?_
    refine pw_iconst (v := nI (0)) rfl (by decide) ?_
    refine pw_aload_n rfl rfl ?_
    refine px_getr (r := some (109)) rfl rfl rfl rfl rfl ?_
    refine pw_iload_n rfl rfl ?_
    refine px_ialdn (x := G (109) (p)) rfl rfl (by omega) (by decide) ((up2_ne1 (by decide)).trans (up2_ne1 (by decide))) ?_
    refine pw_iconst (v := nI (0)) rfl (by decide) ?_
    refine pw_iconst (v := nI (0)) rfl (by decide) ?_
    refine px_callv (as := [.inr (some (103)), .inl (nI (2 * p)), .inl (nI (0)), .inl (nI (0)), .inl (G (109) (p)), .inl (nI (0)), .inl (nI (0))]) (rest := []) rfl rfl (by decide) rfl (Nat.le_of_ble_eq_true rfl) (Nat.le_of_ble_eq_true rfl) (Nat.le_of_ble_eq_true rfl) (Nat.le_of_ble_eq_true rfl) rfl rfl rfl rfl ?_
    refine t_ship (by omega) (((up2_ne1 (by decide)).trans (up2_ne1 (by decide))).trans (hfl)) hf6 ?_
    show pw pP mSBModel_transmit (49, [some (.inr (some (103))), some (.inl (nI (p))), some (.inl (nI (f))), some (.inl (nI (402 * p + f))), none, none], [], 0, 0, hb (sL L) F (tship F (up2 (up2 G (121) (402 * p + f) ((G (121) (402 * p + f)) + (nI (1)))) (117) (p) ((G (117) (p)) + (nI (1)))) (2 * p) fl (nI (0)) (nI (0)) (G (109) (p)) (nI (0)) (nI (0))) R sO) _
    refine pw_goto (t := 119) rfl rfl ?_
    exact pw_vret rfl rfl (Nat.zero_le _) (Nat.zero_le _) (by simp only [trans_G, c1, if_true, if_false] at k; exact k)
def tbF (F G : FN) (a : Nat) : FN := if G 123 a = 0 then up2 F 103 24 (F 103 24) else up2 F 103 24 (F 103 24 + nI 1)
/-- the unit u + j is carried with the number hi + j on the path p -/
def tb1 (p u hi j : Nat) (X : FN × FN) : FN × FN := (tbF X.1 X.2 (u + j), up2 (up2 (up2 X.2 118 (402 * p + hi + j) (nI (u + j))) 123 (u + j) (nI 1)) 122 (402 * p + u + j) (nI (hi + j)))
def tbn (p u hi : Nat) : Nat → Nat → FN × FN → FN × FN
  | 0, _, X => X
  | n + 1, j, X => tbn p u hi n (j + 1) (tb1 p u hi j X)
theorem t_begin_lp {L p u m hi : Nat} {R : RN} {Q : Option PV → PH → Prop} (hp : p < 4) (hu : u + m ≤ 401) (hh : hi + m ≤ 402) : ∀ (n j : Nat) (X : FN × FN), j + n = m → pw pP mSBModel_begin (129, [some (.inr (some (103))), some (.inl (nI (p))), some (.inl (nI (u))), some (.inl (nI (m))), some (.inl (nI (hi))), some (.inl (nI (402 * p + hi))), some (.inl (nI (m)))], [], 0, 0, hb (sL L) (tbn p u hi n j X).1 (tbn p u hi n j X).2 R sO) Q → pw pP mSBModel_begin (40, [some (.inr (some (103))), some (.inl (nI (p))), some (.inl (nI (u))), some (.inl (nI (m))), some (.inl (nI (hi))), some (.inl (nI (402 * p + hi))), some (.inl (nI (j)))], [], 0, 0, hb (sL L) X.1 X.2 R sO) Q := by
  intro n
  induction n with
  | zero =>
    intro j X hn k
    have e : j = m := by omega
    subst e
    refine pw_iload rfl rfl ?_
    refine pw_iload_n rfl rfl ?_
    refine pw_if2p (cn_ge (by omega) (by omega)) rfl (t := 129) rfl (fun c1 => ?_) (fun c1 => ?_)
    · -- 129
      exact k
    · -- 46
      exact absurd c1 (by omega)
  | succ n ih =>
    intro j X hn k
    refine pw_iload rfl rfl ?_
    refine pw_iload_n rfl rfl ?_
    refine pw_if2p (cn_ge (by omega) (by omega)) rfl (t := 129) rfl (fun c1 => ?_) (fun c1 => ?_)
    · -- 129
      exact absurd c1 (by omega)
    · -- 46
      refine pw_aload_n rfl rfl ?_
      refine px_getr (r := some (118)) rfl rfl rfl rfl rfl ?_
      refine pw_iload rfl rfl ?_
      refine pw_iload rfl rfl ?_
      refine pw_iadd (z := nI (402 * p + hi + j)) rfl (nI_add _ _) ?_
      refine pw_iload_n rfl rfl ?_
      refine pw_iload rfl rfl ?_
      refine pw_iadd (z := nI (u + j)) rfl (nI_add _ _) ?_
      refine px_iastn rfl rfl (by omega) (by decide) ?_
      refine pw_iload_n rfl rfl ?_
      refine pw_if1p (cz_lt (by omega)) rfl (t := 123) rfl (fun q => absurd q (by omega)) (fun _ => ?_)
      refine pw_aload_n rfl rfl ?_
      refine pw_aload_n rfl rfl ?_
      refine px_getr (r := some (123)) rfl rfl rfl rfl rfl ?_
      refine pw_iload_n rfl rfl ?_
      refine pw_iload rfl rfl ?_
      refine pw_iadd (z := nI (u + j)) rfl (nI_add _ _) ?_
      refine px_zaldn (x := X.2 (123) (u + j)) rfl rfl (by omega) (by decide) (up2_ne1 (by decide)) ?_
      refine pw_if1p (A := X.2 (123) (u + j) = 0) rfl rfl (t := 86) rfl (fun c2 => ?_) (fun c2 => ?_)
      · -- 86
        refine pw_aload_n rfl rfl ?_
        refine px_getv (x := X.1 (103) (24)) rfl rfl rfl rfl (rfl) ?_
        refine px_put rfl rfl rfl rfl rfl ?_
        refine pw_aload_n rfl rfl ?_
        refine px_getr (r := some (123)) rfl rfl rfl rfl rfl ?_
        refine pw_iload_n rfl rfl ?_
        refine pw_iload rfl rfl ?_
        refine pw_iadd (z := nI (u + j)) rfl (nI_add _ _) ?_
        refine pw_iconst (v := nI (1)) rfl (by decide) ?_
        refine px_zastn (x1 := nI (1)) rfl rfl (by omega) (by decide) (by decide) ?_
        refine pw_aload_n rfl rfl ?_
        refine px_getr (r := some (122)) rfl rfl rfl rfl rfl ?_
        refine pw_sipush (v := nI (402)) rfl (by decide) ?_
        refine pw_iload_n rfl rfl ?_
        refine pw_imul (z := nI (402 * p)) rfl (pk_mul _ _) ?_
        refine pw_iload_n rfl rfl ?_
        refine pw_iadd (z := nI (402 * p + u)) rfl (nI_add _ _) ?_
        refine pw_iload rfl rfl ?_
        refine pw_iadd (z := nI (402 * p + u + j)) rfl (nI_add _ _) ?_
        refine pw_iload rfl rfl ?_
        refine pw_iload rfl rfl ?_
        refine pw_iadd (z := nI (hi + j)) rfl (nI_add _ _) ?_
        refine px_iastn rfl rfl (by omega) (by decide) ?_
        refine pw_iinc (v := nI (j + 1)) (ls1 := [some (.inr (some (103))), some (.inl (nI (p))), some (.inl (nI (u))), some (.inl (nI (m))), some (.inl (nI (hi))), some (.inl (nI (402 * p + hi))), some (.inl (nI (j + 1)))]) rfl rfl (iinc_n _) rfl ?_
        refine pw_goto (t := 40) rfl rfl ?_
        have h := ih (j + 1) (tb1 p u hi j X) (by omega) k
        simp only [tb1, tbF, c2, if_true, if_false] at h
        exact h
      · -- 77
        refine pw_aload_n rfl rfl ?_
        refine px_getv (x := X.1 (103) (24)) rfl rfl rfl rfl (rfl) ?_
        refine pw_iconst (v := nI (1)) rfl (by decide) ?_
        refine pw_iadd (z := (X.1 (103) (24)) + (nI (1))) rfl rfl ?_
        refine pw_goto (t := 90) rfl rfl ?_
        refine px_put rfl rfl rfl rfl rfl ?_
        refine pw_aload_n rfl rfl ?_
        refine px_getr (r := some (123)) rfl rfl rfl rfl rfl ?_
        refine pw_iload_n rfl rfl ?_
        refine pw_iload rfl rfl ?_
        refine pw_iadd (z := nI (u + j)) rfl (nI_add _ _) ?_
        refine pw_iconst (v := nI (1)) rfl (by decide) ?_
        refine px_zastn (x1 := nI (1)) rfl rfl (by omega) (by decide) (by decide) ?_
        refine pw_aload_n rfl rfl ?_
        refine px_getr (r := some (122)) rfl rfl rfl rfl rfl ?_
        refine pw_sipush (v := nI (402)) rfl (by decide) ?_
        refine pw_iload_n rfl rfl ?_
        refine pw_imul (z := nI (402 * p)) rfl (pk_mul _ _) ?_
        refine pw_iload_n rfl rfl ?_
        refine pw_iadd (z := nI (402 * p + u)) rfl (nI_add _ _) ?_
        refine pw_iload rfl rfl ?_
        refine pw_iadd (z := nI (402 * p + u + j)) rfl (nI_add _ _) ?_
        refine pw_iload rfl rfl ?_
        refine pw_iload rfl rfl ?_
        refine pw_iadd (z := nI (hi + j)) rfl (nI_add _ _) ?_
        refine px_iastn rfl rfl (by omega) (by decide) ?_
        refine pw_iinc (v := nI (j + 1)) (ls1 := [some (.inr (some (103))), some (.inl (nI (p))), some (.inl (nI (u))), some (.inl (nI (m))), some (.inl (nI (hi))), some (.inl (nI (402 * p + hi))), some (.inl (nI (j + 1)))]) rfl rfl (iinc_n _) rfl ?_
        refine pw_goto (t := 40) rfl rfl ?_
        have h := ih (j + 1) (tb1 p u hi j X) (by omega) k
        simp only [tb1, tbF, c2, if_true, if_false] at h
        exact h
def bend (F G : FN) (p m hi fl : Nat) : FN := (if ¬ G (111) (p) = 0 then (trans_G F (up2 G (116) (p) (nI (hi + m))) p (hi) fl) else (trans_G F (up2 (up2 G (116) (p) (nI (hi + m))) (111) (p) ((F (103) (3)) + (G (110) (p)))) p (hi) fl))
theorem t_bend {L p u m hi fl : Nat} {F G : FN} {R : RN} (hp : p < 4) (hh : hi < 402) (hfl : G 124 (2 * p) = nI fl) (hf6 : fl ≤ 6) {Q : Option PV → PH → Prop} (k : Q none (hb (sL L) F (bend F G p m hi fl) R sO)) : pw pP mSBModel_begin (129, [some (.inr (some (103))), some (.inl (nI (p))), some (.inl (nI (u))), some (.inl (nI (m))), some (.inl (nI (hi))), some (.inl (nI (402 * p + hi))), some (.inl (nI (m)))], [], 0, 0, hb (sL L) F G R sO) Q := by
  refine pw_aload_n rfl rfl ?_
  refine px_getr (r := some (116)) rfl rfl rfl rfl rfl ?_
  refine pw_iload_n rfl rfl ?_
  refine pw_iload rfl rfl ?_
  refine pw_iload_n rfl rfl ?_
  refine pw_iadd (z := nI (hi + m)) rfl (nI_add _ _) ?_
  refine px_iastn rfl rfl (by omega) (by decide) ?_
  refine pw_aload_n rfl rfl ?_
  refine px_getr (r := some (111)) rfl rfl rfl rfl rfl ?_
  refine pw_iload_n rfl rfl ?_
  refine px_ialdn (x := G (111) (p)) rfl rfl (by omega) (by decide) (up2_ne1 (by decide)) ?_
  refine pw_if1p (A := ¬ G (111) (p) = 0) rfl rfl (t := 165) rfl (fun c1 => ?_) (fun c1 => ?_)
  · -- 165
    refine pw_aload_n rfl rfl ?_
    refine pw_iload_n rfl rfl ?_
    refine pw_iload rfl rfl ?_
    refine px_callv (as := [.inr (some (103)), .inl (nI (p)), .inl (nI (hi))]) (rest := []) rfl rfl (by decide) rfl (Nat.le_of_ble_eq_true rfl) (Nat.le_of_ble_eq_true rfl) (Nat.le_of_ble_eq_true rfl) (Nat.le_of_ble_eq_true rfl) rfl rfl rfl rfl ?_
    refine t_trans hp (by omega) ((up2_ne1 (by decide)).trans (hfl)) hf6 ?_
    show pw pP mSBModel_begin (172, [some (.inr (some (103))), some (.inl (nI (p))), some (.inl (nI (u))), some (.inl (nI (m))), some (.inl (nI (hi))), some (.inl (nI (402 * p + hi))), some (.inl (nI (m)))], [], 0, 0, hb (sL L) F (trans_G F (up2 G (116) (p) (nI (hi + m))) p (hi) fl) R sO) _
    exact pw_vret rfl rfl (Nat.zero_le _) (Nat.zero_le _) (by simp only [bend, c1, if_true, if_false] at k; exact k)
  · -- 148
    refine pw_aload_n rfl rfl ?_
    refine px_getr (r := some (111)) rfl rfl rfl rfl rfl ?_
    refine pw_iload_n rfl rfl ?_
    refine pw_aload_n rfl rfl ?_
    refine px_getv (x := F (103) (3)) rfl rfl rfl rfl (rfl) ?_
    refine pw_aload_n rfl rfl ?_
    refine px_getr (r := some (110)) rfl rfl rfl rfl rfl ?_
    refine pw_iload_n rfl rfl ?_
    refine px_ialdn (x := G (110) (p)) rfl rfl (by omega) (by decide) (up2_ne1 (by decide)) ?_
    refine pw_iadd (z := (F (103) (3)) + (G (110) (p))) rfl rfl ?_
    refine px_iastn rfl rfl (by omega) (by decide) ?_
    refine pw_aload_n rfl rfl ?_
    refine pw_iload_n rfl rfl ?_
    refine pw_iload rfl rfl ?_
    refine px_callv (as := [.inr (some (103)), .inl (nI (p)), .inl (nI (hi))]) (rest := []) rfl rfl (by decide) rfl (Nat.le_of_ble_eq_true rfl) (Nat.le_of_ble_eq_true rfl) (Nat.le_of_ble_eq_true rfl) (Nat.le_of_ble_eq_true rfl) rfl rfl rfl rfl ?_
    refine t_trans hp (by omega) (((up2_ne1 (by decide)).trans (up2_ne1 (by decide))).trans (hfl)) hf6 ?_
    show pw pP mSBModel_begin (172, [some (.inr (some (103))), some (.inl (nI (p))), some (.inl (nI (u))), some (.inl (nI (m))), some (.inl (nI (hi))), some (.inl (nI (402 * p + hi))), some (.inl (nI (m)))], [], 0, 0, hb (sL L) F (trans_G F (up2 (up2 G (116) (p) (nI (hi + m))) (111) (p) ((F (103) (3)) + (G (110) (p)))) p (hi) fl) R sO) _
    exact pw_vret rfl rfl (Nat.zero_le _) (Nat.zero_le _) (by simp only [bend, c1, if_true, if_false] at k; exact k)
def bendS (F G : FN) (p hi fl : Nat) : FN := (if ¬ G (111) (p) = 0 then (trans_G F (up2 G (116) (p) (nI (hi + 1))) p (hi) fl) else (trans_G F (up2 (up2 G (116) (p) (nI (hi + 1))) (111) (p) ((F (103) (3)) + (G (110) (p)))) p (hi) fl))
theorem t_bendS {L p hi fl : Nat} {F G : FN} {R : RN} (hp : p < 4) (hh : hi < 402) (hfl : G 124 (2 * p) = nI fl) (hf6 : fl ≤ 6) {Q : Option PV → PH → Prop} (k : Q none (hb (sL L) F (bendS F G p hi fl) R sO)) : pw pP mSBModel_begin (129, [some (.inr (some (103))), some (.inl (nI (p))), some (.inl ((-1))), some (.inl (nI (1))), some (.inl (nI (hi))), some (.inl (nI (402 * p + hi))), some (.inl (nI (1)))], [], 0, 0, hb (sL L) F G R sO) Q := by
  refine pw_aload_n rfl rfl ?_
  refine px_getr (r := some (116)) rfl rfl rfl rfl rfl ?_
  refine pw_iload_n rfl rfl ?_
  refine pw_iload rfl rfl ?_
  refine pw_iload_n rfl rfl ?_
  refine pw_iadd (z := nI (hi + 1)) rfl (nI_add _ _) ?_
  refine px_iastn rfl rfl (by omega) (by decide) ?_
  refine pw_aload_n rfl rfl ?_
  refine px_getr (r := some (111)) rfl rfl rfl rfl rfl ?_
  refine pw_iload_n rfl rfl ?_
  refine px_ialdn (x := G (111) (p)) rfl rfl (by omega) (by decide) (up2_ne1 (by decide)) ?_
  refine pw_if1p (A := ¬ G (111) (p) = 0) rfl rfl (t := 165) rfl (fun c1 => ?_) (fun c1 => ?_)
  · -- 165
    refine pw_aload_n rfl rfl ?_
    refine pw_iload_n rfl rfl ?_
    refine pw_iload rfl rfl ?_
    refine px_callv (as := [.inr (some (103)), .inl (nI (p)), .inl (nI (hi))]) (rest := []) rfl rfl (by decide) rfl (Nat.le_of_ble_eq_true rfl) (Nat.le_of_ble_eq_true rfl) (Nat.le_of_ble_eq_true rfl) (Nat.le_of_ble_eq_true rfl) rfl rfl rfl rfl ?_
    refine t_trans hp (by omega) ((up2_ne1 (by decide)).trans (hfl)) hf6 ?_
    show pw pP mSBModel_begin (172, [some (.inr (some (103))), some (.inl (nI (p))), some (.inl ((-1))), some (.inl (nI (1))), some (.inl (nI (hi))), some (.inl (nI (402 * p + hi))), some (.inl (nI (1)))], [], 0, 0, hb (sL L) F (trans_G F (up2 G (116) (p) (nI (hi + 1))) p (hi) fl) R sO) _
    exact pw_vret rfl rfl (Nat.zero_le _) (Nat.zero_le _) (by simp only [bendS, c1, if_true, if_false] at k; exact k)
  · -- 148
    refine pw_aload_n rfl rfl ?_
    refine px_getr (r := some (111)) rfl rfl rfl rfl rfl ?_
    refine pw_iload_n rfl rfl ?_
    refine pw_aload_n rfl rfl ?_
    refine px_getv (x := F (103) (3)) rfl rfl rfl rfl (rfl) ?_
    refine pw_aload_n rfl rfl ?_
    refine px_getr (r := some (110)) rfl rfl rfl rfl rfl ?_
    refine pw_iload_n rfl rfl ?_
    refine px_ialdn (x := G (110) (p)) rfl rfl (by omega) (by decide) (up2_ne1 (by decide)) ?_
    refine pw_iadd (z := (F (103) (3)) + (G (110) (p))) rfl rfl ?_
    refine px_iastn rfl rfl (by omega) (by decide) ?_
    refine pw_aload_n rfl rfl ?_
    refine pw_iload_n rfl rfl ?_
    refine pw_iload rfl rfl ?_
    refine px_callv (as := [.inr (some (103)), .inl (nI (p)), .inl (nI (hi))]) (rest := []) rfl rfl (by decide) rfl (Nat.le_of_ble_eq_true rfl) (Nat.le_of_ble_eq_true rfl) (Nat.le_of_ble_eq_true rfl) (Nat.le_of_ble_eq_true rfl) rfl rfl rfl rfl ?_
    refine t_trans hp (by omega) (((up2_ne1 (by decide)).trans (up2_ne1 (by decide))).trans (hfl)) hf6 ?_
    show pw pP mSBModel_begin (172, [some (.inr (some (103))), some (.inl (nI (p))), some (.inl ((-1))), some (.inl (nI (1))), some (.inl (nI (hi))), some (.inl (nI (402 * p + hi))), some (.inl (nI (1)))], [], 0, 0, hb (sL L) F (trans_G F (up2 (up2 G (116) (p) (nI (hi + 1))) (111) (p) ((F (103) (3)) + (G (110) (p)))) p (hi) fl) R sO) _
    exact pw_vret rfl rfl (Nat.zero_le _) (Nat.zero_le _) (by simp only [bendS, c1, if_true, if_false] at k; exact k)
theorem tbn_row {p u hi i : Nat} (h1 : ¬ i = 118) (h2 : ¬ i = 122) (h3 : ¬ i = 123) : ∀ (n j : Nat) (X : FN × FN), (tbn p u hi n j X).2 i = X.2 i
  | 0, _, _ => rfl
  | n + 1, j, X => by
    refine (tbn_row h1 h2 h3 n (j + 1) _).trans ?_
    show up2 (up2 (up2 X.2 118 _ _) 123 _ _) 122 _ _ i = _
    rw [up2_row h2, up2_row h3, up2_row h1]
/-- what stands ahead of the loop -/
def tb0 (F G : FN) (p m hi : Nat) : FN := up2 (up2 G 119 (402 * p + hi) (nI m)) 120 (402 * p + hi) (F 103 3)
theorem tb0_124 {F G : FN} {p m hi q : Nat} : tb0 F G p m hi 124 q = G 124 q := by
  unfold tb0
  rw [up2_ne1 (by decide), up2_ne1 (by decide)]
def tbegin (F G : FN) (p u m hi fl : Nat) : FN × FN := ((tbn p u hi m 0 (F, tb0 F G p m hi)).1, bend (tbn p u hi m 0 (F, tb0 F G p m hi)).1 (tbn p u hi m 0 (F, tb0 F G p m hi)).2 p m hi fl)
theorem t_begin {L p u m hi fl : Nat} {F G : FN} {R : RN} (hp : p < 4) (hu : u + m ≤ 401) (hm : 0 < m) (hh : hi + m ≤ 402) (hhi : G 116 p = nI hi) (hfl : G 124 (2 * p) = nI fl) (hf6 : fl ≤ 6) {Q : Option PV → PH → Prop} (k : Q none (hb (sL L) (tbegin F G p u m hi fl).1 (tbegin F G p u m hi fl).2 R sO)) : pz pP mSBModel_begin [.inr (some 103), .inl (nI p), .inl (nI u), .inl (nI m)] (hb (sL L) F G R sO) Q := by
  show pw pP mSBModel_begin (0, [some (.inr (some (103))), some (.inl (nI (p))), some (.inl (nI (u))), some (.inl (nI (m))), none, none, none], [], 0, 0, hb (sL L) F G R sO) _
  refine pw_aload_n rfl rfl ?_
  refine px_getr (r := some (116)) rfl rfl rfl rfl rfl ?_
  refine pw_iload_n rfl rfl ?_
  refine px_ialdn (x := nI (hi)) rfl rfl (by omega) (by decide) (hhi) ?_
  refine pw_istore (ls1 := [some (.inr (some (103))), some (.inl (nI (p))), some (.inl (nI (u))), some (.inl (nI (m))), some (.inl (nI (hi))), none, none]) rfl (Nat.le_of_ble_eq_true rfl) rfl ?_
  refine pw_sipush (v := nI (402)) rfl (by decide) ?_
  refine pw_iload_n rfl rfl ?_
  refine pw_imul (z := nI (402 * p)) rfl (pk_mul _ _) ?_
  refine pw_iload rfl rfl ?_
  refine pw_iadd (z := nI (402 * p + hi)) rfl (nI_add _ _) ?_
  refine pw_istore (ls1 := [some (.inr (some (103))), some (.inl (nI (p))), some (.inl (nI (u))), some (.inl (nI (m))), some (.inl (nI (hi))), some (.inl (nI (402 * p + hi))), none]) rfl (Nat.le_of_ble_eq_true rfl) rfl ?_
  refine pw_aload_n rfl rfl ?_
  refine px_getr (r := some (119)) rfl rfl rfl rfl rfl ?_
  refine pw_iload rfl rfl ?_
  refine pw_iload_n rfl rfl ?_
  refine px_iastn rfl rfl (by omega) (by decide) ?_
  refine pw_aload_n rfl rfl ?_
  refine px_getr (r := some (120)) rfl rfl rfl rfl rfl ?_
  refine pw_iload rfl rfl ?_
  refine pw_aload_n rfl rfl ?_
  refine px_getv (x := F (103) (3)) rfl rfl rfl rfl (rfl) ?_
  refine px_iastn rfl rfl (by omega) (by decide) ?_
  refine pw_iconst (v := nI (0)) rfl (by decide) ?_
  refine pw_istore (ls1 := [some (.inr (some (103))), some (.inl (nI (p))), some (.inl (nI (u))), some (.inl (nI (m))), some (.inl (nI (hi))), some (.inl (nI (402 * p + hi))), some (.inl (nI (0)))]) rfl (Nat.le_of_ble_eq_true rfl) rfl ?_
  have e1 : (tbn p u hi m 0 (F, tb0 F G p m hi)).2 124 (2 * p) = nI fl := (congrFun (tbn_row (by decide) (by decide) (by decide) m 0 (F, tb0 F G p m hi)) (2 * p)).trans ((tb0_124 (F := F) (G := G) (p := p) (m := m) (hi := hi)).trans hfl)
  exact t_begin_lp hp hu hh m 0 (F, tb0 F G p m hi) (by omega) (t_bend hp (by omega) e1 hf6 k)
theorem t_beginS {L p hi fl : Nat} {F G : FN} {R : RN} (hp : p < 4) (hh : hi < 402) (hhi : G 116 p = nI hi) (hfl : G 124 (2 * p) = nI fl) (hf6 : fl ≤ 6) {Q : Option PV → PH → Prop} (k : Q none (hb (sL L) F (bendS F (up2 (tb0 F G p 1 hi) 118 (402 * p + hi + 0) ((-1) + nI 0)) p hi fl) R sO)) : pz pP mSBModel_begin [.inr (some 103), .inl (nI p), .inl (-1), .inl (nI 1)] (hb (sL L) F G R sO) Q := by
  show pw pP mSBModel_begin (0, [some (.inr (some (103))), some (.inl (nI (p))), some (.inl ((-1))), some (.inl (nI (1))), none, none, none], [], 0, 0, hb (sL L) F G R sO) _
  refine pw_aload_n rfl rfl ?_
  refine px_getr (r := some (116)) rfl rfl rfl rfl rfl ?_
  refine pw_iload_n rfl rfl ?_
  refine px_ialdn (x := nI (hi)) rfl rfl (by omega) (by decide) (hhi) ?_
  refine pw_istore (ls1 := [some (.inr (some (103))), some (.inl (nI (p))), some (.inl ((-1))), some (.inl (nI (1))), some (.inl (nI (hi))), none, none]) rfl (Nat.le_of_ble_eq_true rfl) rfl ?_
  refine pw_sipush (v := nI (402)) rfl (by decide) ?_
  refine pw_iload_n rfl rfl ?_
  refine pw_imul (z := nI (402 * p)) rfl (pk_mul _ _) ?_
  refine pw_iload rfl rfl ?_
  refine pw_iadd (z := nI (402 * p + hi)) rfl (nI_add _ _) ?_
  refine pw_istore (ls1 := [some (.inr (some (103))), some (.inl (nI (p))), some (.inl ((-1))), some (.inl (nI (1))), some (.inl (nI (hi))), some (.inl (nI (402 * p + hi))), none]) rfl (Nat.le_of_ble_eq_true rfl) rfl ?_
  refine pw_aload_n rfl rfl ?_
  refine px_getr (r := some (119)) rfl rfl rfl rfl rfl ?_
  refine pw_iload rfl rfl ?_
  refine pw_iload_n rfl rfl ?_
  refine px_iastn rfl rfl (by omega) (by decide) ?_
  refine pw_aload_n rfl rfl ?_
  refine px_getr (r := some (120)) rfl rfl rfl rfl rfl ?_
  refine pw_iload rfl rfl ?_
  refine pw_aload_n rfl rfl ?_
  refine px_getv (x := F (103) (3)) rfl rfl rfl rfl (rfl) ?_
  refine px_iastn rfl rfl (by omega) (by decide) ?_
  refine pw_iconst (v := nI (0)) rfl (by decide) ?_
  refine pw_istore (ls1 := [some (.inr (some (103))), some (.inl (nI (p))), some (.inl ((-1))), some (.inl (nI (1))), some (.inl (nI (hi))), some (.inl (nI (402 * p + hi))), some (.inl (nI (0)))]) rfl (Nat.le_of_ble_eq_true rfl) rfl ?_
  refine pw_iload rfl rfl ?_
  refine pw_iload_n rfl rfl ?_
  refine pw_if2 (t := 129) rfl rfl (fun q => absurd q (by decide)) (fun _ => ?_)
  refine pw_aload_n rfl rfl ?_
  refine px_getr (r := some (118)) rfl rfl rfl rfl rfl ?_
  refine pw_iload rfl rfl ?_
  refine pw_iload rfl rfl ?_
  refine pw_iadd (z := nI (402 * p + hi + 0)) rfl (nI_add _ _) ?_
  refine pw_iload_n rfl rfl ?_
  refine pw_iload rfl rfl ?_
  refine pw_iadd (z := (-1) + (nI (0))) rfl rfl ?_
  refine px_iastn rfl rfl (by omega) (by decide) ?_
  refine pw_iload_n rfl rfl ?_
  refine pw_if1p (A := (-1) < 0) rfl rfl (t := 123) rfl (fun _ => ?_) (fun q => absurd (by decide) q)
  refine pw_iinc (v := nI (1)) (ls1 := [some (.inr (some (103))), some (.inl (nI (p))), some (.inl ((-1))), some (.inl (nI (1))), some (.inl (nI (hi))), some (.inl (nI (402 * p + hi))), some (.inl (nI (1)))]) rfl rfl (iinc_n _) rfl ?_
  refine pw_goto (t := 40) rfl rfl ?_
  refine pw_iload rfl rfl ?_
  refine pw_iload_n rfl rfl ?_
  refine pw_if2 (t := 129) rfl rfl (fun _ => ?_) (fun q => absurd q (by decide))
  exact t_bendS hp hh ((up2_ne1 (by decide)).trans (tb0_124.trans hfl)) hf6 k
end
section
/-! THE REFERENCE, sixth part: which units are loose. Rows laid by a program (wip/whole/gen/twin5.py). -/
/-- the path q does not keep the unit u from the path p -/
abbrev okq (G : FN) (p u q : Nat) : Prop := ¬ (¬ G 122 (402 * q + u) ≤ 0 ∧ ¬ G 115 q ≤ G 122 (402 * q + u)) ∧ ¬ ((¬ G 122 (402 * q + u) < G 115 q ∧ ¬ G 122 (402 * q + u) ≤ 0 ∧ ¬ G 107 q = nI 4) ∧ (q = p ∨ G 107 q = nI 2))
def lo (G : FN) (p u : Nat) : Nat → Nat → Int32
  | 0, _ => nI 1
  | n + 1, q => if okq G p u q then lo G p u n (q + 1) else nI 0
theorem lo_t {G : FN} {p u n q : Nat} (h : okq G p u q) : lo G p u (n + 1) q = lo G p u n (q + 1) := by simp only [lo, if_pos h]
theorem lo_f {G : FN} {p u n q : Nat} (h : ¬ okq G p u q) : lo G p u (n + 1) q = nI 0 := by simp only [lo, if_neg h]
theorem t_loose_0 {L p u q : Nat} {F G : FN} {R : RN} {o5 o6 o7 : Option PV} {Q : Option PV → PH → Prop} (hq : q ≤ 4) (k : Q (some (.inl (nI 0))) (hb (sL L) F G R sO)) : pw pP mSBModel_loose (25, [some (.inr (some (103))), some (.inl (nI (p))), some (.inl (nI (u))), some (.inl (nI (0))), some (.inl (nI (q))), o5, o6, o7], [], 0, 0, hb (sL L) F G R sO) Q := by
  refine pw_iload rfl rfl ?_
  refine pw_iconst (v := nI (4)) rfl (by decide) ?_
  refine pw_if2p (cn_ge (by omega) (by omega)) rfl (t := 148) rfl (fun c1 => ?_) (fun c1 => ?_)
  · -- 148
    refine pw_iload_n rfl rfl ?_
    exact pw_iret rfl rfl (Nat.zero_le _) (Nat.zero_le _) rfl k
  · -- 31
    refine pw_iload_n rfl rfl ?_
    refine pw_if1 (t := 148) rfl rfl (fun _ => ?_) (fun q => absurd q (by decide))
    refine pw_iload_n rfl rfl ?_
    exact pw_iret rfl rfl (Nat.zero_le _) (Nat.zero_le _) rfl k
theorem t_loose_lp {L p u : Nat} {F G : FN} {R : RN} {Q : Option PV → PH → Prop} (hp : p < 4) (hu : u < 402) : ∀ (n q : Nat) (o5 o6 o7 : Option PV), q + n = 4 → Q (some (.inl (lo G p u n q))) (hb (sL L) F G R sO) → pw pP mSBModel_loose (25, [some (.inr (some (103))), some (.inl (nI (p))), some (.inl (nI (u))), some (.inl (nI (1))), some (.inl (nI (q))), o5, o6, o7], [], 0, 0, hb (sL L) F G R sO) Q := by
  intro n
  induction n with
  | zero =>
    intro q o5 o6 o7 hn k
    refine pw_iload rfl rfl ?_
    refine pw_iconst (v := nI (4)) rfl (by decide) ?_
    refine pw_if2p (cn_ge (by omega) (by omega)) rfl (t := 148) rfl (fun c1 => ?_) (fun c1 => ?_)
    · -- 148
      refine pw_iload_n rfl rfl ?_
      exact pw_iret rfl rfl (Nat.zero_le _) (Nat.zero_le _) rfl k
    · -- 31
      exact absurd c1 (by omega)
  | succ n ih =>
    intro q o5 o6 o7 hn k
    refine pw_iload rfl rfl ?_
    refine pw_iconst (v := nI (4)) rfl (by decide) ?_
    refine pw_if2p (cn_ge (by omega) (by omega)) rfl (t := 148) rfl (fun c1 => ?_) (fun c1 => ?_)
    · -- 148
      refine pw_iload_n rfl rfl ?_
      exact absurd c1 (by omega)
    · -- 31
      refine pw_iload_n rfl rfl ?_
      refine pw_if1 (t := 148) rfl rfl (fun q => absurd q (by decide)) (fun _ => ?_)
      refine pw_aload_n rfl rfl ?_
      refine px_getr (r := some (122)) rfl rfl rfl rfl rfl ?_
      refine pw_sipush (v := nI (402)) rfl (by decide) ?_
      refine pw_iload rfl rfl ?_
      refine pw_imul (z := nI (402 * q)) rfl (pk_mul _ _) ?_
      refine pw_iload_n rfl rfl ?_
      refine pw_iadd (z := nI (402 * q + u)) rfl (nI_add _ _) ?_
      refine px_ialdn (x := G (122) (402 * q + u)) rfl rfl (by omega) (by decide) (rfl) ?_
      refine pw_istore (ls1 := [some (.inr (some (103))), some (.inl (nI (p))), some (.inl (nI (u))), some (.inl (nI (1))), some (.inl (nI (q))), some (.inl (G (122) (402 * q + u))), o6, o7]) rfl (Nat.le_of_ble_eq_true rfl) rfl ?_
      refine pw_iload rfl rfl ?_
      refine pw_if1p (A := G (122) (402 * q + u) ≤ 0) rfl rfl (t := 71) rfl (fun c2 => ?_) (fun c2 => ?_)
      · -- 71
        refine pw_iconst (v := nI (0)) rfl (by decide) ?_
        refine pw_istore (ls1 := [some (.inr (some (103))), some (.inl (nI (p))), some (.inl (nI (u))), some (.inl (nI (1))), some (.inl (nI (q))), some (.inl (G (122) (402 * q + u))), some (.inl (nI (0))), o7]) rfl (Nat.le_of_ble_eq_true rfl) rfl ?_
        refine pw_iload rfl rfl ?_
        refine pw_aload_n rfl rfl ?_
        refine px_getr (r := some (115)) rfl rfl rfl rfl rfl ?_
        refine pw_iload rfl rfl ?_
        refine px_ialdn (x := G (115) (q)) rfl rfl (by omega) (by decide) (rfl) ?_
        refine pw_if2p (A := G (122) (402 * q + u) < G (115) (q)) rfl rfl (t := 106) rfl (fun c3 => ?_) (fun c3 => ?_)
        · -- 106
          refine pw_iconst (v := nI (0)) rfl (by decide) ?_
          refine pw_istore (ls1 := [some (.inr (some (103))), some (.inl (nI (p))), some (.inl (nI (u))), some (.inl (nI (1))), some (.inl (nI (q))), some (.inl (G (122) (402 * q + u))), some (.inl (nI (0))), some (.inl (nI (0)))]) rfl (Nat.le_of_ble_eq_true rfl) rfl ?_
          refine pw_iload rfl rfl ?_
          refine pw_if1 (t := 140) rfl rfl (fun q => absurd q (by decide)) (fun _ => ?_)
          refine pw_iload rfl rfl ?_
          refine pw_if1 (t := 136) rfl rfl (fun _ => ?_) (fun q => absurd q (by decide))
          refine pw_iconst (v := nI (1)) rfl (by decide) ?_
          refine pw_goto (t := 141) rfl rfl ?_
          refine pw_istore_n (ls1 := [some (.inr (some (103))), some (.inl (nI (p))), some (.inl (nI (u))), some (.inl (nI (1))), some (.inl (nI (q))), some (.inl (G (122) (402 * q + u))), some (.inl (nI (0))), some (.inl (nI (0)))]) rfl (Nat.le_of_ble_eq_true rfl) rfl ?_
          refine pw_iinc (v := nI (q + 1)) (ls1 := [some (.inr (some (103))), some (.inl (nI (p))), some (.inl (nI (u))), some (.inl (nI (1))), some (.inl (nI (q + 1))), some (.inl (G (122) (402 * q + u))), some (.inl (nI (0))), some (.inl (nI (0)))]) rfl rfl (iinc_n _) rfl ?_
          refine pw_goto (t := 25) rfl rfl ?_
          exact ih (q + 1) _ _ _ (by omega) (by rw [lo_t (by simp only [okq, eq_true c2, eq_true c3, not_true_eq_false, not_false_eq_true, and_self, and_true, true_and, and_false, false_and, or_true, true_or, or_false, false_or, or_self])] at k; exact k)
        · -- 86
          refine pw_iload rfl rfl ?_
          refine pw_if1p (A := G (122) (402 * q + u) ≤ 0) rfl rfl (t := 106) rfl (fun _ => ?_) (fun q => absurd c2 q)
          refine pw_iconst (v := nI (0)) rfl (by decide) ?_
          refine pw_istore (ls1 := [some (.inr (some (103))), some (.inl (nI (p))), some (.inl (nI (u))), some (.inl (nI (1))), some (.inl (nI (q))), some (.inl (G (122) (402 * q + u))), some (.inl (nI (0))), some (.inl (nI (0)))]) rfl (Nat.le_of_ble_eq_true rfl) rfl ?_
          refine pw_iload rfl rfl ?_
          refine pw_if1 (t := 140) rfl rfl (fun q => absurd q (by decide)) (fun _ => ?_)
          refine pw_iload rfl rfl ?_
          refine pw_if1 (t := 136) rfl rfl (fun _ => ?_) (fun q => absurd q (by decide))
          refine pw_iconst (v := nI (1)) rfl (by decide) ?_
          refine pw_goto (t := 141) rfl rfl ?_
          refine pw_istore_n (ls1 := [some (.inr (some (103))), some (.inl (nI (p))), some (.inl (nI (u))), some (.inl (nI (1))), some (.inl (nI (q))), some (.inl (G (122) (402 * q + u))), some (.inl (nI (0))), some (.inl (nI (0)))]) rfl (Nat.le_of_ble_eq_true rfl) rfl ?_
          refine pw_iinc (v := nI (q + 1)) (ls1 := [some (.inr (some (103))), some (.inl (nI (p))), some (.inl (nI (u))), some (.inl (nI (1))), some (.inl (nI (q + 1))), some (.inl (G (122) (402 * q + u))), some (.inl (nI (0))), some (.inl (nI (0)))]) rfl rfl (iinc_n _) rfl ?_
          refine pw_goto (t := 25) rfl rfl ?_
          exact ih (q + 1) _ _ _ (by omega) (by rw [lo_t (by simp only [okq, eq_true c2, eq_false c3, not_true_eq_false, not_false_eq_true, and_self, and_true, true_and, and_false, false_and, or_true, true_or, or_false, false_or, or_self])] at k; exact k)
      · -- 55
        refine pw_iload rfl rfl ?_
        refine pw_aload_n rfl rfl ?_
        refine px_getr (r := some (115)) rfl rfl rfl rfl rfl ?_
        refine pw_iload rfl rfl ?_
        refine px_ialdn (x := G (115) (q)) rfl rfl (by omega) (by decide) (rfl) ?_
        refine pw_if2p (A := G (115) (q) ≤ G (122) (402 * q + u)) rfl rfl (t := 71) rfl (fun c4 => ?_) (fun c4 => ?_)
        · -- 71
          refine pw_iconst (v := nI (0)) rfl (by decide) ?_
          refine pw_istore (ls1 := [some (.inr (some (103))), some (.inl (nI (p))), some (.inl (nI (u))), some (.inl (nI (1))), some (.inl (nI (q))), some (.inl (G (122) (402 * q + u))), some (.inl (nI (0))), o7]) rfl (Nat.le_of_ble_eq_true rfl) rfl ?_
          refine pw_iload rfl rfl ?_
          refine pw_aload_n rfl rfl ?_
          refine px_getr (r := some (115)) rfl rfl rfl rfl rfl ?_
          refine pw_iload rfl rfl ?_
          refine px_ialdn (x := G (115) (q)) rfl rfl (by omega) (by decide) (rfl) ?_
          refine pw_if2p (A := G (122) (402 * q + u) < G (115) (q)) rfl rfl (t := 106) rfl (fun c5 => ?_) (fun c5 => ?_)
          · -- 106
            refine pw_iconst (v := nI (0)) rfl (by decide) ?_
            refine pw_istore (ls1 := [some (.inr (some (103))), some (.inl (nI (p))), some (.inl (nI (u))), some (.inl (nI (1))), some (.inl (nI (q))), some (.inl (G (122) (402 * q + u))), some (.inl (nI (0))), some (.inl (nI (0)))]) rfl (Nat.le_of_ble_eq_true rfl) rfl ?_
            refine pw_iload rfl rfl ?_
            refine pw_if1 (t := 140) rfl rfl (fun q => absurd q (by decide)) (fun _ => ?_)
            refine pw_iload rfl rfl ?_
            refine pw_if1 (t := 136) rfl rfl (fun _ => ?_) (fun q => absurd q (by decide))
            refine pw_iconst (v := nI (1)) rfl (by decide) ?_
            refine pw_goto (t := 141) rfl rfl ?_
            refine pw_istore_n (ls1 := [some (.inr (some (103))), some (.inl (nI (p))), some (.inl (nI (u))), some (.inl (nI (1))), some (.inl (nI (q))), some (.inl (G (122) (402 * q + u))), some (.inl (nI (0))), some (.inl (nI (0)))]) rfl (Nat.le_of_ble_eq_true rfl) rfl ?_
            refine pw_iinc (v := nI (q + 1)) (ls1 := [some (.inr (some (103))), some (.inl (nI (p))), some (.inl (nI (u))), some (.inl (nI (1))), some (.inl (nI (q + 1))), some (.inl (G (122) (402 * q + u))), some (.inl (nI (0))), some (.inl (nI (0)))]) rfl rfl (iinc_n _) rfl ?_
            refine pw_goto (t := 25) rfl rfl ?_
            exact ih (q + 1) _ _ _ (by omega) (by rw [lo_t (by simp only [okq, eq_false c2, eq_true c4, eq_true c5, not_true_eq_false, not_false_eq_true, and_self, and_true, true_and, and_false, false_and, or_true, true_or, or_false, false_or, or_self])] at k; exact k)
          · -- 86
            refine pw_iload rfl rfl ?_
            refine pw_if1p (A := G (122) (402 * q + u) ≤ 0) rfl rfl (t := 106) rfl (fun q => absurd q c2) (fun _ => ?_)
            refine pw_aload_n rfl rfl ?_
            refine px_getr (r := some (107)) rfl rfl rfl rfl rfl ?_
            refine pw_iload rfl rfl ?_
            refine px_ialdn (x := G (107) (q)) rfl rfl (by omega) (by decide) (rfl) ?_
            refine pw_iconst (v := nI (4)) rfl (by decide) ?_
            refine pw_if2p (A := G (107) (q) = nI (4)) rfl rfl (t := 106) rfl (fun c6 => ?_) (fun c6 => ?_)
            · -- 106
              refine pw_iconst (v := nI (0)) rfl (by decide) ?_
              refine pw_istore (ls1 := [some (.inr (some (103))), some (.inl (nI (p))), some (.inl (nI (u))), some (.inl (nI (1))), some (.inl (nI (q))), some (.inl (G (122) (402 * q + u))), some (.inl (nI (0))), some (.inl (nI (0)))]) rfl (Nat.le_of_ble_eq_true rfl) rfl ?_
              refine pw_iload rfl rfl ?_
              refine pw_if1 (t := 140) rfl rfl (fun q => absurd q (by decide)) (fun _ => ?_)
              refine pw_iload rfl rfl ?_
              refine pw_if1 (t := 136) rfl rfl (fun _ => ?_) (fun q => absurd q (by decide))
              refine pw_iconst (v := nI (1)) rfl (by decide) ?_
              refine pw_goto (t := 141) rfl rfl ?_
              refine pw_istore_n (ls1 := [some (.inr (some (103))), some (.inl (nI (p))), some (.inl (nI (u))), some (.inl (nI (1))), some (.inl (nI (q))), some (.inl (G (122) (402 * q + u))), some (.inl (nI (0))), some (.inl (nI (0)))]) rfl (Nat.le_of_ble_eq_true rfl) rfl ?_
              refine pw_iinc (v := nI (q + 1)) (ls1 := [some (.inr (some (103))), some (.inl (nI (p))), some (.inl (nI (u))), some (.inl (nI (1))), some (.inl (nI (q + 1))), some (.inl (G (122) (402 * q + u))), some (.inl (nI (0))), some (.inl (nI (0)))]) rfl rfl (iinc_n _) rfl ?_
              refine pw_goto (t := 25) rfl rfl ?_
              exact ih (q + 1) _ _ _ (by omega) (by rw [lo_t (by simp only [okq, eq_false c2, eq_true c4, eq_false c5, eq_true c6, not_true_eq_false, not_false_eq_true, and_self, and_true, true_and, and_false, false_and, or_true, true_or, or_false, false_or, or_self])] at k; exact k)
            · -- 102
              refine pw_iconst (v := nI (1)) rfl (by decide) ?_
              refine pw_goto (t := 107) rfl rfl ?_
              refine pw_istore (ls1 := [some (.inr (some (103))), some (.inl (nI (p))), some (.inl (nI (u))), some (.inl (nI (1))), some (.inl (nI (q))), some (.inl (G (122) (402 * q + u))), some (.inl (nI (0))), some (.inl (nI (1)))]) rfl (Nat.le_of_ble_eq_true rfl) rfl ?_
              refine pw_iload rfl rfl ?_
              refine pw_if1 (t := 140) rfl rfl (fun q => absurd q (by decide)) (fun _ => ?_)
              refine pw_iload rfl rfl ?_
              refine pw_if1 (t := 136) rfl rfl (fun q => absurd q (by decide)) (fun _ => ?_)
              refine pw_iload rfl rfl ?_
              refine pw_iload_n rfl rfl ?_
              refine pw_if2p (cn_eq (by omega) (by omega)) rfl (t := 140) rfl (fun c7 => ?_) (fun c7 => ?_)
              · -- 140
                refine pw_iconst (v := nI (0)) rfl (by decide) ?_
                refine pw_istore_n (ls1 := [some (.inr (some (103))), some (.inl (nI (p))), some (.inl (nI (u))), some (.inl (nI (0))), some (.inl (nI (q))), some (.inl (G (122) (402 * q + u))), some (.inl (nI (0))), some (.inl (nI (1)))]) rfl (Nat.le_of_ble_eq_true rfl) rfl ?_
                refine pw_iinc (v := nI (q + 1)) (ls1 := [some (.inr (some (103))), some (.inl (nI (p))), some (.inl (nI (u))), some (.inl (nI (0))), some (.inl (nI (q + 1))), some (.inl (G (122) (402 * q + u))), some (.inl (nI (0))), some (.inl (nI (1)))]) rfl rfl (iinc_n _) rfl ?_
                refine pw_goto (t := 25) rfl rfl ?_
                exact t_loose_0 (by omega) (by rw [lo_f (by simp only [okq, eq_false c2, eq_true c4, eq_false c5, eq_false c6, eq_true c7, not_true_eq_false, not_false_eq_true, and_self, and_true, true_and, and_false, false_and, or_true, true_or, or_false, false_or, or_self])] at k; exact k)
              · -- 125
                refine pw_aload_n rfl rfl ?_
                refine px_getr (r := some (107)) rfl rfl rfl rfl rfl ?_
                refine pw_iload rfl rfl ?_
                refine px_ialdn (x := G (107) (q)) rfl rfl (by omega) (by decide) (rfl) ?_
                refine pw_iconst (v := nI (2)) rfl (by decide) ?_
                refine pw_if2p (A := G (107) (q) = nI (2)) rfl rfl (t := 140) rfl (fun c8 => ?_) (fun c8 => ?_)
                · -- 140
                  refine pw_iconst (v := nI (0)) rfl (by decide) ?_
                  refine pw_istore_n (ls1 := [some (.inr (some (103))), some (.inl (nI (p))), some (.inl (nI (u))), some (.inl (nI (0))), some (.inl (nI (q))), some (.inl (G (122) (402 * q + u))), some (.inl (nI (0))), some (.inl (nI (1)))]) rfl (Nat.le_of_ble_eq_true rfl) rfl ?_
                  refine pw_iinc (v := nI (q + 1)) (ls1 := [some (.inr (some (103))), some (.inl (nI (p))), some (.inl (nI (u))), some (.inl (nI (0))), some (.inl (nI (q + 1))), some (.inl (G (122) (402 * q + u))), some (.inl (nI (0))), some (.inl (nI (1)))]) rfl rfl (iinc_n _) rfl ?_
                  refine pw_goto (t := 25) rfl rfl ?_
                  exact t_loose_0 (by omega) (by rw [lo_f (by simp only [okq, eq_false c2, eq_true c4, eq_false c5, eq_false c6, eq_false c7, eq_true c8, not_true_eq_false, not_false_eq_true, and_self, and_true, true_and, and_false, false_and, or_true, true_or, or_false, false_or, or_self])] at k; exact k)
                · -- 136
                  refine pw_iconst (v := nI (1)) rfl (by decide) ?_
                  refine pw_goto (t := 141) rfl rfl ?_
                  refine pw_istore_n (ls1 := [some (.inr (some (103))), some (.inl (nI (p))), some (.inl (nI (u))), some (.inl (nI (1))), some (.inl (nI (q))), some (.inl (G (122) (402 * q + u))), some (.inl (nI (0))), some (.inl (nI (1)))]) rfl (Nat.le_of_ble_eq_true rfl) rfl ?_
                  refine pw_iinc (v := nI (q + 1)) (ls1 := [some (.inr (some (103))), some (.inl (nI (p))), some (.inl (nI (u))), some (.inl (nI (1))), some (.inl (nI (q + 1))), some (.inl (G (122) (402 * q + u))), some (.inl (nI (0))), some (.inl (nI (1)))]) rfl rfl (iinc_n _) rfl ?_
                  refine pw_goto (t := 25) rfl rfl ?_
                  exact ih (q + 1) _ _ _ (by omega) (by rw [lo_t (by simp only [okq, eq_false c2, eq_true c4, eq_false c5, eq_false c6, eq_false c7, eq_false c8, not_true_eq_false, not_false_eq_true, and_self, and_true, true_and, and_false, false_and, or_true, true_or, or_false, false_or, or_self])] at k; exact k)
        · -- 67
          refine pw_iconst (v := nI (1)) rfl (by decide) ?_
          refine pw_goto (t := 72) rfl rfl ?_
          refine pw_istore (ls1 := [some (.inr (some (103))), some (.inl (nI (p))), some (.inl (nI (u))), some (.inl (nI (1))), some (.inl (nI (q))), some (.inl (G (122) (402 * q + u))), some (.inl (nI (1))), o7]) rfl (Nat.le_of_ble_eq_true rfl) rfl ?_
          refine pw_iload rfl rfl ?_
          refine pw_aload_n rfl rfl ?_
          refine px_getr (r := some (115)) rfl rfl rfl rfl rfl ?_
          refine pw_iload rfl rfl ?_
          refine px_ialdn (x := G (115) (q)) rfl rfl (by omega) (by decide) (rfl) ?_
          refine pw_if2p (A := G (122) (402 * q + u) < G (115) (q)) rfl rfl (t := 106) rfl (fun c9 => ?_) (fun c9 => ?_)
          · -- 106
            refine pw_iconst (v := nI (0)) rfl (by decide) ?_
            refine pw_istore (ls1 := [some (.inr (some (103))), some (.inl (nI (p))), some (.inl (nI (u))), some (.inl (nI (1))), some (.inl (nI (q))), some (.inl (G (122) (402 * q + u))), some (.inl (nI (1))), some (.inl (nI (0)))]) rfl (Nat.le_of_ble_eq_true rfl) rfl ?_
            refine pw_iload rfl rfl ?_
            refine pw_if1 (t := 140) rfl rfl (fun _ => ?_) (fun q => absurd q (by decide))
            refine pw_iconst (v := nI (0)) rfl (by decide) ?_
            refine pw_istore_n (ls1 := [some (.inr (some (103))), some (.inl (nI (p))), some (.inl (nI (u))), some (.inl (nI (0))), some (.inl (nI (q))), some (.inl (G (122) (402 * q + u))), some (.inl (nI (1))), some (.inl (nI (0)))]) rfl (Nat.le_of_ble_eq_true rfl) rfl ?_
            refine pw_iinc (v := nI (q + 1)) (ls1 := [some (.inr (some (103))), some (.inl (nI (p))), some (.inl (nI (u))), some (.inl (nI (0))), some (.inl (nI (q + 1))), some (.inl (G (122) (402 * q + u))), some (.inl (nI (1))), some (.inl (nI (0)))]) rfl rfl (iinc_n _) rfl ?_
            refine pw_goto (t := 25) rfl rfl ?_
            exact t_loose_0 (by omega) (by rw [lo_f (by simp only [okq, eq_false c2, eq_false c4, eq_true c9, not_true_eq_false, not_false_eq_true, and_self, and_true, true_and, and_false, false_and, or_true, true_or, or_false, false_or, or_self])] at k; exact k)
          · -- 86
            refine pw_iload rfl rfl ?_
            refine pw_if1p (A := G (122) (402 * q + u) ≤ 0) rfl rfl (t := 106) rfl (fun q => absurd q c2) (fun _ => ?_)
            refine pw_aload_n rfl rfl ?_
            refine px_getr (r := some (107)) rfl rfl rfl rfl rfl ?_
            refine pw_iload rfl rfl ?_
            refine px_ialdn (x := G (107) (q)) rfl rfl (by omega) (by decide) (rfl) ?_
            refine pw_iconst (v := nI (4)) rfl (by decide) ?_
            refine pw_if2p (A := G (107) (q) = nI (4)) rfl rfl (t := 106) rfl (fun c10 => ?_) (fun c10 => ?_)
            · -- 106
              refine pw_iconst (v := nI (0)) rfl (by decide) ?_
              refine pw_istore (ls1 := [some (.inr (some (103))), some (.inl (nI (p))), some (.inl (nI (u))), some (.inl (nI (1))), some (.inl (nI (q))), some (.inl (G (122) (402 * q + u))), some (.inl (nI (1))), some (.inl (nI (0)))]) rfl (Nat.le_of_ble_eq_true rfl) rfl ?_
              refine pw_iload rfl rfl ?_
              refine pw_if1 (t := 140) rfl rfl (fun _ => ?_) (fun q => absurd q (by decide))
              refine pw_iconst (v := nI (0)) rfl (by decide) ?_
              refine pw_istore_n (ls1 := [some (.inr (some (103))), some (.inl (nI (p))), some (.inl (nI (u))), some (.inl (nI (0))), some (.inl (nI (q))), some (.inl (G (122) (402 * q + u))), some (.inl (nI (1))), some (.inl (nI (0)))]) rfl (Nat.le_of_ble_eq_true rfl) rfl ?_
              refine pw_iinc (v := nI (q + 1)) (ls1 := [some (.inr (some (103))), some (.inl (nI (p))), some (.inl (nI (u))), some (.inl (nI (0))), some (.inl (nI (q + 1))), some (.inl (G (122) (402 * q + u))), some (.inl (nI (1))), some (.inl (nI (0)))]) rfl rfl (iinc_n _) rfl ?_
              refine pw_goto (t := 25) rfl rfl ?_
              exact t_loose_0 (by omega) (by rw [lo_f (by simp only [okq, eq_false c2, eq_false c4, eq_false c9, eq_true c10, not_true_eq_false, not_false_eq_true, and_self, and_true, true_and, and_false, false_and, or_true, true_or, or_false, false_or, or_self])] at k; exact k)
            · -- 102
              refine pw_iconst (v := nI (1)) rfl (by decide) ?_
              refine pw_goto (t := 107) rfl rfl ?_
              refine pw_istore (ls1 := [some (.inr (some (103))), some (.inl (nI (p))), some (.inl (nI (u))), some (.inl (nI (1))), some (.inl (nI (q))), some (.inl (G (122) (402 * q + u))), some (.inl (nI (1))), some (.inl (nI (1)))]) rfl (Nat.le_of_ble_eq_true rfl) rfl ?_
              refine pw_iload rfl rfl ?_
              refine pw_if1 (t := 140) rfl rfl (fun _ => ?_) (fun q => absurd q (by decide))
              refine pw_iconst (v := nI (0)) rfl (by decide) ?_
              refine pw_istore_n (ls1 := [some (.inr (some (103))), some (.inl (nI (p))), some (.inl (nI (u))), some (.inl (nI (0))), some (.inl (nI (q))), some (.inl (G (122) (402 * q + u))), some (.inl (nI (1))), some (.inl (nI (1)))]) rfl (Nat.le_of_ble_eq_true rfl) rfl ?_
              refine pw_iinc (v := nI (q + 1)) (ls1 := [some (.inr (some (103))), some (.inl (nI (p))), some (.inl (nI (u))), some (.inl (nI (0))), some (.inl (nI (q + 1))), some (.inl (G (122) (402 * q + u))), some (.inl (nI (1))), some (.inl (nI (1)))]) rfl rfl (iinc_n _) rfl ?_
              refine pw_goto (t := 25) rfl rfl ?_
              exact t_loose_0 (by omega) (by rw [lo_f (by simp only [okq, eq_false c2, eq_false c4, eq_false c9, eq_false c10, not_true_eq_false, not_false_eq_true, and_self, and_true, true_and, and_false, false_and, or_true, true_or, or_false, false_or, or_self])] at k; exact k)
def tloose (F G : FN) (p u kn ln : Nat) : Int32 := if u < kn then nI 0 else if ln ≤ u then nI 0 else lo G p u 4 0
theorem t_loose {L p u kn ln : Nat} {F G : FN} {R : RN} (hp : p < 4) (hu : u < 2 ^ 30) (hkn : F 103 22 = nI kn) (hk2 : kn < 2 ^ 30) (hln : tlen F = nI ln) (hl2 : ln ≤ 401) {Q : Option PV → PH → Prop} (k : Q (some (.inl (tloose F G p u kn ln))) (hb (sL L) F G R sO)) : pz pP mSBModel_loose [.inr (some (103)), .inl (nI (p)), .inl (nI (u))] (hb (sL L) F G R sO) Q := by
  show pw pP mSBModel_loose (0, [some (.inr (some (103))), some (.inl (nI (p))), some (.inl (nI (u))), none, none, none, none, none], [], 0, 0, hb (sL L) F G R sO) _
  refine pw_iload_n rfl rfl ?_
  refine pw_aload_n rfl rfl ?_
  refine px_getv (x := nI (kn)) rfl rfl rfl rfl (hkn) ?_
  refine pw_if2p (cn_lt (by omega) (by omega)) rfl (t := 20) rfl (fun c1 => ?_) (fun c1 => ?_)
  · -- 20
    refine pw_iconst (v := nI (0)) rfl (by decide) ?_
    refine pw_istore_n (ls1 := [some (.inr (some (103))), some (.inl (nI (p))), some (.inl (nI (u))), some (.inl (nI (0))), none, none, none, none]) rfl (Nat.le_of_ble_eq_true rfl) rfl ?_
    refine pw_iconst (v := nI (0)) rfl (by decide) ?_
    refine pw_istore (ls1 := [some (.inr (some (103))), some (.inl (nI (p))), some (.inl (nI (u))), some (.inl (nI (0))), some (.inl (nI (0))), none, none, none]) rfl (Nat.le_of_ble_eq_true rfl) rfl ?_
    exact t_loose_0 (by omega) (by simp only [tloose, c1, if_true, if_false] at k; exact k)
  · -- 8
    refine pw_iload_n rfl rfl ?_
    refine pw_aload_n rfl rfl ?_
    refine px_callv (as := [.inr (some (103))]) (rest := [.inl (nI (u))]) rfl rfl (by decide) rfl (Nat.le_of_ble_eq_true rfl) (Nat.le_of_ble_eq_true rfl) (Nat.le_of_ble_eq_true rfl) (Nat.le_of_ble_eq_true rfl) rfl rfl rfl rfl ?_
    refine t_length ?_
    rw [hln]
    show pw pP mSBModel_loose (13, [some (.inr (some (103))), some (.inl (nI (p))), some (.inl (nI (u))), none, none, none, none, none], [.inl (nI (ln)), .inl (nI (u))], 0, 0, hb (sL L) F G R sO) _
    refine pw_if2p (cn_ge (by omega) (by omega)) rfl (t := 20) rfl (fun c2 => ?_) (fun c2 => ?_)
    · -- 20
      refine pw_iconst (v := nI (0)) rfl (by decide) ?_
      refine pw_istore_n (ls1 := [some (.inr (some (103))), some (.inl (nI (p))), some (.inl (nI (u))), some (.inl (nI (0))), none, none, none, none]) rfl (Nat.le_of_ble_eq_true rfl) rfl ?_
      refine pw_iconst (v := nI (0)) rfl (by decide) ?_
      refine pw_istore (ls1 := [some (.inr (some (103))), some (.inl (nI (p))), some (.inl (nI (u))), some (.inl (nI (0))), some (.inl (nI (0))), none, none, none]) rfl (Nat.le_of_ble_eq_true rfl) rfl ?_
      exact t_loose_0 (by omega) (by simp only [tloose, c1, c2, if_true, if_false] at k; exact k)
    · -- 16
      refine pw_iconst (v := nI (1)) rfl (by decide) ?_
      refine pw_goto (t := 21) rfl rfl ?_
      refine pw_istore_n (ls1 := [some (.inr (some (103))), some (.inl (nI (p))), some (.inl (nI (u))), some (.inl (nI (1))), none, none, none, none]) rfl (Nat.le_of_ble_eq_true rfl) rfl ?_
      refine pw_iconst (v := nI (0)) rfl (by decide) ?_
      refine pw_istore (ls1 := [some (.inr (some (103))), some (.inl (nI (p))), some (.inl (nI (u))), some (.inl (nI (1))), some (.inl (nI (0))), none, none, none]) rfl (Nat.le_of_ble_eq_true rfl) rfl ?_
      exact t_loose_lp hp (by omega) 4 0 _ _ _ rfl (by simp only [tloose, c1, c2, if_false] at k; exact k)
/-- how many segments begin at one of the n numbers from j on -/
def to3 (G : FN) (p : Nat) : Nat → Nat → Nat → Nat
  | 0, _, c => c
  | n + 1, j, c => if G 119 (402 * p + j) ≤ 0 then to3 G p n (j + 1) c else to3 G p n (j + 1) (c + 1)
theorem t_open3_lp {L p hi : Nat} {F G : FN} {R : RN} {Q : Option PV → PH → Prop} (hp : p < 4) (hhi : G 116 p = nI hi) (hh : hi ≤ 402) : ∀ (n j c : Nat), j + n = hi → c ≤ j → Q (some (.inl (nI (to3 G p n j c)))) (hb (sL L) F G R sO) → pw pP mSBModel_open3 (9, [some (.inr (some (103))), some (.inl (nI (p))), some (.inl (nI (c))), some (.inl (nI (j)))], [], 0, 0, hb (sL L) F G R sO) Q := by
  intro n
  induction n with
  | zero =>
    intro j c hn hc k
    refine pw_iload_n rfl rfl ?_
    refine pw_aload_n rfl rfl ?_
    refine px_getr (r := some (116)) rfl rfl rfl rfl rfl ?_
    refine pw_iload_n rfl rfl ?_
    refine px_ialdn (x := nI (hi)) rfl rfl (by omega) (by decide) (hhi) ?_
    refine pw_if2p (cn_ge (by omega) (by omega)) rfl (t := 48) rfl (fun c1 => ?_) (fun c1 => ?_)
    · -- 48
      refine pw_iload_n rfl rfl ?_
      exact pw_iret rfl rfl (Nat.zero_le _) (Nat.zero_le _) rfl k
    · -- 19
      exact absurd c1 (by omega)
  | succ n ih =>
    intro j c hn hc k
    refine pw_iload_n rfl rfl ?_
    refine pw_aload_n rfl rfl ?_
    refine px_getr (r := some (116)) rfl rfl rfl rfl rfl ?_
    refine pw_iload_n rfl rfl ?_
    refine px_ialdn (x := nI (hi)) rfl rfl (by omega) (by decide) (hhi) ?_
    refine pw_if2p (cn_ge (by omega) (by omega)) rfl (t := 48) rfl (fun c1 => ?_) (fun c1 => ?_)
    · -- 48
      refine pw_iload_n rfl rfl ?_
      exact absurd c1 (by omega)
    · -- 19
      refine pw_aload_n rfl rfl ?_
      refine px_getr (r := some (119)) rfl rfl rfl rfl rfl ?_
      refine pw_sipush (v := nI (402)) rfl (by decide) ?_
      refine pw_iload_n rfl rfl ?_
      refine pw_imul (z := nI (402 * p)) rfl (pk_mul _ _) ?_
      refine pw_iload_n rfl rfl ?_
      refine pw_iadd (z := nI (402 * p + j)) rfl (nI_add _ _) ?_
      refine px_ialdn (x := G (119) (402 * p + j)) rfl rfl (by omega) (by decide) (rfl) ?_
      refine pw_if1p (A := G (119) (402 * p + j) ≤ 0) rfl rfl (t := 40) rfl (fun c2 => ?_) (fun c2 => ?_)
      · -- 40
        refine pw_iload_n rfl rfl ?_
        refine pw_istore_n (ls1 := [some (.inr (some (103))), some (.inl (nI (p))), some (.inl (nI (c))), some (.inl (nI (j)))]) rfl (Nat.le_of_ble_eq_true rfl) rfl ?_
        refine pw_iinc (v := nI (j + 1)) (ls1 := [some (.inr (some (103))), some (.inl (nI (p))), some (.inl (nI (c))), some (.inl (nI (j + 1)))]) rfl rfl (iinc_n _) rfl ?_
        refine pw_goto (t := 9) rfl rfl ?_
        exact ih (j + 1) _ (by omega) (by omega) (by simp only [to3, c2, if_true, if_false] at k; exact k)
      · -- 34
        refine pw_iload_n rfl rfl ?_
        refine pw_iconst (v := nI (1)) rfl (by decide) ?_
        refine pw_iadd (z := nI (c + 1)) rfl (nI_add _ _) ?_
        refine pw_goto (t := 41) rfl rfl ?_
        refine pw_istore_n (ls1 := [some (.inr (some (103))), some (.inl (nI (p))), some (.inl (nI (c + 1))), some (.inl (nI (j)))]) rfl (Nat.le_of_ble_eq_true rfl) rfl ?_
        refine pw_iinc (v := nI (j + 1)) (ls1 := [some (.inr (some (103))), some (.inl (nI (p))), some (.inl (nI (c + 1))), some (.inl (nI (j + 1)))]) rfl rfl (iinc_n _) rfl ?_
        refine pw_goto (t := 9) rfl rfl ?_
        exact ih (j + 1) _ (by omega) (by omega) (by simp only [to3, c2, if_true, if_false] at k; exact k)
theorem t_open3 {L p lw hi : Nat} {F G : FN} {R : RN} (hp : p < 4) (hlw : G 115 p = nI lw) (hhi : G 116 p = nI hi) (hlh : lw ≤ hi) (hh : hi ≤ 402) {Q : Option PV → PH → Prop} (k : Q (some (.inl (nI (to3 G p (hi - lw) lw 0)))) (hb (sL L) F G R sO)) : pz pP mSBModel_open3 [.inr (some (103)), .inl (nI (p))] (hb (sL L) F G R sO) Q := by
  show pw pP mSBModel_open3 (0, [some (.inr (some (103))), some (.inl (nI (p))), none, none], [], 0, 0, hb (sL L) F G R sO) _
  refine pw_iconst (v := nI (0)) rfl (by decide) ?_
  refine pw_istore_n (ls1 := [some (.inr (some (103))), some (.inl (nI (p))), some (.inl (nI (0))), none]) rfl (Nat.le_of_ble_eq_true rfl) rfl ?_
  refine pw_aload_n rfl rfl ?_
  refine px_getr (r := some (115)) rfl rfl rfl rfl rfl ?_
  refine pw_iload_n rfl rfl ?_
  refine px_ialdn (x := nI (lw)) rfl rfl (by omega) (by decide) (hlw) ?_
  refine pw_istore_n (ls1 := [some (.inr (some (103))), some (.inl (nI (p))), some (.inl (nI (0))), some (.inl (nI (lw)))]) rfl (Nat.le_of_ble_eq_true rfl) rfl ?_
  exact t_open3_lp hp hhi hh (hi - lw) lw 0 (by omega) (by omega) k
end
section
/-! THE REFERENCE, seventh part: the timer rings, A hears. Rows laid by a program (wip/whole/gen/twin6.py). -/
/-- SBModel_ring -/
def ring_G (F G : FN) (p lw fl : Nat) : FN := (if G (110) (p) ≤ nI (60) then (if ¬ G (107) (p) = nI (2) then (trans_G F (up2 (up2 (up2 G (110) (p) ((nI (2)) * (G (110) (p)))) (111) (p) ((F (103) (3)) + ((nI (2)) * (G (110) (p))))) (107) (p) (G (107) (p))) p (lw) fl) else (trans_G F (up2 (up2 (up2 G (110) (p) ((nI (2)) * (G (110) (p)))) (111) (p) ((F (103) (3)) + ((nI (2)) * (G (110) (p))))) (107) (p) (nI (3))) p (lw) fl)) else (if ¬ G (107) (p) = nI (2) then (trans_G F (up2 (up2 (up2 G (110) (p) (nI (120))) (111) (p) ((F (103) (3)) + (nI (120)))) (107) (p) (G (107) (p))) p (lw) fl) else (trans_G F (up2 (up2 (up2 G (110) (p) (nI (120))) (111) (p) ((F (103) (3)) + (nI (120)))) (107) (p) (nI (3))) p (lw) fl)))
theorem t_ring {L p lw fl : Nat} {F G : FN} {R : RN} (hp : p < 4) (hlw : G 115 p = nI lw) (hl : lw < 402) (hfl : G 124 (2 * p) = nI fl) (hf6 : fl ≤ 6) {Q : Option PV → PH → Prop} (k : Q none (hb (sL L) F (ring_G F G p lw fl) R sO)) : pz pP mSBModel_ring [.inr (some (103)), .inl (nI (p))] (hb (sL L) F G R sO) Q := by
  show pw pP mSBModel_ring (0, [some (.inr (some (103))), some (.inl (nI (p)))], [], 0, 0, hb (sL L) F G R sO) _
  refine pw_aload_n rfl rfl ?_
  refine px_getr (r := some (110)) rfl rfl rfl rfl rfl ?_
  refine pw_iload_n rfl rfl ?_
  refine pw_aload_n rfl rfl ?_
  refine px_getr (r := some (110)) rfl rfl rfl rfl rfl ?_
  refine pw_iload_n rfl rfl ?_
  refine px_ialdn (x := G (110) (p)) rfl rfl (by omega) (by decide) (rfl) ?_
  refine pw_bipush (v := nI (60)) rfl (by decide) ?_
  refine pw_if2p (A := G (110) (p) ≤ nI (60)) rfl rfl (t := 21) rfl (fun c1 => ?_) (fun c1 => ?_)
  · -- 21
    refine pw_iconst (v := nI (2)) rfl (by decide) ?_
    refine pw_aload_n rfl rfl ?_
    refine px_getr (r := some (110)) rfl rfl rfl rfl rfl ?_
    refine pw_iload_n rfl rfl ?_
    refine px_ialdn (x := G (110) (p)) rfl rfl (by omega) (by decide) (rfl) ?_
    refine pw_imul (z := (nI (2)) * (G (110) (p))) rfl rfl ?_
    refine px_iastn rfl rfl (by omega) (by decide) ?_
    refine pw_aload_n rfl rfl ?_
    refine px_getr (r := some (111)) rfl rfl rfl rfl rfl ?_
    refine pw_iload_n rfl rfl ?_
    refine pw_aload_n rfl rfl ?_
    refine px_getv (x := F (103) (3)) rfl rfl rfl rfl (rfl) ?_
    refine pw_aload_n rfl rfl ?_
    refine px_getr (r := some (110)) rfl rfl rfl rfl rfl ?_
    refine pw_iload_n rfl rfl ?_
    refine px_ialdn (x := (nI (2)) * (G (110) (p))) rfl rfl (by omega) (by decide) (up2_eq) ?_
    refine pw_iadd (z := (F (103) (3)) + ((nI (2)) * (G (110) (p)))) rfl rfl ?_
    refine px_iastn rfl rfl (by omega) (by decide) ?_
    refine pw_aload_n rfl rfl ?_
    refine px_getr (r := some (107)) rfl rfl rfl rfl rfl ?_
    refine pw_iload_n rfl rfl ?_
    refine pw_aload_n rfl rfl ?_
    refine px_getr (r := some (107)) rfl rfl rfl rfl rfl ?_
    refine pw_iload_n rfl rfl ?_
    refine px_ialdn (x := G (107) (p)) rfl rfl (by omega) (by decide) ((up2_ne1 (by decide)).trans (up2_ne1 (by decide))) ?_
    refine pw_iconst (v := nI (2)) rfl (by decide) ?_
    refine pw_if2p (A := ¬ G (107) (p) = nI (2)) rfl rfl (t := 66) rfl (fun c2 => ?_) (fun c2 => ?_)
    · -- 66
      refine pw_aload_n rfl rfl ?_
      refine px_getr (r := some (107)) rfl rfl rfl rfl rfl ?_
      refine pw_iload_n rfl rfl ?_
      refine px_ialdn (x := G (107) (p)) rfl rfl (by omega) (by decide) ((up2_ne1 (by decide)).trans (up2_ne1 (by decide))) ?_
      refine px_iastn rfl rfl (by omega) (by decide) ?_
      refine pw_aload_n rfl rfl ?_
      refine pw_iload_n rfl rfl ?_
      refine pw_aload_n rfl rfl ?_
      refine px_getr (r := some (115)) rfl rfl rfl rfl rfl ?_
      refine pw_iload_n rfl rfl ?_
      refine px_ialdn (x := nI (lw)) rfl rfl (by omega) (by decide) (((up2_ne1 (by decide)).trans ((up2_ne1 (by decide)).trans (up2_ne1 (by decide)))).trans (hlw)) ?_
      refine px_callv (as := [.inr (some (103)), .inl (nI (p)), .inl (nI (lw))]) (rest := []) rfl rfl (by decide) rfl (Nat.le_of_ble_eq_true rfl) (Nat.le_of_ble_eq_true rfl) (Nat.le_of_ble_eq_true rfl) (Nat.le_of_ble_eq_true rfl) rfl rfl rfl rfl ?_
      refine t_trans hp (by omega) (((up2_ne1 (by decide)).trans ((up2_ne1 (by decide)).trans (up2_ne1 (by decide)))).trans (hfl)) hf6 ?_
      show pw pP mSBModel_ring (84, [some (.inr (some (103))), some (.inl (nI (p)))], [], 0, 0, hb (sL L) F (trans_G F (up2 (up2 (up2 G (110) (p) ((nI (2)) * (G (110) (p)))) (111) (p) ((F (103) (3)) + ((nI (2)) * (G (110) (p))))) (107) (p) (G (107) (p))) p (lw) fl) R sO) _
      exact pw_vret rfl rfl (Nat.zero_le _) (Nat.zero_le _) (by simp only [ring_G, c1, c2, if_true, if_false] at k; exact k)
    · -- 62
      refine pw_iconst (v := nI (3)) rfl (by decide) ?_
      refine pw_goto (t := 72) rfl rfl ?_
      refine px_iastn rfl rfl (by omega) (by decide) ?_
      refine pw_aload_n rfl rfl ?_
      refine pw_iload_n rfl rfl ?_
      refine pw_aload_n rfl rfl ?_
      refine px_getr (r := some (115)) rfl rfl rfl rfl rfl ?_
      refine pw_iload_n rfl rfl ?_
      refine px_ialdn (x := nI (lw)) rfl rfl (by omega) (by decide) (((up2_ne1 (by decide)).trans ((up2_ne1 (by decide)).trans (up2_ne1 (by decide)))).trans (hlw)) ?_
      refine px_callv (as := [.inr (some (103)), .inl (nI (p)), .inl (nI (lw))]) (rest := []) rfl rfl (by decide) rfl (Nat.le_of_ble_eq_true rfl) (Nat.le_of_ble_eq_true rfl) (Nat.le_of_ble_eq_true rfl) (Nat.le_of_ble_eq_true rfl) rfl rfl rfl rfl ?_
      refine t_trans hp (by omega) (((up2_ne1 (by decide)).trans ((up2_ne1 (by decide)).trans (up2_ne1 (by decide)))).trans (hfl)) hf6 ?_
      show pw pP mSBModel_ring (84, [some (.inr (some (103))), some (.inl (nI (p)))], [], 0, 0, hb (sL L) F (trans_G F (up2 (up2 (up2 G (110) (p) ((nI (2)) * (G (110) (p)))) (111) (p) ((F (103) (3)) + ((nI (2)) * (G (110) (p))))) (107) (p) (nI (3))) p (lw) fl) R sO) _
      exact pw_vret rfl rfl (Nat.zero_le _) (Nat.zero_le _) (by simp only [ring_G, c1, c2, if_true, if_false] at k; exact k)
  · -- 16
    refine pw_bipush (v := nI (120)) rfl (by decide) ?_
    refine pw_goto (t := 29) rfl rfl ?_
    refine px_iastn rfl rfl (by omega) (by decide) ?_
    refine pw_aload_n rfl rfl ?_
    refine px_getr (r := some (111)) rfl rfl rfl rfl rfl ?_
    refine pw_iload_n rfl rfl ?_
    refine pw_aload_n rfl rfl ?_
    refine px_getv (x := F (103) (3)) rfl rfl rfl rfl (rfl) ?_
    refine pw_aload_n rfl rfl ?_
    refine px_getr (r := some (110)) rfl rfl rfl rfl rfl ?_
    refine pw_iload_n rfl rfl ?_
    refine px_ialdn (x := nI (120)) rfl rfl (by omega) (by decide) (up2_eq) ?_
    refine pw_iadd (z := (F (103) (3)) + (nI (120))) rfl rfl ?_
    refine px_iastn rfl rfl (by omega) (by decide) ?_
    refine pw_aload_n rfl rfl ?_
    refine px_getr (r := some (107)) rfl rfl rfl rfl rfl ?_
    refine pw_iload_n rfl rfl ?_
    refine pw_aload_n rfl rfl ?_
    refine px_getr (r := some (107)) rfl rfl rfl rfl rfl ?_
    refine pw_iload_n rfl rfl ?_
    refine px_ialdn (x := G (107) (p)) rfl rfl (by omega) (by decide) ((up2_ne1 (by decide)).trans (up2_ne1 (by decide))) ?_
    refine pw_iconst (v := nI (2)) rfl (by decide) ?_
    refine pw_if2p (A := ¬ G (107) (p) = nI (2)) rfl rfl (t := 66) rfl (fun c3 => ?_) (fun c3 => ?_)
    · -- 66
      refine pw_aload_n rfl rfl ?_
      refine px_getr (r := some (107)) rfl rfl rfl rfl rfl ?_
      refine pw_iload_n rfl rfl ?_
      refine px_ialdn (x := G (107) (p)) rfl rfl (by omega) (by decide) ((up2_ne1 (by decide)).trans (up2_ne1 (by decide))) ?_
      refine px_iastn rfl rfl (by omega) (by decide) ?_
      refine pw_aload_n rfl rfl ?_
      refine pw_iload_n rfl rfl ?_
      refine pw_aload_n rfl rfl ?_
      refine px_getr (r := some (115)) rfl rfl rfl rfl rfl ?_
      refine pw_iload_n rfl rfl ?_
      refine px_ialdn (x := nI (lw)) rfl rfl (by omega) (by decide) (((up2_ne1 (by decide)).trans ((up2_ne1 (by decide)).trans (up2_ne1 (by decide)))).trans (hlw)) ?_
      refine px_callv (as := [.inr (some (103)), .inl (nI (p)), .inl (nI (lw))]) (rest := []) rfl rfl (by decide) rfl (Nat.le_of_ble_eq_true rfl) (Nat.le_of_ble_eq_true rfl) (Nat.le_of_ble_eq_true rfl) (Nat.le_of_ble_eq_true rfl) rfl rfl rfl rfl ?_
      refine t_trans hp (by omega) (((up2_ne1 (by decide)).trans ((up2_ne1 (by decide)).trans (up2_ne1 (by decide)))).trans (hfl)) hf6 ?_
      show pw pP mSBModel_ring (84, [some (.inr (some (103))), some (.inl (nI (p)))], [], 0, 0, hb (sL L) F (trans_G F (up2 (up2 (up2 G (110) (p) (nI (120))) (111) (p) ((F (103) (3)) + (nI (120)))) (107) (p) (G (107) (p))) p (lw) fl) R sO) _
      exact pw_vret rfl rfl (Nat.zero_le _) (Nat.zero_le _) (by simp only [ring_G, c1, c3, if_true, if_false] at k; exact k)
    · -- 62
      refine pw_iconst (v := nI (3)) rfl (by decide) ?_
      refine pw_goto (t := 72) rfl rfl ?_
      refine px_iastn rfl rfl (by omega) (by decide) ?_
      refine pw_aload_n rfl rfl ?_
      refine pw_iload_n rfl rfl ?_
      refine pw_aload_n rfl rfl ?_
      refine px_getr (r := some (115)) rfl rfl rfl rfl rfl ?_
      refine pw_iload_n rfl rfl ?_
      refine px_ialdn (x := nI (lw)) rfl rfl (by omega) (by decide) (((up2_ne1 (by decide)).trans ((up2_ne1 (by decide)).trans (up2_ne1 (by decide)))).trans (hlw)) ?_
      refine px_callv (as := [.inr (some (103)), .inl (nI (p)), .inl (nI (lw))]) (rest := []) rfl rfl (by decide) rfl (Nat.le_of_ble_eq_true rfl) (Nat.le_of_ble_eq_true rfl) (Nat.le_of_ble_eq_true rfl) (Nat.le_of_ble_eq_true rfl) rfl rfl rfl rfl ?_
      refine t_trans hp (by omega) (((up2_ne1 (by decide)).trans ((up2_ne1 (by decide)).trans (up2_ne1 (by decide)))).trans (hfl)) hf6 ?_
      show pw pP mSBModel_ring (84, [some (.inr (some (103))), some (.inl (nI (p)))], [], 0, 0, hb (sL L) F (trans_G F (up2 (up2 (up2 G (110) (p) (nI (120))) (111) (p) ((F (103) (3)) + (nI (120)))) (107) (p) (nI (3))) p (lw) fl) R sO) _
      exact pw_vret rfl rfl (Nat.zero_le _) (Nat.zero_le _) (by simp only [ring_G, c1, c3, if_true, if_false] at k; exact k)
/-- the last of the n numbers from j on where a segment begins that ends at a or before it -/
def tla (G : FN) (p : Nat) (a : Int32) : Nat → Nat → Option Nat → Option Nat
  | 0, _, l => l
  | n + 1, j, l => tla G p a n (j + 1) (if G 119 (402 * p + j) ≤ 0 then l else if a < nI j + G 119 (402 * p + j) then l else some j)
/-- none as -1 -/
def oI (l : Option Nat) : Int32 := match l with
  | none => -1
  | some l => nI l
theorem t_atA_lp {L p hi : Nat} {wh a b c : Int32} {F G : FN} {R : RN} {Q : Option PV → PH → Prop} (hp : p < 4) (hhi : G 116 p = nI hi) (hh : hi ≤ 402) : ∀ (n j : Nat) (l : Option Nat) (o8 : Option PV), j + n = hi → (∀ o, pw pP mSBModel_atA (116, [some (.inr (some (103))), some (.inl (nI (p))), some (.inl (wh)), some (.inl (a)), some (.inl (b)), some (.inl (c)), some (.inl (oI (tla G p a n j l))), some (.inl (nI (hi))), o], [], 0, 0, hb (sL L) F G R sO) Q) → pw pP mSBModel_atA (66, [some (.inr (some (103))), some (.inl (nI (p))), some (.inl (wh)), some (.inl (a)), some (.inl (b)), some (.inl (c)), some (.inl (oI l)), some (.inl (nI (j))), o8], [], 0, 0, hb (sL L) F G R sO) Q := by
  intro n
  induction n with
  | zero =>
    intro j l o8 hn k
    have e : hi = j := by omega
    subst e
    refine pw_iload rfl rfl ?_
    refine pw_aload_n rfl rfl ?_
    refine px_getr (r := some (116)) rfl rfl rfl rfl rfl ?_
    refine pw_iload_n rfl rfl ?_
    refine px_ialdn (x := nI (hi)) rfl rfl (by omega) (by decide) (hhi) ?_
    refine pw_if2p (cn_ge (by omega) (by omega)) rfl (t := 116) rfl (fun c1 => ?_) (fun c1 => ?_)
    · -- 116
      exact k _
    · -- 77
      exact absurd c1 (by omega)
  | succ n ih =>
    intro j l o8 hn k
    refine pw_iload rfl rfl ?_
    refine pw_aload_n rfl rfl ?_
    refine px_getr (r := some (116)) rfl rfl rfl rfl rfl ?_
    refine pw_iload_n rfl rfl ?_
    refine px_ialdn (x := nI (hi)) rfl rfl (by omega) (by decide) (hhi) ?_
    refine pw_if2p (cn_ge (by omega) (by omega)) rfl (t := 116) rfl (fun c1 => ?_) (fun c1 => ?_)
    · -- 116
      exact absurd c1 (by omega)
    · -- 77
      refine pw_aload_n rfl rfl ?_
      refine px_getr (r := some (119)) rfl rfl rfl rfl rfl ?_
      refine pw_sipush (v := nI (402)) rfl (by decide) ?_
      refine pw_iload_n rfl rfl ?_
      refine pw_imul (z := nI (402 * p)) rfl (pk_mul _ _) ?_
      refine pw_iload rfl rfl ?_
      refine pw_iadd (z := nI (402 * p + j)) rfl (nI_add _ _) ?_
      refine px_ialdn (x := G (119) (402 * p + j)) rfl rfl (by omega) (by decide) (rfl) ?_
      refine pw_istore (ls1 := [some (.inr (some (103))), some (.inl (nI (p))), some (.inl (wh)), some (.inl (a)), some (.inl (b)), some (.inl (c)), some (.inl (oI l)), some (.inl (nI (j))), some (.inl (G (119) (402 * p + j)))]) rfl (Nat.le_of_ble_eq_true rfl) rfl ?_
      refine pw_iload rfl rfl ?_
      refine pw_if1p (A := G (119) (402 * p + j) ≤ 0) rfl rfl (t := 110) rfl (fun c2 => ?_) (fun c2 => ?_)
      · -- 110
        refine pw_iinc (v := nI (j + 1)) (ls1 := [some (.inr (some (103))), some (.inl (nI (p))), some (.inl (wh)), some (.inl (a)), some (.inl (b)), some (.inl (c)), some (.inl (oI l)), some (.inl (nI (j + 1))), some (.inl (G (119) (402 * p + j)))]) rfl rfl (iinc_n _) rfl ?_
        refine pw_goto (t := 66) rfl rfl ?_
        exact ih (j + 1) l _ (by omega) (fun o => by have k := k o; simp only [tla, c2, if_true, if_false] at k; exact k)
      · -- 97
        refine pw_iload rfl rfl ?_
        refine pw_iload rfl rfl ?_
        refine pw_iadd (z := (nI (j)) + (G (119) (402 * p + j))) rfl rfl ?_
        refine pw_iload_n rfl rfl ?_
        refine pw_if2p (A := a < (nI (j)) + (G (119) (402 * p + j))) rfl rfl (t := 110) rfl (fun c3 => ?_) (fun c3 => ?_)
        · -- 110
          refine pw_iinc (v := nI (j + 1)) (ls1 := [some (.inr (some (103))), some (.inl (nI (p))), some (.inl (wh)), some (.inl (a)), some (.inl (b)), some (.inl (c)), some (.inl (oI l)), some (.inl (nI (j + 1))), some (.inl (G (119) (402 * p + j)))]) rfl rfl (iinc_n _) rfl ?_
          refine pw_goto (t := 66) rfl rfl ?_
          exact ih (j + 1) l _ (by omega) (fun o => by have k := k o; simp only [tla, c2, c3, if_true, if_false] at k; exact k)
        · -- 106
          refine pw_iload rfl rfl ?_
          refine pw_istore (ls1 := [some (.inr (some (103))), some (.inl (nI (p))), some (.inl (wh)), some (.inl (a)), some (.inl (b)), some (.inl (c)), some (.inl (nI (j))), some (.inl (nI (j))), some (.inl (G (119) (402 * p + j)))]) rfl (Nat.le_of_ble_eq_true rfl) rfl ?_
          refine pw_iinc (v := nI (j + 1)) (ls1 := [some (.inr (some (103))), some (.inl (nI (p))), some (.inl (wh)), some (.inl (a)), some (.inl (b)), some (.inl (c)), some (.inl (nI (j))), some (.inl (nI (j + 1))), some (.inl (G (119) (402 * p + j)))]) rfl rfl (iinc_n _) rfl ?_
          refine pw_goto (t := 66) rfl rfl ?_
          exact ih (j + 1) (some j) _ (by omega) (fun o => by have k := k o; simp only [tla, c2, c3, if_true, if_false] at k; exact k)
def aeF (F : FN) : FN := (up2 F (103) (25) (nI (1)))
def aeG (F G : FN) (p l : Nat) : FN := (if ¬ G (121) (402 * p + l) = nI (1) then (if ¬ (nI (l)) + (G (119) (402 * p + l)) = G (116) (p) then (up2 (up2 (up2 G (115) (p) ((nI (l)) + (G (119) (402 * p + l)))) (107) (p) (nI (2))) (111) (p) ((F (103) (3)) + (G (110) (p)))) else (up2 (up2 (up2 G (115) (p) ((nI (l)) + (G (119) (402 * p + l)))) (107) (p) (nI (2))) (111) (p) (nI (0)))) else (if ¬ (meas_G (up2 G (115) (p) ((nI (l)) + (G (119) (402 * p + l)))) p ((F (103) (3)) - (G (120) (402 * p + l)))) (115) (p) = (meas_G (up2 G (115) (p) ((nI (l)) + (G (119) (402 * p + l)))) p ((F (103) (3)) - (G (120) (402 * p + l)))) (116) (p) then (up2 (up2 (meas_G (up2 G (115) (p) ((nI (l)) + (G (119) (402 * p + l)))) p ((F (103) (3)) - (G (120) (402 * p + l)))) (107) (p) (nI (2))) (111) (p) ((F (103) (3)) + ((meas_G (up2 G (115) (p) ((nI (l)) + (G (119) (402 * p + l)))) p ((F (103) (3)) - (G (120) (402 * p + l)))) (110) (p)))) else (up2 (up2 (meas_G (up2 G (115) (p) ((nI (l)) + (G (119) (402 * p + l)))) p ((F (103) (3)) - (G (120) (402 * p + l)))) (107) (p) (nI (2))) (111) (p) (nI (0)))))
theorem t_atA_end {L p l hi : Nat} {wh a b c : Int32} {F G : FN} {R : RN} {o : Option PV} {Q : Option PV → PH → Prop} (hp : p < 4) (hl : l < 402) (k : Q none (hb (sL L) (aeF F) (aeG F G p l) R sO)) : pw pP mSBModel_atA (116, [some (.inr (some (103))), some (.inl (nI (p))), some (.inl (wh)), some (.inl (a)), some (.inl (b)), some (.inl (c)), some (.inl (nI (l))), some (.inl (nI (hi))), o], [], 0, 0, hb (sL L) F G R sO) Q := by
  refine pw_iload rfl rfl ?_
  refine pw_if1p (cz_ge (by omega)) rfl (t := 122) rfl (fun _ => ?_) (fun q => absurd (by omega) q)
  refine pw_sipush (v := nI (402)) rfl (by decide) ?_
  refine pw_iload_n rfl rfl ?_
  refine pw_imul (z := nI (402 * p)) rfl (pk_mul _ _) ?_
  refine pw_iload rfl rfl ?_
  refine pw_iadd (z := nI (402 * p + l)) rfl (nI_add _ _) ?_
  refine pw_istore (ls1 := [some (.inr (some (103))), some (.inl (nI (p))), some (.inl (wh)), some (.inl (a)), some (.inl (b)), some (.inl (c)), some (.inl (nI (l))), some (.inl (nI (402 * p + l))), o]) rfl (Nat.le_of_ble_eq_true rfl) rfl ?_
  refine pw_aload_n rfl rfl ?_
  refine px_getr (r := some (115)) rfl rfl rfl rfl rfl ?_
  refine pw_iload_n rfl rfl ?_
  refine pw_iload rfl rfl ?_
  refine pw_aload_n rfl rfl ?_
  refine px_getr (r := some (119)) rfl rfl rfl rfl rfl ?_
  refine pw_iload rfl rfl ?_
  refine px_ialdn (x := G (119) (402 * p + l)) rfl rfl (by omega) (by decide) (rfl) ?_
  refine pw_iadd (z := (nI (l)) + (G (119) (402 * p + l))) rfl rfl ?_
  refine px_iastn rfl rfl (by omega) (by decide) ?_
  refine pw_aload_n rfl rfl ?_
  refine px_getr (r := some (121)) rfl rfl rfl rfl rfl ?_
  refine pw_iload rfl rfl ?_
  refine px_ialdn (x := G (121) (402 * p + l)) rfl rfl (by omega) (by decide) (up2_ne1 (by decide)) ?_
  refine pw_iconst (v := nI (1)) rfl (by decide) ?_
  refine pw_if2p (A := ¬ G (121) (402 * p + l) = nI (1)) rfl rfl (t := 176) rfl (fun c1 => ?_) (fun c1 => ?_)
  · -- 176
    refine pw_aload_n rfl rfl ?_
    refine px_getr (r := some (107)) rfl rfl rfl rfl rfl ?_
    refine pw_iload_n rfl rfl ?_
    refine pw_iconst (v := nI (2)) rfl (by decide) ?_
    refine px_iastn rfl rfl (by omega) (by decide) ?_
    refine pw_aload_n rfl rfl ?_
    refine pw_iconst (v := nI (1)) rfl (by decide) ?_
    refine px_put rfl rfl rfl rfl rfl ?_
    refine pw_aload_n rfl rfl ?_
    refine px_getr (r := some (111)) rfl rfl rfl rfl rfl ?_
    refine pw_iload_n rfl rfl ?_
    refine pw_aload_n rfl rfl ?_
    refine px_getr (r := some (115)) rfl rfl rfl rfl rfl ?_
    refine pw_iload_n rfl rfl ?_
    refine px_ialdn (x := (nI (l)) + (G (119) (402 * p + l))) rfl rfl (by omega) (by decide) ((up2_ne1 (by decide)).trans (up2_eq)) ?_
    refine pw_aload_n rfl rfl ?_
    refine px_getr (r := some (116)) rfl rfl rfl rfl rfl ?_
    refine pw_iload_n rfl rfl ?_
    refine px_ialdn (x := G (116) (p)) rfl rfl (by omega) (by decide) ((up2_ne1 (by decide)).trans (up2_ne1 (by decide))) ?_
    refine pw_if2p (A := ¬ (nI (l)) + (G (119) (402 * p + l)) = G (116) (p)) rfl rfl (t := 212) rfl (fun c2 => ?_) (fun c2 => ?_)
    · -- 212
      refine pw_aload_n rfl rfl ?_
      refine px_getv (x := F (103) (3)) rfl rfl rfl rfl (up2_ne2 (by decide)) ?_
      refine pw_aload_n rfl rfl ?_
      refine px_getr (r := some (110)) rfl rfl rfl rfl rfl ?_
      refine pw_iload_n rfl rfl ?_
      refine px_ialdn (x := G (110) (p)) rfl rfl (by omega) (by decide) ((up2_ne1 (by decide)).trans (up2_ne1 (by decide))) ?_
      refine pw_iadd (z := (F (103) (3)) + (G (110) (p))) rfl rfl ?_
      refine px_iastn rfl rfl (by omega) (by decide) ?_
      exact pw_vret rfl rfl (Nat.zero_le _) (Nat.zero_le _) (by simp only [aeG, c1, c2, if_true, if_false] at k; exact k)
    · -- 208
      refine pw_iconst (v := nI (0)) rfl (by decide) ?_
      refine pw_goto (t := 223) rfl rfl ?_
      refine px_iastn rfl rfl (by omega) (by decide) ?_
      exact pw_vret rfl rfl (Nat.zero_le _) (Nat.zero_le _) (by simp only [aeG, c1, c2, if_true, if_false] at k; exact k)
  · -- 159
    refine pw_aload_n rfl rfl ?_
    refine pw_iload_n rfl rfl ?_
    refine pw_aload_n rfl rfl ?_
    refine px_getv (x := F (103) (3)) rfl rfl rfl rfl (rfl) ?_
    refine pw_aload_n rfl rfl ?_
    refine px_getr (r := some (120)) rfl rfl rfl rfl rfl ?_
    refine pw_iload rfl rfl ?_
    refine px_ialdn (x := G (120) (402 * p + l)) rfl rfl (by omega) (by decide) (up2_ne1 (by decide)) ?_
    refine pw_isub (z := (F (103) (3)) - (G (120) (402 * p + l))) rfl rfl ?_
    refine px_callv (as := [.inr (some (103)), .inl (nI (p)), .inl ((F (103) (3)) - (G (120) (402 * p + l)))]) (rest := []) rfl rfl (by decide) rfl (Nat.le_of_ble_eq_true rfl) (Nat.le_of_ble_eq_true rfl) (Nat.le_of_ble_eq_true rfl) (Nat.le_of_ble_eq_true rfl) rfl rfl rfl rfl ?_
    refine t_meas hp ?_
    show pw pP mSBModel_atA (176, [some (.inr (some (103))), some (.inl (nI (p))), some (.inl (wh)), some (.inl (a)), some (.inl (b)), some (.inl (c)), some (.inl (nI (l))), some (.inl (nI (402 * p + l))), o], [], 0, 0, hb (sL L) F (meas_G (up2 G (115) (p) ((nI (l)) + (G (119) (402 * p + l)))) p ((F (103) (3)) - (G (120) (402 * p + l)))) R sO) _
    refine pw_aload_n rfl rfl ?_
    refine px_getr (r := some (107)) rfl rfl rfl rfl rfl ?_
    refine pw_iload_n rfl rfl ?_
    refine pw_iconst (v := nI (2)) rfl (by decide) ?_
    refine px_iastn rfl rfl (by omega) (by decide) ?_
    refine pw_aload_n rfl rfl ?_
    refine pw_iconst (v := nI (1)) rfl (by decide) ?_
    refine px_put rfl rfl rfl rfl rfl ?_
    refine pw_aload_n rfl rfl ?_
    refine px_getr (r := some (111)) rfl rfl rfl rfl rfl ?_
    refine pw_iload_n rfl rfl ?_
    refine pw_aload_n rfl rfl ?_
    refine px_getr (r := some (115)) rfl rfl rfl rfl rfl ?_
    refine pw_iload_n rfl rfl ?_
    refine px_ialdn (x := (meas_G (up2 G (115) (p) ((nI (l)) + (G (119) (402 * p + l)))) p ((F (103) (3)) - (G (120) (402 * p + l)))) (115) (p)) rfl rfl (by omega) (by decide) (up2_ne1 (by decide)) ?_
    refine pw_aload_n rfl rfl ?_
    refine px_getr (r := some (116)) rfl rfl rfl rfl rfl ?_
    refine pw_iload_n rfl rfl ?_
    refine px_ialdn (x := (meas_G (up2 G (115) (p) ((nI (l)) + (G (119) (402 * p + l)))) p ((F (103) (3)) - (G (120) (402 * p + l)))) (116) (p)) rfl rfl (by omega) (by decide) (up2_ne1 (by decide)) ?_
    refine pw_if2p (A := ¬ (meas_G (up2 G (115) (p) ((nI (l)) + (G (119) (402 * p + l)))) p ((F (103) (3)) - (G (120) (402 * p + l)))) (115) (p) = (meas_G (up2 G (115) (p) ((nI (l)) + (G (119) (402 * p + l)))) p ((F (103) (3)) - (G (120) (402 * p + l)))) (116) (p)) rfl rfl (t := 212) rfl (fun c3 => ?_) (fun c3 => ?_)
    · -- 212
      refine pw_aload_n rfl rfl ?_
      refine px_getv (x := F (103) (3)) rfl rfl rfl rfl (up2_ne2 (by decide)) ?_
      refine pw_aload_n rfl rfl ?_
      refine px_getr (r := some (110)) rfl rfl rfl rfl rfl ?_
      refine pw_iload_n rfl rfl ?_
      refine px_ialdn (x := (meas_G (up2 G (115) (p) ((nI (l)) + (G (119) (402 * p + l)))) p ((F (103) (3)) - (G (120) (402 * p + l)))) (110) (p)) rfl rfl (by omega) (by decide) (up2_ne1 (by decide)) ?_
      refine pw_iadd (z := (F (103) (3)) + ((meas_G (up2 G (115) (p) ((nI (l)) + (G (119) (402 * p + l)))) p ((F (103) (3)) - (G (120) (402 * p + l)))) (110) (p))) rfl rfl ?_
      refine px_iastn rfl rfl (by omega) (by decide) ?_
      exact pw_vret rfl rfl (Nat.zero_le _) (Nat.zero_le _) (by simp only [aeG, c1, c3, if_true, if_false] at k; exact k)
    · -- 208
      refine pw_iconst (v := nI (0)) rfl (by decide) ?_
      refine pw_goto (t := 223) rfl rfl ?_
      refine px_iastn rfl rfl (by omega) (by decide) ?_
      exact pw_vret rfl rfl (Nat.zero_le _) (Nat.zero_le _) (by simp only [aeG, c1, c3, if_true, if_false] at k; exact k)
theorem t_atA_none {L p hi : Nat} {wh a b c : Int32} {F G : FN} {R : RN} {o : Option PV} {Q : Option PV → PH → Prop} (k : Q none (hb (sL L) F G R sO)) : pw pP mSBModel_atA (116, [some (.inr (some (103))), some (.inl (nI (p))), some (.inl (wh)), some (.inl (a)), some (.inl (b)), some (.inl (c)), some (.inl (oI none)), some (.inl (nI (hi))), o], [], 0, 0, hb (sL L) F G R sO) Q := by
  refine pw_iload rfl rfl ?_
  refine pw_if1p (A := 0 ≤ oI none) rfl rfl (t := 122) rfl (fun q => absurd q (by decide)) (fun _ => ?_)
  exact pw_vret rfl rfl (Nat.zero_le _) (Nat.zero_le _) k
def a5F (F G : FN) (p : Nat) (a : Int32) (lw hi : Nat) : FN := match tla G p a (hi - lw) lw none with
  | none => F
  | some _ => aeF F
def a5G (F G : FN) (p : Nat) (a : Int32) (lw hi : Nat) : FN := match tla G p a (hi - lw) lw none with
  | none => G
  | some l => aeG F G p l
theorem tla_lt {G : FN} {p : Nat} {a : Int32} {m : Nat} : ∀ (n j : Nat) (l : Option Nat), j + n ≤ m → (∀ x, l = some x → x < m) → ∀ x, tla G p a n j l = some x → x < m
  | 0, _, _, _, hl, x, e => hl x e
  | n + 1, j, l, hn, hl, x, e => by
    refine tla_lt n (j + 1) _ (by omega) ?_ x e
    intro y hy
    split at hy
    · exact hl y hy
    · split at hy
      · exact hl y hy
      · cases hy
        omega
theorem t_atA_55 {L p lw hi : Nat} {wh a b c : Int32} {F G : FN} {R : RN} {Q : Option PV → PH → Prop} (hp : p < 4) (hlw : G 115 p = nI lw) (hhi : G 116 p = nI hi) (hlh : lw ≤ hi) (hh : hi ≤ 402) (k : Q none (hb (sL L) (a5F F G p a lw hi) (a5G F G p a lw hi) R sO)) : pw pP mSBModel_atA (55, [some (.inr (some (103))), some (.inl (nI (p))), some (.inl (wh)), some (.inl (a)), some (.inl (b)), some (.inl (c)), none, none, none], [], 0, 0, hb (sL L) F G R sO) Q := by
  refine pw_iconst (v := (-1)) rfl (by decide) ?_
  refine pw_istore (ls1 := [some (.inr (some (103))), some (.inl (nI (p))), some (.inl (wh)), some (.inl (a)), some (.inl (b)), some (.inl (c)), some (.inl ((-1))), none, none]) rfl (Nat.le_of_ble_eq_true rfl) rfl ?_
  refine pw_aload_n rfl rfl ?_
  refine px_getr (r := some (115)) rfl rfl rfl rfl rfl ?_
  refine pw_iload_n rfl rfl ?_
  refine px_ialdn (x := nI (lw)) rfl rfl (by omega) (by decide) (hlw) ?_
  refine pw_istore (ls1 := [some (.inr (some (103))), some (.inl (nI (p))), some (.inl (wh)), some (.inl (a)), some (.inl (b)), some (.inl (c)), some (.inl ((-1))), some (.inl (nI (lw))), none]) rfl (Nat.le_of_ble_eq_true rfl) rfl ?_
  refine t_atA_lp hp hhi hh (hi - lw) lw none _ (by omega) (fun o => ?_)
  cases e : tla G p a (hi - lw) lw none with
  | none =>
    simp only [a5F, a5G, e] at k
    exact t_atA_none k
  | some l =>
    simp only [a5F, a5G, e] at k
    exact t_atA_end hp (Nat.lt_of_lt_of_le (tla_lt (m := hi) (hi - lw) lw none (by omega) (fun x h => by cases h) l e) hh) k
def akF (F : FN) (b c : Int32) : FN := up2 (up2 F 103 22 (if b ≤ F 103 22 then F 103 22 else b)) 103 23 (if c ≤ F 103 23 then F 103 23 else c)
theorem t_atA {L p lw hi : Nat} {wh a b c : Int32} {F G : FN} {R : RN} (hw : ¬ wh = nI 3) (hp : p < 4) (hlw : G 115 p = nI lw) (hhi : G 116 p = nI hi) (hlh : lw ≤ hi) (hh : hi ≤ 402) {Q : Option PV → PH → Prop} (k : Q none (hb (sL L) (a5F (akF F b c) G p a lw hi) (a5G (akF F b c) G p a lw hi) R sO)) : pz pP mSBModel_atA [.inr (some (103)), .inl (nI (p)), .inl (wh), .inl (a), .inl (b), .inl (c)] (hb (sL L) F G R sO) Q := by
  show pw pP mSBModel_atA (0, [some (.inr (some (103))), some (.inl (nI (p))), some (.inl (wh)), some (.inl (a)), some (.inl (b)), some (.inl (c)), none, none, none], [], 0, 0, hb (sL L) F G R sO) _
  refine pw_iload_n rfl rfl ?_
  refine pw_iconst (v := nI (3)) rfl (by decide) ?_
  refine pw_if2p (A := ¬ wh = nI (3)) rfl rfl (t := 11) rfl (fun _ => ?_) (fun q => absurd hw q)
  refine pw_aload_n rfl rfl ?_
  refine pw_iload rfl rfl ?_
  refine pw_aload_n rfl rfl ?_
  refine px_getv (x := F (103) (22)) rfl rfl rfl rfl (rfl) ?_
  refine pw_if2p (A := b ≤ F (103) (22)) rfl rfl (t := 26) rfl (fun c1 => ?_) (fun c1 => ?_)
  · -- 26
    refine pw_aload_n rfl rfl ?_
    refine px_getv (x := F (103) (22)) rfl rfl rfl rfl (rfl) ?_
    refine px_put rfl rfl rfl rfl rfl ?_
    refine pw_aload_n rfl rfl ?_
    refine pw_iload rfl rfl ?_
    refine pw_aload_n rfl rfl ?_
    refine px_getv (x := F (103) (23)) rfl rfl rfl rfl (up2_ne2 (by decide)) ?_
    refine pw_if2p (A := c ≤ F (103) (23)) rfl rfl (t := 48) rfl (fun c2 => ?_) (fun c2 => ?_)
    · -- 48
      refine pw_aload_n rfl rfl ?_
      refine px_getv (x := F (103) (23)) rfl rfl rfl rfl (up2_ne2 (by decide)) ?_
      refine px_put rfl rfl rfl rfl rfl ?_
      have e : akF F b c = (up2 (up2 F (103) (22) (F (103) (22))) (103) (23) (F (103) (23))) := by simp only [akF, c1, c2, if_true, if_false]
      rw [e] at k
      exact t_atA_55 hp hlw hhi hlh hh k
    · -- 43
      refine pw_iload rfl rfl ?_
      refine pw_goto (t := 52) rfl rfl ?_
      refine px_put rfl rfl rfl rfl rfl ?_
      have e : akF F b c = (up2 (up2 F (103) (22) (F (103) (22))) (103) (23) (c)) := by simp only [akF, c1, c2, if_true, if_false]
      rw [e] at k
      exact t_atA_55 hp hlw hhi hlh hh k
  · -- 21
    refine pw_iload rfl rfl ?_
    refine pw_goto (t := 30) rfl rfl ?_
    refine px_put rfl rfl rfl rfl rfl ?_
    refine pw_aload_n rfl rfl ?_
    refine pw_iload rfl rfl ?_
    refine pw_aload_n rfl rfl ?_
    refine px_getv (x := F (103) (23)) rfl rfl rfl rfl (up2_ne2 (by decide)) ?_
    refine pw_if2p (A := c ≤ F (103) (23)) rfl rfl (t := 48) rfl (fun c3 => ?_) (fun c3 => ?_)
    · -- 48
      refine pw_aload_n rfl rfl ?_
      refine px_getv (x := F (103) (23)) rfl rfl rfl rfl (up2_ne2 (by decide)) ?_
      refine px_put rfl rfl rfl rfl rfl ?_
      have e : akF F b c = (up2 (up2 F (103) (22) (b)) (103) (23) (F (103) (23))) := by simp only [akF, c1, c3, if_true, if_false]
      rw [e] at k
      exact t_atA_55 hp hlw hhi hlh hh k
    · -- 43
      refine pw_iload rfl rfl ?_
      refine pw_goto (t := 52) rfl rfl ?_
      refine px_put rfl rfl rfl rfl rfl ?_
      have e : akF F b c = (up2 (up2 F (103) (22) (b)) (103) (23) (c)) := by simp only [akF, c1, c3, if_true, if_false]
      rw [e] at k
      exact t_atA_55 hp hlw hhi hlh hh k
/-- SBModel_atA -/
def atA3_G (G : FN) (p : Nat) : FN := (shut_G G p)
theorem t_atA3 {L p : Nat} {a b c : Int32} {F G : FN} {R : RN} (hp : p < 4) {Q : Option PV → PH → Prop} (k : Q none (hb (sL L) F (atA3_G G p) R sO)) : pz pP mSBModel_atA [.inr (some (103)), .inl (nI (p)), .inl (nI (3)), .inl (a), .inl (b), .inl (c)] (hb (sL L) F G R sO) Q := by
  show pw pP mSBModel_atA (0, [some (.inr (some (103))), some (.inl (nI (p))), some (.inl (nI (3))), some (.inl (a)), some (.inl (b)), some (.inl (c)), none, none, none], [], 0, 0, hb (sL L) F G R sO) _
  refine pw_iload_n rfl rfl ?_
  refine pw_iconst (v := nI (3)) rfl (by decide) ?_
  refine pw_if2 (t := 11) rfl rfl (fun q => absurd q (by decide)) (fun _ => ?_)
  refine pw_aload_n rfl rfl ?_
  refine pw_iload_n rfl rfl ?_
  refine px_callv (as := [.inr (some (103)), .inl (nI (p))]) (rest := []) rfl rfl (by decide) rfl (Nat.le_of_ble_eq_true rfl) (Nat.le_of_ble_eq_true rfl) (Nat.le_of_ble_eq_true rfl) (Nat.le_of_ble_eq_true rfl) rfl rfl rfl rfl ?_
  refine t_shut hp ?_
  show pw pP mSBModel_atA (10, [some (.inr (some (103))), some (.inl (nI (p))), some (.inl (nI (3))), some (.inl (a)), some (.inl (b)), some (.inl (c)), none, none, none], [], 0, 0, hb (sL L) F (shut_G G p) R sO) _
  exact pw_vret rfl rfl (Nat.zero_le _) (Nat.zero_le _) k
end
section
/-! THE REFERENCE, eighth part: B hears, write, open. Rows laid by a program (wip/whole/gen/twin7.py). -/
def tex (G : FN) (p : Nat) : Nat → Nat → Nat
  | 0, e => e
  | n + 1, e => tex G p n (if G 105 (402 * p + n) = 0 then 0 else e + 1)
def dj (n : Nat) : Int32 := match n with
  | 0 => -1
  | n + 1 => nI n
theorem dj_dec (n : Nat) : nI n + Int32.ofInt (-1) = dj n := by
  cases n with
  | zero => decide
  | succ n =>
    rw [show Int32.ofInt (-1) = -1 by decide]
    exact pk_m1 n
theorem t_atB_lp {L p : Nat} {wh a b m : Int32} {F G : FN} {R : RN} {Q : Option PV → PH → Prop} (hp : p < 4) : ∀ (n e : Nat), n ≤ 402 → pw pP mSBModel_atB (191, [some (.inr (some (103))), some (.inl (nI (p))), some (.inl (wh)), some (.inl (a)), some (.inl (b)), some (.inl (m)), some (.inl (nI (tex G p n e))), some (.inl (-1))], [], 0, 0, hb (sL L) F G R sO) Q → pw pP mSBModel_atB (154, [some (.inr (some (103))), some (.inl (nI (p))), some (.inl (wh)), some (.inl (a)), some (.inl (b)), some (.inl (m)), some (.inl (nI (e))), some (.inl (dj n))], [], 0, 0, hb (sL L) F G R sO) Q := by
  intro n
  induction n with
  | zero =>
    intro e hn k
    show pw pP mSBModel_atB (154, [some (.inr (some (103))), some (.inl (nI (p))), some (.inl (wh)), some (.inl (a)), some (.inl (b)), some (.inl (m)), some (.inl (nI (e))), some (.inl (-1))], [], 0, 0, hb (sL L) F G R sO) Q
    refine pw_iload rfl rfl ?_
    refine pw_if1p (A := -1 < 0) rfl rfl (t := 191) rfl (fun _ => ?_) (fun q => absurd (by decide) q)
    exact k
  | succ n ih =>
    intro e hn k
    show pw pP mSBModel_atB (154, [some (.inr (some (103))), some (.inl (nI (p))), some (.inl (wh)), some (.inl (a)), some (.inl (b)), some (.inl (m)), some (.inl (nI (e))), some (.inl (nI (n)))], [], 0, 0, hb (sL L) F G R sO) Q
    refine pw_iload rfl rfl ?_
    refine pw_if1p (cz_lt (by omega)) rfl (t := 191) rfl (fun q => absurd q (by omega)) (fun _ => ?_)
    refine pw_aload_n rfl rfl ?_
    refine px_getr (r := some (105)) rfl rfl rfl rfl rfl ?_
    refine pw_sipush (v := nI (402)) rfl (by decide) ?_
    refine pw_iload_n rfl rfl ?_
    refine pw_imul (z := nI (402 * p)) rfl (pk_mul _ _) ?_
    refine pw_iload rfl rfl ?_
    refine pw_iadd (z := nI (402 * p + n)) rfl (nI_add _ _) ?_
    refine px_zaldn (x := G (105) (402 * p + n)) rfl rfl (by omega) (by decide) (rfl) ?_
    refine pw_if1p (A := G (105) (402 * p + n) = 0) rfl rfl (t := 182) rfl (fun c1 => ?_) (fun c1 => ?_)
    · -- 182
      refine pw_iconst (v := nI (0)) rfl (by decide) ?_
      refine pw_istore (ls1 := [some (.inr (some (103))), some (.inl (nI (p))), some (.inl (wh)), some (.inl (a)), some (.inl (b)), some (.inl (m)), some (.inl (nI (0))), some (.inl (nI (n)))]) rfl (Nat.le_of_ble_eq_true rfl) rfl ?_
      refine pw_iinc (v := dj n) (ls1 := [some (.inr (some (103))), some (.inl (nI (p))), some (.inl (wh)), some (.inl (a)), some (.inl (b)), some (.inl (m)), some (.inl (nI (0))), some (.inl (dj n))]) rfl rfl (dj_dec n) rfl ?_
      refine pw_goto (t := 154) rfl rfl ?_
      exact ih _ (by omega) (by simp only [tex, c1, if_true, if_false] at k; exact k)
    · -- 175
      refine pw_iload rfl rfl ?_
      refine pw_iconst (v := nI (1)) rfl (by decide) ?_
      refine pw_iadd (z := nI (e + 1)) rfl (nI_add _ _) ?_
      refine pw_goto (t := 183) rfl rfl ?_
      refine pw_istore (ls1 := [some (.inr (some (103))), some (.inl (nI (p))), some (.inl (wh)), some (.inl (a)), some (.inl (b)), some (.inl (m)), some (.inl (nI (e + 1))), some (.inl (nI (n)))]) rfl (Nat.le_of_ble_eq_true rfl) rfl ?_
      refine pw_iinc (v := dj n) (ls1 := [some (.inr (some (103))), some (.inl (nI (p))), some (.inl (wh)), some (.inl (a)), some (.inl (b)), some (.inl (m)), some (.inl (nI (e + 1))), some (.inl (dj n))]) rfl rfl (dj_dec n) rfl ?_
      refine pw_goto (t := 154) rfl rfl ?_
      exact ih _ (by omega) (by simp only [tex, c1, if_true, if_false] at k; exact k)
/-- B answers -/
def tans (F G : FN) (p fl nx bu : Nat) : FN := tship F G (2 * p + 1) fl (nI 2) (nI (tex G p 402 0)) (nI (lead (G 106) 401 0)) (nI (nx + bu)) (nI 0)
theorem t_atB_tail {L p fl nx bu : Nat} {wh a b m : Int32} {F G : FN} {R : RN} {o6 o7 : Option PV} {Q : Option PV → PH → Prop} (hp : p < 4) (hfl : G 124 (2 * p + 1) = nI fl) (hf6 : fl ≤ 6) (hnx : F 103 10 = nI nx) (hbu : F 103 1 = nI bu) (k : Q none (hb (sL L) F (tans F G p fl nx bu) R sO)) : pw pP mSBModel_atB (146, [some (.inr (some (103))), some (.inl (nI (p))), some (.inl (wh)), some (.inl (a)), some (.inl (b)), some (.inl (m)), o6, o7], [], 0, 0, hb (sL L) F G R sO) Q := by
  refine pw_iconst (v := nI (0)) rfl (by decide) ?_
  refine pw_istore (ls1 := [some (.inr (some (103))), some (.inl (nI (p))), some (.inl (wh)), some (.inl (a)), some (.inl (b)), some (.inl (m)), some (.inl (nI (0))), o7]) rfl (Nat.le_of_ble_eq_true rfl) rfl ?_
  refine pw_sipush (v := nI (401)) rfl (by decide) ?_
  refine pw_istore (ls1 := [some (.inr (some (103))), some (.inl (nI (p))), some (.inl (wh)), some (.inl (a)), some (.inl (b)), some (.inl (m)), some (.inl (nI (0))), some (.inl (nI (401)))]) rfl (Nat.le_of_ble_eq_true rfl) rfl ?_
  refine t_atB_lp hp 402 0 (by decide) ?_
  refine pw_aload_n rfl rfl ?_
  refine px_callv (as := [.inr (some (103))]) (rest := []) rfl rfl (by decide) rfl (Nat.le_of_ble_eq_true rfl) (Nat.le_of_ble_eq_true rfl) (Nat.le_of_ble_eq_true rfl) (Nat.le_of_ble_eq_true rfl) rfl rfl rfl rfl ?_
  refine t_received ?_
  show pw pP mSBModel_atB (195, [some (.inr (some (103))), some (.inl (nI (p))), some (.inl (wh)), some (.inl (a)), some (.inl (b)), some (.inl (m)), some (.inl (nI (tex G p 402 0))), some (.inl (-1))], [.inl (nI (lead (G 106) 401 0))], 0, 0, hb (sL L) F G R sO) _
  refine pw_istore (ls1 := [some (.inr (some (103))), some (.inl (nI (p))), some (.inl (wh)), some (.inl (a)), some (.inl (b)), some (.inl (m)), some (.inl (nI (tex G p 402 0))), some (.inl (nI (lead (G 106) 401 0)))]) rfl (Nat.le_of_ble_eq_true rfl) rfl ?_
  refine pw_aload_n rfl rfl ?_
  refine pw_iconst (v := nI (2)) rfl (by decide) ?_
  refine pw_iload_n rfl rfl ?_
  refine pw_imul (z := nI (2 * p)) rfl (pk_mul _ _) ?_
  refine pw_iconst (v := nI (1)) rfl (by decide) ?_
  refine pw_iadd (z := nI (2 * p + 1)) rfl (nI_add _ _) ?_
  refine pw_iconst (v := nI (2)) rfl (by decide) ?_
  refine pw_iload rfl rfl ?_
  refine pw_iload rfl rfl ?_
  refine pw_aload_n rfl rfl ?_
  refine px_getv (x := nI (nx)) rfl rfl rfl rfl (hnx) ?_
  refine pw_aload_n rfl rfl ?_
  refine px_getv (x := nI (bu)) rfl rfl rfl rfl (hbu) ?_
  refine pw_iadd (z := nI (nx + bu)) rfl (nI_add _ _) ?_
  refine pw_iconst (v := nI (0)) rfl (by decide) ?_
  refine px_callv (as := [.inr (some (103)), .inl (nI (2 * p + 1)), .inl (nI (2)), .inl (nI (tex G p 402 0)), .inl (nI (lead (G 106) 401 0)), .inl (nI (nx + bu)), .inl (nI (0))]) (rest := []) rfl rfl (by decide) rfl (Nat.le_of_ble_eq_true rfl) (Nat.le_of_ble_eq_true rfl) (Nat.le_of_ble_eq_true rfl) (Nat.le_of_ble_eq_true rfl) rfl rfl rfl rfl ?_
  refine t_ship (by omega) (hfl) hf6 ?_
  show pw pP mSBModel_atB (221, [some (.inr (some (103))), some (.inl (nI (p))), some (.inl (wh)), some (.inl (a)), some (.inl (b)), some (.inl (m)), some (.inl (nI (tex G p 402 0))), some (.inl (nI (lead (G 106) 401 0)))], [], 0, 0, hb (sL L) F (tship F G (2 * p + 1) fl (nI (2)) (nI (tex G p 402 0)) (nI (lead (G 106) 401 0)) (nI (nx + bu)) (nI (0))) R sO) _
  exact pw_vret rfl rfl (Nat.zero_le _) (Nat.zero_le _) k
def abSF (F G : FN) (p : Nat) (b : Int32) : FN := if G 105 (402 * p) = 0 then (if ¬ F 103 9 = 0 ∧ ¬ b = F 103 2 then F else up2 F 103 9 (nI 1)) else F
def abSG (F G : FN) (p : Nat) (b : Int32) (fl nx bu : Nat) : FN := if G 105 (402 * p) = 0 then (if ¬ F 103 9 = 0 ∧ ¬ b = F 103 2 then tship F G (2 * p + 1) fl (nI 3) (nI 0) (nI 0) (nI 0) (nI 0) else tans (up2 F 103 9 (nI 1)) (up2 G 105 (402 * p) (nI 1)) p fl nx bu) else tans F G p fl nx bu
theorem t_atB0 {L p fl nx bu : Nat} {a b m : Int32} {F G : FN} {R : RN} (hp : p < 4) (hfl : G 124 (2 * p + 1) = nI fl) (hf6 : fl ≤ 6) (hnx : F 103 10 = nI nx) (hbu : F 103 1 = nI bu) {Q : Option PV → PH → Prop} (k : Q none (hb (sL L) (abSF F G p b) (abSG F G p b fl nx bu) R sO)) : pz pP mSBModel_atB [.inr (some (103)), .inl (nI (p)), .inl (nI (0)), .inl (a), .inl (b), .inl (m)] (hb (sL L) F G R sO) Q := by
  show pw pP mSBModel_atB (0, [some (.inr (some (103))), some (.inl (nI (p))), some (.inl (nI (0))), some (.inl (a)), some (.inl (b)), some (.inl (m)), none, none], [], 0, 0, hb (sL L) F G R sO) _
  refine pw_iload_n rfl rfl ?_
  refine pw_if1 (t := 64) rfl rfl (fun q => absurd q (by decide)) (fun _ => ?_)
  refine pw_aload_n rfl rfl ?_
  refine px_getr (r := some (105)) rfl rfl rfl rfl rfl ?_
  refine pw_sipush (v := nI (402)) rfl (by decide) ?_
  refine pw_iload_n rfl rfl ?_
  refine pw_imul (z := nI (402 * p)) rfl (pk_mul _ _) ?_
  refine px_zaldn (x := G (105) (402 * p)) rfl rfl (by omega) (by decide) (rfl) ?_
  refine pw_if1p (A := ¬ G (105) (402 * p) = 0) rfl rfl (t := 64) rfl (fun c1 => ?_) (fun c1 => ?_)
  · -- 64
    refine pw_iload_n rfl rfl ?_
    refine pw_iconst (v := nI (1)) rfl (by decide) ?_
    refine pw_if2 (t := 146) rfl rfl (fun _ => ?_) (fun q => absurd q (by decide))
    simp only [abSF, abSG, eq_false c1, not_true_eq_false, not_false_eq_true, and_self, and_true, true_and, and_false, false_and, or_true, true_or, or_false, false_or, or_self, if_true, if_false] at k
    exact t_atB_tail hp hfl hf6 hnx hbu k
  · -- 17
    refine pw_aload_n rfl rfl ?_
    refine px_getv (x := F (103) (9)) rfl rfl rfl rfl (rfl) ?_
    refine pw_if1p (A := F (103) (9) = 0) rfl rfl (t := 48) rfl (fun c2 => ?_) (fun c2 => ?_)
    · -- 48
      refine pw_aload_n rfl rfl ?_
      refine pw_iconst (v := nI (1)) rfl (by decide) ?_
      refine px_put rfl rfl rfl rfl rfl ?_
      refine pw_aload_n rfl rfl ?_
      refine px_getr (r := some (105)) rfl rfl rfl rfl rfl ?_
      refine pw_sipush (v := nI (402)) rfl (by decide) ?_
      refine pw_iload_n rfl rfl ?_
      refine pw_imul (z := nI (402 * p)) rfl (pk_mul _ _) ?_
      refine pw_iconst (v := nI (1)) rfl (by decide) ?_
      refine px_zastn (x1 := nI (1)) rfl rfl (by omega) (by decide) (by decide) ?_
      refine pw_iload_n rfl rfl ?_
      refine pw_iconst (v := nI (1)) rfl (by decide) ?_
      refine pw_if2 (t := 146) rfl rfl (fun _ => ?_) (fun q => absurd q (by decide))
      simp only [abSF, abSG, eq_true (Decidable.of_not_not c1), eq_true c2, not_true_eq_false, not_false_eq_true, and_self, and_true, true_and, and_false, false_and, or_true, true_or, or_false, false_or, or_self, if_true, if_false] at k
      exact t_atB_tail hp ((up2_ne1 (by decide)).trans hfl) hf6 ((up2_ne2 (by decide)).trans hnx) ((up2_ne2 (by decide)).trans hbu) k
    · -- 24
      refine pw_iload rfl rfl ?_
      refine pw_aload_n rfl rfl ?_
      refine px_getv (x := F (103) (2)) rfl rfl rfl rfl (rfl) ?_
      refine pw_if2p (A := b = F (103) (2)) rfl rfl (t := 48) rfl (fun c3 => ?_) (fun c3 => ?_)
      · -- 48
        refine pw_aload_n rfl rfl ?_
        refine pw_iconst (v := nI (1)) rfl (by decide) ?_
        refine px_put rfl rfl rfl rfl rfl ?_
        refine pw_aload_n rfl rfl ?_
        refine px_getr (r := some (105)) rfl rfl rfl rfl rfl ?_
        refine pw_sipush (v := nI (402)) rfl (by decide) ?_
        refine pw_iload_n rfl rfl ?_
        refine pw_imul (z := nI (402 * p)) rfl (pk_mul _ _) ?_
        refine pw_iconst (v := nI (1)) rfl (by decide) ?_
        refine px_zastn (x1 := nI (1)) rfl rfl (by omega) (by decide) (by decide) ?_
        refine pw_iload_n rfl rfl ?_
        refine pw_iconst (v := nI (1)) rfl (by decide) ?_
        refine pw_if2 (t := 146) rfl rfl (fun _ => ?_) (fun q => absurd q (by decide))
        simp only [abSF, abSG, eq_true (Decidable.of_not_not c1), eq_false c2, eq_true c3, not_true_eq_false, not_false_eq_true, and_self, and_true, true_and, and_false, false_and, or_true, true_or, or_false, false_or, or_self, if_true, if_false] at k
        exact t_atB_tail hp ((up2_ne1 (by decide)).trans hfl) hf6 ((up2_ne2 (by decide)).trans hnx) ((up2_ne2 (by decide)).trans hbu) k
      · -- 33
        refine pw_aload_n rfl rfl ?_
        refine pw_iconst (v := nI (2)) rfl (by decide) ?_
        refine pw_iload_n rfl rfl ?_
        refine pw_imul (z := nI (2 * p)) rfl (pk_mul _ _) ?_
        refine pw_iconst (v := nI (1)) rfl (by decide) ?_
        refine pw_iadd (z := nI (2 * p + 1)) rfl (nI_add _ _) ?_
        refine pw_iconst (v := nI (3)) rfl (by decide) ?_
        refine pw_iconst (v := nI (0)) rfl (by decide) ?_
        refine pw_iconst (v := nI (0)) rfl (by decide) ?_
        refine pw_iconst (v := nI (0)) rfl (by decide) ?_
        refine pw_iconst (v := nI (0)) rfl (by decide) ?_
        refine px_callv (as := [.inr (some (103)), .inl (nI (2 * p + 1)), .inl (nI (3)), .inl (nI (0)), .inl (nI (0)), .inl (nI (0)), .inl (nI (0))]) (rest := []) rfl rfl (by decide) rfl (Nat.le_of_ble_eq_true rfl) (Nat.le_of_ble_eq_true rfl) (Nat.le_of_ble_eq_true rfl) (Nat.le_of_ble_eq_true rfl) rfl rfl rfl rfl ?_
        refine t_ship (by omega) (hfl) hf6 ?_
        show pw pP mSBModel_atB (47, [some (.inr (some (103))), some (.inl (nI (p))), some (.inl (nI (0))), some (.inl (a)), some (.inl (b)), some (.inl (m)), none, none], [], 0, 0, hb (sL L) F (tship F G (2 * p + 1) fl (nI (3)) (nI (0)) (nI (0)) (nI (0)) (nI (0))) R sO) _
        simp only [abSF, abSG, eq_true (Decidable.of_not_not c1), eq_false c2, eq_false c3, not_true_eq_false, not_false_eq_true, and_self, and_true, true_and, and_false, false_and, or_true, true_or, or_false, false_or, or_self, if_true, if_false] at k
        exact pw_vret rfl rfl (Nat.zero_le _) (Nat.zero_le _) k
def tdn (p a b : Nat) : Nat → Nat → FN → FN
  | 0, _, G => G
  | n + 1, j, G => tdn p a b n (j + 1) (up2 (up2 G 105 (402 * p + a + j) (nI 1)) 106 (b + j) (nI 1))
theorem tdn_row {p a b r : Nat} (h1 : ¬ r = 105) (h2 : ¬ r = 106) : ∀ (n j : Nat) (G : FN), tdn p a b n j G r = G r
  | 0, _, _ => rfl
  | n + 1, j, G => by
    refine (tdn_row h1 h2 n (j + 1) _).trans ?_
    rw [up2_row h2, up2_row h1]
theorem t_atB_dl {L p a b m : Nat} {F : FN} {R : RN} {Q : Option PV → PH → Prop} (hp : p < 4) (ha : a + m ≤ 402) (hb1 : b + m ≤ 401) : ∀ (n j : Nat) (G : FN), j + n = m → pw pP mSBModel_atB (146, [some (.inr (some (103))), some (.inl (nI (p))), some (.inl (nI (1))), some (.inl (nI (a))), some (.inl (nI (b))), some (.inl (nI (m))), some (.inl (nI (m))), none], [], 0, 0, hb (sL L) F (tdn p a b n j G) R sO) Q → pw pP mSBModel_atB (106, [some (.inr (some (103))), some (.inl (nI (p))), some (.inl (nI (1))), some (.inl (nI (a))), some (.inl (nI (b))), some (.inl (nI (m))), some (.inl (nI (j))), none], [], 0, 0, hb (sL L) F G R sO) Q := by
  intro n
  induction n with
  | zero =>
    intro j G hn k
    have e : m = j := by omega
    subst e
    refine pw_iload rfl rfl ?_
    refine pw_iload rfl rfl ?_
    refine pw_if2p (cn_ge (by omega) (by omega)) rfl (t := 146) rfl (fun c1 => ?_) (fun c1 => ?_)
    · -- 146
      exact k
    · -- 113
      exact absurd c1 (by omega)
  | succ n ih =>
    intro j G hn k
    refine pw_iload rfl rfl ?_
    refine pw_iload rfl rfl ?_
    refine pw_if2p (cn_ge (by omega) (by omega)) rfl (t := 146) rfl (fun c1 => ?_) (fun c1 => ?_)
    · -- 146
      exact absurd c1 (by omega)
    · -- 113
      refine pw_aload_n rfl rfl ?_
      refine px_getr (r := some (105)) rfl rfl rfl rfl rfl ?_
      refine pw_sipush (v := nI (402)) rfl (by decide) ?_
      refine pw_iload_n rfl rfl ?_
      refine pw_imul (z := nI (402 * p)) rfl (pk_mul _ _) ?_
      refine pw_iload_n rfl rfl ?_
      refine pw_iadd (z := nI (402 * p + a)) rfl (nI_add _ _) ?_
      refine pw_iload rfl rfl ?_
      refine pw_iadd (z := nI (402 * p + a + j)) rfl (nI_add _ _) ?_
      refine pw_iconst (v := nI (1)) rfl (by decide) ?_
      refine px_zastn (x1 := nI (1)) rfl rfl (by omega) (by decide) (by decide) ?_
      refine pw_aload_n rfl rfl ?_
      refine px_getr (r := some (106)) rfl rfl rfl rfl rfl ?_
      refine pw_iload rfl rfl ?_
      refine pw_iload rfl rfl ?_
      refine pw_iadd (z := nI (b + j)) rfl (nI_add _ _) ?_
      refine pw_iconst (v := nI (1)) rfl (by decide) ?_
      refine px_zastn (x1 := nI (1)) rfl rfl (by omega) (by decide) (by decide) ?_
      refine pw_iinc (v := nI (j + 1)) (ls1 := [some (.inr (some (103))), some (.inl (nI (p))), some (.inl (nI (1))), some (.inl (nI (a))), some (.inl (nI (b))), some (.inl (nI (m))), some (.inl (nI (j + 1))), none]) rfl rfl (iinc_n _) rfl ?_
      refine pw_goto (t := 106) rfl rfl ?_
      exact ih (j + 1) _ (by omega) k
def abDG (F G : FN) (p a b m fl nx bu : Nat) : FN := if ¬ G 105 (402 * p + a) = 0 then tans F G p fl nx bu else if nx + bu ≤ b + m - 1 then tans F G p fl nx bu else tans F (tdn p a b m 0 G) p fl nx bu
theorem t_atB1 {L p a b m fl nx bu : Nat} {F G : FN} {R : RN} (hp : p < 4) (ha : a + m ≤ 402) (hb1 : b + m ≤ 401) (hm : 0 < m) (hfl : G 124 (2 * p + 1) = nI fl) (hf6 : fl ≤ 6) (hnx : F 103 10 = nI nx) (hn2 : nx ≤ 401) (hbu : F 103 1 = nI bu) (hb2 : bu ≤ 56) {Q : Option PV → PH → Prop} (k : Q none (hb (sL L) F (abDG F G p a b m fl nx bu) R sO)) : pz pP mSBModel_atB [.inr (some (103)), .inl (nI (p)), .inl (nI (1)), .inl (nI (a)), .inl (nI (b)), .inl (nI (m))] (hb (sL L) F G R sO) Q := by
  show pw pP mSBModel_atB (0, [some (.inr (some (103))), some (.inl (nI (p))), some (.inl (nI (1))), some (.inl (nI (a))), some (.inl (nI (b))), some (.inl (nI (m))), none, none], [], 0, 0, hb (sL L) F G R sO) _
  refine pw_iload_n rfl rfl ?_
  refine pw_if1 (t := 64) rfl rfl (fun _ => ?_) (fun q => absurd q (by decide))
  refine pw_iload_n rfl rfl ?_
  refine pw_iconst (v := nI (1)) rfl (by decide) ?_
  refine pw_if2 (t := 146) rfl rfl (fun q => absurd q (by decide)) (fun _ => ?_)
  refine pw_aload_n rfl rfl ?_
  refine px_getr (r := some (105)) rfl rfl rfl rfl rfl ?_
  refine pw_sipush (v := nI (402)) rfl (by decide) ?_
  refine pw_iload_n rfl rfl ?_
  refine pw_imul (z := nI (402 * p)) rfl (pk_mul _ _) ?_
  refine pw_iload_n rfl rfl ?_
  refine pw_iadd (z := nI (402 * p + a)) rfl (nI_add _ _) ?_
  refine px_zaldn (x := G (105) (402 * p + a)) rfl rfl (by omega) (by decide) (rfl) ?_
  refine pw_if1p (A := ¬ G (105) (402 * p + a) = 0) rfl rfl (t := 146) rfl (fun c1 => ?_) (fun c1 => ?_)
  · -- 146
    simp only [abDG, c1, if_true, if_false] at k
    exact t_atB_tail hp hfl hf6 hnx hbu k
  · -- 84
    refine pw_iload rfl rfl ?_
    refine pw_iload rfl rfl ?_
    refine pw_iadd (z := nI (b + m)) rfl (nI_add _ _) ?_
    refine pw_iconst (v := nI (1)) rfl (by decide) ?_
    refine pw_isub (z := nI (b + m - 1)) rfl (pk_sub (by omega)) ?_
    refine pw_aload_n rfl rfl ?_
    refine px_getv (x := nI (nx)) rfl rfl rfl rfl (hnx) ?_
    refine pw_aload_n rfl rfl ?_
    refine px_getv (x := nI (bu)) rfl rfl rfl rfl (hbu) ?_
    refine pw_iadd (z := nI (nx + bu)) rfl (nI_add _ _) ?_
    refine pw_if2p (cn_ge (by omega) (by omega)) rfl (t := 146) rfl (fun c2 => ?_) (fun c2 => ?_)
    · -- 146
      simp only [abDG, c1, c2, if_true, if_false] at k
      exact t_atB_tail hp hfl hf6 hnx hbu k
    · -- 103
      refine pw_iconst (v := nI (0)) rfl (by decide) ?_
      refine pw_istore (ls1 := [some (.inr (some (103))), some (.inl (nI (p))), some (.inl (nI (1))), some (.inl (nI (a))), some (.inl (nI (b))), some (.inl (nI (m))), some (.inl (nI (0))), none]) rfl (Nat.le_of_ble_eq_true rfl) rfl ?_
      simp only [abDG, c1, c2, if_true, if_false] at k
      exact t_atB_dl hp ha hb1 m 0 G (by omega) (t_atB_tail hp ((congrFun (tdn_row (by decide) (by decide) m 0 G) (2 * p + 1)).trans hfl) hf6 hnx hbu k)
def tw1 (v : Int32) (j ct : Nat) (X : FN × FN) : FN × FN := (up2 X.1 103 5 (nI (ct + 1)), up2 X.2 104 ct ((v + nI j) &&& nI 255))
def twn (x v : Int32) : Nat → Nat → Nat → FN × FN → Nat × (FN × FN)
  | 0, j, _, X => (j, X)
  | f + 1, j, ct, X => if x ≤ nI j then (j, X) else twn x v f (j + 1) (ct + 1) (tw1 v j ct X)
theorem t_write_lp {L : Nat} {x v : Int32} {R : RN} {Q : Option PV → PH → Prop} : ∀ (f j ct : Nat) (X : FN × FN), ct + f = 400 → j ≤ ct → X.1 103 5 = nI ct → Q (some (.inl (nI (twn x v f j ct X).1))) (hb (sL L) (twn x v f j ct X).2.1 (twn x v f j ct X).2.2 R sO) → pw pP mSBModel_write (16, [some (.inr (some (103))), some (.inl (x)), some (.inl (v)), some (.inl (nI (j)))], [], 0, 0, hb (sL L) X.1 X.2 R sO) Q := by
  intro f
  induction f with
  | zero =>
    intro j ct X hn hj hct k
    refine pw_iload_n rfl rfl ?_
    refine pw_iload_n rfl rfl ?_
    refine pw_if2p (A := x ≤ nI (j)) rfl rfl (t := 63) rfl (fun c1 => ?_) (fun c1 => ?_)
    · -- 63
      refine pw_iload_n rfl rfl ?_
      exact pw_iret rfl rfl (Nat.zero_le _) (Nat.zero_le _) rfl k
    · -- 21
      refine pw_aload_n rfl rfl ?_
      refine px_getv (x := nI (ct)) rfl rfl rfl rfl (hct) ?_
      refine pw_sipush (v := nI (400)) rfl (by decide) ?_
      refine pw_if2p (cn_ge (by omega) (by omega)) rfl (t := 63) rfl (fun c2 => ?_) (fun c2 => ?_)
      · -- 63
        refine pw_iload_n rfl rfl ?_
        exact pw_iret rfl rfl (Nat.zero_le _) (Nat.zero_le _) rfl k
      · -- 31
        exact absurd c2 (by omega)
  | succ f ih =>
    intro j ct X hn hj hct k
    refine pw_iload_n rfl rfl ?_
    refine pw_iload_n rfl rfl ?_
    refine pw_if2p (A := x ≤ nI (j)) rfl rfl (t := 63) rfl (fun c1 => ?_) (fun c1 => ?_)
    · -- 63
      refine pw_iload_n rfl rfl ?_
      exact pw_iret rfl rfl (Nat.zero_le _) (Nat.zero_le _) rfl (by simp only [twn, c1, if_true] at k; exact k)
    · -- 21
      refine pw_aload_n rfl rfl ?_
      refine px_getv (x := nI (ct)) rfl rfl rfl rfl (hct) ?_
      refine pw_sipush (v := nI (400)) rfl (by decide) ?_
      refine pw_if2p (cn_ge (by omega) (by omega)) rfl (t := 63) rfl (fun c2 => ?_) (fun c2 => ?_)
      · -- 63
        refine pw_iload_n rfl rfl ?_
        exact absurd c2 (by omega)
      · -- 31
        refine pw_aload_n rfl rfl ?_
        refine px_getr (r := some (104)) rfl rfl rfl rfl rfl ?_
        refine pw_aload_n rfl rfl ?_
        refine px_getv (x := nI (ct)) rfl rfl rfl rfl (hct) ?_
        refine pw_iload_n rfl rfl ?_
        refine pw_iload_n rfl rfl ?_
        refine pw_iadd (z := v + (nI (j))) rfl rfl ?_
        refine pw_sipush (v := nI (255)) rfl (by decide) ?_
        refine pw_iand (z := (v + (nI (j))) &&& (nI (255))) rfl rfl ?_
        refine px_iastn rfl rfl (by omega) (by decide) ?_
        refine pw_aload_n rfl rfl ?_
        refine pw_dup rfl ?_
        refine px_getv (x := nI (ct)) rfl rfl rfl rfl (hct) ?_
        refine pw_iconst (v := nI (1)) rfl (by decide) ?_
        refine pw_iadd (z := nI (ct + 1)) rfl (nI_add _ _) ?_
        refine px_put rfl rfl rfl rfl rfl ?_
        refine pw_iinc (v := nI (j + 1)) (ls1 := [some (.inr (some (103))), some (.inl (x)), some (.inl (v)), some (.inl (nI (j + 1)))]) rfl rfl (iinc_n _) rfl ?_
        refine pw_goto (t := 16) rfl rfl ?_
        exact ih (j + 1) (ct + 1) (tw1 v j ct X) (by omega) (by omega) (show up2 X.1 103 5 (nI (ct + 1)) 103 5 = _ from up2_eq) (by simp only [twn, c1, if_false] at k; exact k)
def twr (F G : FN) (x v : Int32) (ct : Nat) : Nat × (FN × FN) := if x < nI 1 then (0, (F, G)) else if F 103 6 = 0 then twn x v (400 - ct) 0 ct (F, G) else (0, (F, G))
theorem t_write {L ct : Nat} {x v : Int32} {F G : FN} {R : RN} (hct : F 103 5 = nI ct) (hc4 : ct ≤ 400) {Q : Option PV → PH → Prop} (k : Q (some (.inl (nI (twr F G x v ct).1))) (hb (sL L) (twr F G x v ct).2.1 (twr F G x v ct).2.2 R sO)) : pz pP mSBModel_write [.inr (some (103)), .inl (x), .inl (v)] (hb (sL L) F G R sO) Q := by
  show pw pP mSBModel_write (0, [some (.inr (some (103))), some (.inl (x)), some (.inl (v)), none], [], 0, 0, hb (sL L) F G R sO) _
  refine pw_iload_n rfl rfl ?_
  refine pw_iconst (v := nI (1)) rfl (by decide) ?_
  refine pw_if2p (A := x < nI (1)) rfl rfl (t := 12) rfl (fun c1 => ?_) (fun c1 => ?_)
  · -- 12
    refine pw_iconst (v := nI (0)) rfl (by decide) ?_
    simp only [twr, c1, if_true, if_false] at k
    exact pw_iret rfl rfl (Nat.zero_le _) (Nat.zero_le _) rfl k
  · -- 5
    refine pw_aload_n rfl rfl ?_
    refine px_getv (x := F (103) (6)) rfl rfl rfl rfl (rfl) ?_
    refine pw_if1p (A := F (103) (6) = 0) rfl rfl (t := 14) rfl (fun c2 => ?_) (fun c2 => ?_)
    · -- 14
      refine pw_iconst (v := nI (0)) rfl (by decide) ?_
      refine pw_istore_n (ls1 := [some (.inr (some (103))), some (.inl (x)), some (.inl (v)), some (.inl (nI (0)))]) rfl (Nat.le_of_ble_eq_true rfl) rfl ?_
      simp only [twr, c1, c2, if_true, if_false] at k
      exact t_write_lp (400 - ct) 0 ct (F, G) (by omega) (by omega) hct k
    · -- 12
      refine pw_iconst (v := nI (0)) rfl (by decide) ?_
      simp only [twr, c1, c2, if_true, if_false] at k
      exact pw_iret rfl rfl (Nat.zero_le _) (Nat.zero_le _) rfl k
end
section
/-! THE REFERENCE, ninth part: open, load. Rows laid by a program (wip/whole/gen/twin8.py). -/
/-- does a path wait for its SYN while none was ever open -/
def tow (F G : FN) : Nat → Nat → Nat → Nat
  | 0, _, w => w
  | n + 1, q, w => tow F G n (q + 1) (if w = 0 then (if G 107 q = nI 1 then (if F 103 25 = 0 then 1 else 0) else 0) else 1)
theorem t_open_lp {L : Nat} {x d tk : Int32} {F G : FN} {R : RN} {Q : Option PV → PH → Prop} : ∀ (n q w : Nat), q + n = 4 → w ≤ 1 → pw pP mSBModel_open (48, [some (.inr (some (103))), some (.inl (x)), some (.inl (d)), some (.inl (tk)), some (.inl (nI (tow F G n q w))), some (.inl (nI (4)))], [], 0, 0, hb (sL L) F G R sO) Q → pw pP mSBModel_open (6, [some (.inr (some (103))), some (.inl (x)), some (.inl (d)), some (.inl (tk)), some (.inl (nI (w))), some (.inl (nI (q)))], [], 0, 0, hb (sL L) F G R sO) Q := by
  intro n
  induction n with
  | zero =>
    intro q w hn hw k
    have e : q = 4 := by omega
    subst e
    refine pw_iload rfl rfl ?_
    refine pw_iconst (v := nI (4)) rfl (by decide) ?_
    refine pw_if2 (t := 48) rfl rfl (fun _ => ?_) (fun q => absurd q (by decide))
    exact k
  | succ n ih =>
    intro q w hn hw k
    refine pw_iload rfl rfl ?_
    refine pw_iconst (v := nI (4)) rfl (by decide) ?_
    refine pw_if2p (cn_ge (by omega) (by omega)) rfl (t := 48) rfl (fun c1 => ?_) (fun c1 => ?_)
    · -- 48
      exact absurd c1 (by omega)
    · -- 12
      refine pw_iload rfl rfl ?_
      refine pw_if1p (cz_ne (by omega)) rfl (t := 35) rfl (fun c2 => ?_) (fun c2 => ?_)
      · -- 35
        refine pw_iconst (v := nI (1)) rfl (by decide) ?_
        refine pw_goto (t := 40) rfl rfl ?_
        refine pw_istore (ls1 := [some (.inr (some (103))), some (.inl (x)), some (.inl (d)), some (.inl (tk)), some (.inl (nI (1))), some (.inl (nI (q)))]) rfl (Nat.le_of_ble_eq_true rfl) rfl ?_
        refine pw_iinc (v := nI (q + 1)) (ls1 := [some (.inr (some (103))), some (.inl (x)), some (.inl (d)), some (.inl (tk)), some (.inl (nI (1))), some (.inl (nI (q + 1)))]) rfl rfl (iinc_n _) rfl ?_
        refine pw_goto (t := 6) rfl rfl ?_
        exact ih (q + 1) _ (by omega) (by omega) (by simp only [tow, eq_false c2, if_true, if_false] at k; exact k)
      · -- 17
        refine pw_aload_n rfl rfl ?_
        refine px_getr (r := some (107)) rfl rfl rfl rfl rfl ?_
        refine pw_iload rfl rfl ?_
        refine px_ialdn (x := G (107) (q)) rfl rfl (by omega) (by decide) (rfl) ?_
        refine pw_iconst (v := nI (1)) rfl (by decide) ?_
        refine pw_if2p (A := ¬ G (107) (q) = nI (1)) rfl rfl (t := 39) rfl (fun c3 => ?_) (fun c3 => ?_)
        · -- 39
          refine pw_iconst (v := nI (0)) rfl (by decide) ?_
          refine pw_istore (ls1 := [some (.inr (some (103))), some (.inl (x)), some (.inl (d)), some (.inl (tk)), some (.inl (nI (0))), some (.inl (nI (q)))]) rfl (Nat.le_of_ble_eq_true rfl) rfl ?_
          refine pw_iinc (v := nI (q + 1)) (ls1 := [some (.inr (some (103))), some (.inl (x)), some (.inl (d)), some (.inl (tk)), some (.inl (nI (0))), some (.inl (nI (q + 1)))]) rfl rfl (iinc_n _) rfl ?_
          refine pw_goto (t := 6) rfl rfl ?_
          exact ih (q + 1) _ (by omega) (by omega) (by simp only [tow, eq_true (Decidable.of_not_not c2), eq_false c3, if_true, if_false] at k; exact k)
        · -- 28
          refine pw_aload_n rfl rfl ?_
          refine px_getv (x := F (103) (25)) rfl rfl rfl rfl (rfl) ?_
          refine pw_if1p (A := ¬ F (103) (25) = 0) rfl rfl (t := 39) rfl (fun c4 => ?_) (fun c4 => ?_)
          · -- 39
            refine pw_iconst (v := nI (0)) rfl (by decide) ?_
            refine pw_istore (ls1 := [some (.inr (some (103))), some (.inl (x)), some (.inl (d)), some (.inl (tk)), some (.inl (nI (0))), some (.inl (nI (q)))]) rfl (Nat.le_of_ble_eq_true rfl) rfl ?_
            refine pw_iinc (v := nI (q + 1)) (ls1 := [some (.inr (some (103))), some (.inl (x)), some (.inl (d)), some (.inl (tk)), some (.inl (nI (0))), some (.inl (nI (q + 1)))]) rfl rfl (iinc_n _) rfl ?_
            refine pw_goto (t := 6) rfl rfl ?_
            exact ih (q + 1) _ (by omega) (by omega) (by simp only [tow, eq_true (Decidable.of_not_not c2), eq_true (Decidable.of_not_not c3), eq_false c4, if_true, if_false] at k; exact k)
          · -- 35
            refine pw_iconst (v := nI (1)) rfl (by decide) ?_
            refine pw_goto (t := 40) rfl rfl ?_
            refine pw_istore (ls1 := [some (.inr (some (103))), some (.inl (x)), some (.inl (d)), some (.inl (tk)), some (.inl (nI (1))), some (.inl (nI (q)))]) rfl (Nat.le_of_ble_eq_true rfl) rfl ?_
            refine pw_iinc (v := nI (q + 1)) (ls1 := [some (.inr (some (103))), some (.inl (x)), some (.inl (d)), some (.inl (tk)), some (.inl (nI (1))), some (.inl (nI (q + 1)))]) rfl rfl (iinc_n _) rfl ?_
            refine pw_goto (t := 6) rfl rfl ?_
            exact ih (q + 1) _ (by omega) (by omega) (by simp only [tow, eq_true (Decidable.of_not_not c2), eq_true (Decidable.of_not_not c3), eq_true (Decidable.of_not_not c4), if_true, if_false] at k; exact k)
def open_r (G : FN) (p w : Nat) (d : Int32) : Int32 := (if ¬ w = 0 then nI (0) else (if d < nI (1) then nI (0) else (if d ≤ nI (40) then (if G (107) (p) = 0 then nI (1) else nI (0)) else nI (0))))
def open_G (F G : FN) (p hi fl w : Nat) (d tk : Int32) : FN := (if ¬ w = 0 then G else (if d < nI (1) then G else (if d ≤ nI (40) then (if G (107) (p) = 0 then (bendS F (up2 (tb0 F (up2 (up2 (up2 G (107) (p) (nI (1))) (108) (p) (d)) (109) (p) (tk)) p 1 hi) 118 (402 * p + hi + 0) ((-1) + nI 0)) p hi fl) else G) else G)))
theorem tow_le {F G : FN} : ∀ (n q w : Nat), w ≤ 1 → tow F G n q w ≤ 1
  | 0, _, _, h => h
  | n + 1, q, w, h => by
    refine tow_le n (q + 1) _ ?_
    split
    · split
      · split <;> decide
      · decide
    · decide
theorem t_open_48 {L p hi fl : Nat} {d tk : Int32} {F G : FN} {R : RN} (hp : p < 4) (hhi : G 116 p = nI hi) (hh : hi < 402) (hfl : G 124 (2 * p) = nI fl) (hf6 : fl ≤ 6) {w : Nat} (hw : w ≤ 1) {Q : Option PV → PH → Prop} (k : Q (some (.inl (open_r G p w d))) (hb (sL L) F (open_G F G p hi fl w d tk) R sO)) : pw pP mSBModel_open (48, [some (.inr (some (103))), some (.inl (nI (p))), some (.inl (d)), some (.inl (tk)), some (.inl (nI (w))), some (.inl (nI (4)))], [], 0, 0, hb (sL L) F G R sO) Q := by
  refine pw_iload_n rfl rfl ?_
  refine pw_calls (as := [.inl (nI (p))]) (rest := []) rfl rfl (by decide) rfl (Nat.le_of_ble_eq_true rfl) (Nat.le_of_ble_eq_true rfl) (Nat.le_of_ble_eq_true rfl) (Nat.le_of_ble_eq_true rfl) rfl rfl ?_
  refine t_path_in hp ?_
  show pw pP mSBModel_open (52, [some (.inr (some (103))), some (.inl (nI (p))), some (.inl (d)), some (.inl (tk)), some (.inl (nI (w))), some (.inl (nI (4)))], [.inl (nI (1))], 0, 0, hb (sL L) F G R sO) _
  refine pw_if1 (t := 71) rfl rfl (fun q => absurd q (by decide)) (fun _ => ?_)
  refine pw_iload rfl rfl ?_
  refine pw_if1p (cz_ne (by omega)) rfl (t := 71) rfl (fun c1 => ?_) (fun c1 => ?_)
  · -- 71
    refine pw_iconst (v := nI (0)) rfl (by decide) ?_
    exact pw_iret rfl rfl (Nat.zero_le _) (Nat.zero_le _) rfl (by simp only [open_r, open_G, c1, if_true, if_false] at k; exact k)
  · -- 60
    refine pw_iload_n rfl rfl ?_
    refine pw_iconst (v := nI (1)) rfl (by decide) ?_
    refine pw_if2p (A := d < nI (1)) rfl rfl (t := 71) rfl (fun c2 => ?_) (fun c2 => ?_)
    · -- 71
      refine pw_iconst (v := nI (0)) rfl (by decide) ?_
      exact pw_iret rfl rfl (Nat.zero_le _) (Nat.zero_le _) rfl (by simp only [open_r, open_G, c1, c2, if_true, if_false] at k; exact k)
    · -- 65
      refine pw_iload_n rfl rfl ?_
      refine pw_bipush (v := nI (40)) rfl (by decide) ?_
      refine pw_if2p (A := d ≤ nI (40)) rfl rfl (t := 73) rfl (fun c3 => ?_) (fun c3 => ?_)
      · -- 73
        refine pw_aload_n rfl rfl ?_
        refine px_getr (r := some (107)) rfl rfl rfl rfl rfl ?_
        refine pw_iload_n rfl rfl ?_
        refine px_ialdn (x := G (107) (p)) rfl rfl (by omega) (by decide) (rfl) ?_
        refine pw_if1p (A := G (107) (p) = 0) rfl rfl (t := 84) rfl (fun c4 => ?_) (fun c4 => ?_)
        · -- 84
          refine pw_aload_n rfl rfl ?_
          refine px_getr (r := some (107)) rfl rfl rfl rfl rfl ?_
          refine pw_iload_n rfl rfl ?_
          refine pw_iconst (v := nI (1)) rfl (by decide) ?_
          refine px_iastn rfl rfl (by omega) (by decide) ?_
          refine pw_aload_n rfl rfl ?_
          refine px_getr (r := some (108)) rfl rfl rfl rfl rfl ?_
          refine pw_iload_n rfl rfl ?_
          refine pw_iload_n rfl rfl ?_
          refine px_iastn rfl rfl (by omega) (by decide) ?_
          refine pw_aload_n rfl rfl ?_
          refine px_getr (r := some (109)) rfl rfl rfl rfl rfl ?_
          refine pw_iload_n rfl rfl ?_
          refine pw_iload_n rfl rfl ?_
          refine px_iastn rfl rfl (by omega) (by decide) ?_
          refine pw_aload_n rfl rfl ?_
          refine pw_iload_n rfl rfl ?_
          refine pw_iconst (v := (-1)) rfl (by decide) ?_
          refine pw_iconst (v := nI (1)) rfl (by decide) ?_
          refine px_callv (as := [.inr (some (103)), .inl (nI (p)), .inl ((-1)), .inl (nI (1))]) (rest := []) rfl rfl (by decide) rfl (Nat.le_of_ble_eq_true rfl) (Nat.le_of_ble_eq_true rfl) (Nat.le_of_ble_eq_true rfl) (Nat.le_of_ble_eq_true rfl) rfl rfl rfl rfl ?_
          refine t_beginS hp (by omega) (((up2_ne1 (by decide)).trans ((up2_ne1 (by decide)).trans (up2_ne1 (by decide)))).trans (hhi)) (((up2_ne1 (by decide)).trans ((up2_ne1 (by decide)).trans (up2_ne1 (by decide)))).trans (hfl)) hf6 ?_
          show pw pP mSBModel_open (112, [some (.inr (some (103))), some (.inl (nI (p))), some (.inl (d)), some (.inl (tk)), some (.inl (nI (w))), some (.inl (nI (4)))], [], 0, 0, hb (sL L) F (bendS F (up2 (tb0 F (up2 (up2 (up2 G (107) (p) (nI (1))) (108) (p) (d)) (109) (p) (tk)) p 1 hi) 118 (402 * p + hi + 0) ((-1) + nI 0)) p hi fl) R sO) _
          refine pw_iconst (v := nI (1)) rfl (by decide) ?_
          exact pw_iret rfl rfl (Nat.zero_le _) (Nat.zero_le _) rfl (by simp only [open_r, open_G, c1, c2, c3, c4, if_true, if_false] at k; exact k)
        · -- 82
          refine pw_iconst (v := nI (0)) rfl (by decide) ?_
          exact pw_iret rfl rfl (Nat.zero_le _) (Nat.zero_le _) rfl (by simp only [open_r, open_G, c1, c2, c3, c4, if_true, if_false] at k; exact k)
      · -- 71
        refine pw_iconst (v := nI (0)) rfl (by decide) ?_
        exact pw_iret rfl rfl (Nat.zero_le _) (Nat.zero_le _) rfl (by simp only [open_r, open_G, c1, c2, c3, if_true, if_false] at k; exact k)
theorem t_open {L p hi fl : Nat} {d tk : Int32} {F G : FN} {R : RN} (hp : p < 4) (hhi : G 116 p = nI hi) (hh : hi < 402) (hfl : G 124 (2 * p) = nI fl) (hf6 : fl ≤ 6) {Q : Option PV → PH → Prop} (k : Q (some (.inl (open_r G p (tow F G 4 0 0) d))) (hb (sL L) F (open_G F G p hi fl (tow F G 4 0 0) d tk) R sO)) : pz pP mSBModel_open [.inr (some (103)), .inl (nI (p)), .inl (d), .inl (tk)] (hb (sL L) F G R sO) Q := by
  show pw pP mSBModel_open (0, [some (.inr (some (103))), some (.inl (nI (p))), some (.inl (d)), some (.inl (tk)), none, none], [], 0, 0, hb (sL L) F G R sO) _
  refine pw_iconst (v := nI (0)) rfl (by decide) ?_
  refine pw_istore (ls1 := [some (.inr (some (103))), some (.inl (nI (p))), some (.inl (d)), some (.inl (tk)), some (.inl (nI (0))), none]) rfl (Nat.le_of_ble_eq_true rfl) rfl ?_
  refine pw_iconst (v := nI (0)) rfl (by decide) ?_
  refine pw_istore (ls1 := [some (.inr (some (103))), some (.inl (nI (p))), some (.inl (d)), some (.inl (tk)), some (.inl (nI (0))), some (.inl (nI (0)))]) rfl (Nat.le_of_ble_eq_true rfl) rfl ?_
  exact t_open_lp 4 0 0 rfl (by decide) (t_open_48 hp hhi hh hfl hf6 (tow_le 4 0 0 (by decide)) k)
theorem t_open_no_48 {L : Nat} {p d tk : Int32} {F G : FN} {R : RN} (hp : p < 0 ∨ nI 4 ≤ p) {w : Nat} (hw : w ≤ 1) {Q : Option PV → PH → Prop} (k : Q (some (.inl (nI 0))) (hb (sL L) F G R sO)) : pw pP mSBModel_open (48, [some (.inr (some (103))), some (.inl (p)), some (.inl (d)), some (.inl (tk)), some (.inl (nI (w))), some (.inl (nI (4)))], [], 0, 0, hb (sL L) F G R sO) Q := by
  refine pw_iload_n rfl rfl ?_
  refine pw_calls (as := [.inl (p)]) (rest := []) rfl rfl (by decide) rfl (Nat.le_of_ble_eq_true rfl) (Nat.le_of_ble_eq_true rfl) (Nat.le_of_ble_eq_true rfl) (Nat.le_of_ble_eq_true rfl) rfl rfl ?_
  refine t_path_out hp ?_
  show pw pP mSBModel_open (52, [some (.inr (some (103))), some (.inl (p)), some (.inl (d)), some (.inl (tk)), some (.inl (nI (w))), some (.inl (nI (4)))], [.inl (nI (0))], 0, 0, hb (sL L) F G R sO) _
  refine pw_if1 (t := 71) rfl rfl (fun _ => ?_) (fun q => absurd q (by decide))
  refine pw_iconst (v := nI (0)) rfl (by decide) ?_
  exact pw_iret rfl rfl (Nat.zero_le _) (Nat.zero_le _) rfl k
theorem t_open_no {L : Nat} {p d tk : Int32} {F G : FN} {R : RN} (hp : p < 0 ∨ nI 4 ≤ p) {Q : Option PV → PH → Prop} (k : Q (some (.inl (nI 0))) (hb (sL L) F G R sO)) : pz pP mSBModel_open [.inr (some (103)), .inl (p), .inl (d), .inl (tk)] (hb (sL L) F G R sO) Q := by
  show pw pP mSBModel_open (0, [some (.inr (some (103))), some (.inl (p)), some (.inl (d)), some (.inl (tk)), none, none], [], 0, 0, hb (sL L) F G R sO) _
  refine pw_iconst (v := nI (0)) rfl (by decide) ?_
  refine pw_istore (ls1 := [some (.inr (some (103))), some (.inl (p)), some (.inl (d)), some (.inl (tk)), some (.inl (nI (0))), none]) rfl (Nat.le_of_ble_eq_true rfl) rfl ?_
  refine pw_iconst (v := nI (0)) rfl (by decide) ?_
  refine pw_istore (ls1 := [some (.inr (some (103))), some (.inl (p)), some (.inl (d)), some (.inl (tk)), some (.inl (nI (0))), some (.inl (nI (0)))]) rfl (Nat.le_of_ble_eq_true rfl) rfl ?_
  exact t_open_lp 4 0 0 rfl (by decide) (t_open_no_48 hp (tow_le 4 0 0 (by decide)) k)
end
section
/-! THE REFERENCE, tenth part: load. Rows laid by a program (wip/whole/gen/twin8.py). -/
/-- the first loose unit of the n from u on -/
def tl1 (F G : FN) (p kn ln : Nat) : Nat → Nat → Nat
  | 0, u => u
  | n + 1, u => if tloose F G p u kn ln = 0 then tl1 F G p kn ln n (u + 1) else u
/-- how many units go together -/
def tl2 (F G : FN) (p u kn ln ed : Nat) : Nat → Nat → Nat
  | 0, m => m
  | n + 1, m => if ed ≤ u + m then m else if tloose F G p (u + m) kn ln = 0 then m else tl2 F G p u kn ln ed n (m + 1)
theorem t_load_1 {L p kn ln : Nat} {F G : FN} {R : RN} {Q : Option PV → PH → Prop} (hp : p < 4) (hkn : F 103 22 = nI kn) (hln : tlen F = nI ln) (hl2 : ln ≤ 401) (hkl : kn ≤ ln) : ∀ (n u : Nat), u + n = ln → pw pP mSBModel_load (30, [some (.inr (some (103))), some (.inl (nI (p))), some (.inl (nI (tl1 F G p kn ln n u))), some (.inl (nI (ln))), none], [], 0, 0, hb (sL L) F G R sO) Q → pw pP mSBModel_load (10, [some (.inr (some (103))), some (.inl (nI (p))), some (.inl (nI (u))), some (.inl (nI (ln))), none], [], 0, 0, hb (sL L) F G R sO) Q := by
  intro n
  induction n with
  | zero =>
    intro u hn k
    refine pw_iload_n rfl rfl ?_
    refine pw_iload_n rfl rfl ?_
    refine pw_if2p (cn_ge (by omega) (by omega)) rfl (t := 30) rfl (fun c1 => ?_) (fun c1 => ?_)
    · -- 30
      exact k
    · -- 15
      exact absurd c1 (by omega)
  | succ n ih =>
    intro u hn k
    refine pw_iload_n rfl rfl ?_
    refine pw_iload_n rfl rfl ?_
    refine pw_if2p (cn_ge (by omega) (by omega)) rfl (t := 30) rfl (fun c1 => ?_) (fun c1 => ?_)
    · -- 30
      exact absurd c1 (by omega)
    · -- 15
      refine pw_aload_n rfl rfl ?_
      refine pw_iload_n rfl rfl ?_
      refine pw_iload_n rfl rfl ?_
      refine px_callv (as := [.inr (some (103)), .inl (nI (p)), .inl (nI (u))]) (rest := []) rfl rfl (by decide) rfl (Nat.le_of_ble_eq_true rfl) (Nat.le_of_ble_eq_true rfl) (Nat.le_of_ble_eq_true rfl) (Nat.le_of_ble_eq_true rfl) rfl rfl rfl rfl ?_
      refine t_loose hp (by omega) hkn (by omega) hln hl2 ?_
      show pw pP mSBModel_load (21, [some (.inr (some (103))), some (.inl (nI (p))), some (.inl (nI (u))), some (.inl (nI (ln))), none], [.inl (tloose F G p (u) kn ln)], 0, 0, hb (sL L) F G R sO) _
      refine pw_if1p (A := ¬ tloose F G p (u) kn ln = 0) rfl rfl (t := 30) rfl (fun c2 => ?_) (fun c2 => ?_)
      · -- 30
        simp only [tl1, eq_false c2, if_true, if_false] at k
        exact k
      · -- 24
        refine pw_iinc (v := nI (u + 1)) (ls1 := [some (.inr (some (103))), some (.inl (nI (p))), some (.inl (nI (u + 1))), some (.inl (nI (ln))), none]) rfl rfl (iinc_n _) rfl ?_
        refine pw_goto (t := 10) rfl rfl ?_
        simp only [tl1, eq_true (Decidable.of_not_not c2), if_true, if_false] at k
        exact ih (u + 1) (by omega) k
theorem t_load_2 {L p kn ln : Nat} {F G : FN} {R : RN} {Q : Option PV → PH → Prop} (hp : p < 4) (hkn : F 103 22 = nI kn) (hln : tlen F = nI ln) (hl2 : ln ≤ 401) (hkl : kn ≤ ln) {ed ms u : Nat} (hed : F 103 23 = nI ed) (hed2 : ed ≤ 500) (hms : F 103 0 = nI ms) (hms2 : ms ≤ 7) (hu : u ≤ 401) : ∀ (n m : Nat), m + n = ms ∨ (n = 0 ∧ ms ≤ m) → m ≤ 7 → pw pP mSBModel_load (117, [some (.inr (some (103))), some (.inl (nI (p))), some (.inl (nI (u))), some (.inl (nI (ln))), some (.inl (nI (tl2 F G p u kn ln ed n m)))], [], 0, 0, hb (sL L) F G R sO) Q → pw pP mSBModel_load (79, [some (.inr (some (103))), some (.inl (nI (p))), some (.inl (nI (u))), some (.inl (nI (ln))), some (.inl (nI (m)))], [], 0, 0, hb (sL L) F G R sO) Q := by
  intro n
  induction n with
  | zero =>
    intro m hn hm k
    refine pw_iload rfl rfl ?_
    refine pw_aload_n rfl rfl ?_
    refine px_getv (x := nI (ms)) rfl rfl rfl rfl (hms) ?_
    refine pw_if2p (cn_ge (by omega) (by omega)) rfl (t := 117) rfl (fun c1 => ?_) (fun c1 => ?_)
    · -- 117
      exact k
    · -- 88
      exact absurd c1 (by omega)
  | succ n ih =>
    intro m hn hm k
    refine pw_iload rfl rfl ?_
    refine pw_aload_n rfl rfl ?_
    refine px_getv (x := nI (ms)) rfl rfl rfl rfl (hms) ?_
    refine pw_if2p (cn_ge (by omega) (by omega)) rfl (t := 117) rfl (fun c1 => ?_) (fun c1 => ?_)
    · -- 117
      exact absurd c1 (by omega)
    · -- 88
      refine pw_iload_n rfl rfl ?_
      refine pw_iload rfl rfl ?_
      refine pw_iadd (z := nI (u + m)) rfl (nI_add _ _) ?_
      refine pw_aload_n rfl rfl ?_
      refine px_getv (x := nI (ed)) rfl rfl rfl rfl (hed) ?_
      refine pw_if2p (cn_ge (by omega) (by omega)) rfl (t := 117) rfl (fun c2 => ?_) (fun c2 => ?_)
      · -- 117
        simp only [tl2, eq_true c2, if_true, if_false] at k
        exact k
      · -- 99
        refine pw_aload_n rfl rfl ?_
        refine pw_iload_n rfl rfl ?_
        refine pw_iload_n rfl rfl ?_
        refine pw_iload rfl rfl ?_
        refine pw_iadd (z := nI (u + m)) rfl (nI_add _ _) ?_
        refine px_callv (as := [.inr (some (103)), .inl (nI (p)), .inl (nI (u + m))]) (rest := []) rfl rfl (by decide) rfl (Nat.le_of_ble_eq_true rfl) (Nat.le_of_ble_eq_true rfl) (Nat.le_of_ble_eq_true rfl) (Nat.le_of_ble_eq_true rfl) rfl rfl rfl rfl ?_
        refine t_loose hp (by omega) hkn (by omega) hln hl2 ?_
        show pw pP mSBModel_load (108, [some (.inr (some (103))), some (.inl (nI (p))), some (.inl (nI (u))), some (.inl (nI (ln))), some (.inl (nI (m)))], [.inl (tloose F G p (u + m) kn ln)], 0, 0, hb (sL L) F G R sO) _
        refine pw_if1p (A := tloose F G p (u + m) kn ln = 0) rfl rfl (t := 117) rfl (fun c3 => ?_) (fun c3 => ?_)
        · -- 117
          simp only [tl2, eq_false c2, eq_true c3, if_true, if_false] at k
          exact k
        · -- 111
          refine pw_iinc (v := nI (m + 1)) (ls1 := [some (.inr (some (103))), some (.inl (nI (p))), some (.inl (nI (u))), some (.inl (nI (ln))), some (.inl (nI (m + 1)))]) rfl rfl (iinc_n _) rfl ?_
          refine pw_goto (t := 79) rfl rfl ?_
          simp only [tl2, eq_false c2, eq_false c3, if_true, if_false] at k
          exact ih (m + 1) (by omega) (by omega) k
abbrev tcan (kn ln ed lw hi u : Nat) : Prop := ¬ ln ≤ u ∧ ¬ ed < u ∧ (¬ u = ed ∨ (u = kn ∧ hi ≤ lw))
def lu (F G : FN) (p kn ln : Nat) : Nat := tl1 F G p kn ln (ln - kn) kn
def lm (F G : FN) (p kn ln ed ms : Nat) : Nat := tl2 F G p (lu F G p kn ln) kn ln ed (ms - 1) 1
theorem tl1_le {F G : FN} {p kn ln m : Nat} : ∀ (n u : Nat), u + n ≤ m → tl1 F G p kn ln n u ≤ m
  | 0, u, h => h
  | n + 1, u, h => by
    simp only [tl1]
    split
    · exact tl1_le n (u + 1) (by omega)
    · omega
theorem t_load_no {L p kn ln ed ms lw hi fl : Nat} {F G : FN} {R : RN} (hp : p < 4) (hkn : F 103 22 = nI kn) (hln : tlen F = nI ln) (hl2 : ln ≤ 401) (hkl : kn ≤ ln) (hed : F 103 23 = nI ed) (hed2 : ed ≤ 500) (hms : F 103 0 = nI ms) (hms2 : ms ≤ 7) (hms1 : 1 ≤ ms) (hlw : G 115 p = nI lw) (hl4 : lw ≤ 402) (hhi : G 116 p = nI hi) (hh : hi ≤ 402) (hfl : G 124 (2 * p) = nI fl) (hf6 : fl ≤ 6) (hc : ¬ tcan kn ln ed lw hi (lu F G p kn ln)) {Q : Option PV → PH → Prop} (k : Q (some (.inl (nI (0)))) (hb (sL L) F G R sO)) : pz pP mSBModel_load [.inr (some (103)), .inl (nI (p))] (hb (sL L) F G R sO) Q := by
  show pw pP mSBModel_load (0, [some (.inr (some (103))), some (.inl (nI (p))), none, none, none], [], 0, 0, hb (sL L) F G R sO) _
  refine pw_aload_n rfl rfl ?_
  refine px_getv (x := nI (kn)) rfl rfl rfl rfl (hkn) ?_
  refine pw_istore_n (ls1 := [some (.inr (some (103))), some (.inl (nI (p))), some (.inl (nI (kn))), none, none]) rfl (Nat.le_of_ble_eq_true rfl) rfl ?_
  refine pw_aload_n rfl rfl ?_
  refine px_callv (as := [.inr (some (103))]) (rest := []) rfl rfl (by decide) rfl (Nat.le_of_ble_eq_true rfl) (Nat.le_of_ble_eq_true rfl) (Nat.le_of_ble_eq_true rfl) (Nat.le_of_ble_eq_true rfl) rfl rfl rfl rfl ?_
  refine t_length ?_
  rw [hln]
  show pw pP mSBModel_load (9, [some (.inr (some (103))), some (.inl (nI (p))), some (.inl (nI (kn))), none, none], [.inl (nI (ln))], 0, 0, hb (sL L) F G R sO) _
  refine pw_istore_n (ls1 := [some (.inr (some (103))), some (.inl (nI (p))), some (.inl (nI (kn))), some (.inl (nI (ln))), none]) rfl (Nat.le_of_ble_eq_true rfl) rfl ?_
  refine t_load_1 hp hkn hln hl2 hkl (ln - kn) kn (by omega) ?_
  have hu : lu F G p kn ln ≤ ln := tl1_le (m := ln) (ln - kn) kn (by omega)
  show pw pP mSBModel_load (30, [some (.inr (some (103))), some (.inl (nI (p))), some (.inl (nI (lu F G p kn ln))), some (.inl (nI (ln))), none], [], 0, 0, hb (sL L) F G R sO) Q
  refine pw_iload_n rfl rfl ?_
  refine pw_iload_n rfl rfl ?_
  refine pw_if2p (cn_ge (by omega) (by omega)) rfl (t := 74) rfl (fun c1 => ?_) (fun c1 => ?_)
  · -- 74
    refine pw_iconst (v := nI (0)) rfl (by decide) ?_
    exact pw_iret rfl rfl (Nat.zero_le _) (Nat.zero_le _) rfl k
  · -- 35
    refine pw_iload_n rfl rfl ?_
    refine pw_aload_n rfl rfl ?_
    refine px_getv (x := nI (ed)) rfl rfl rfl rfl (hed) ?_
    refine pw_if2p (cn_gt (by omega) (by omega)) rfl (t := 74) rfl (fun c2 => ?_) (fun c2 => ?_)
    · -- 74
      refine pw_iconst (v := nI (0)) rfl (by decide) ?_
      exact pw_iret rfl rfl (Nat.zero_le _) (Nat.zero_le _) rfl k
    · -- 43
      refine pw_iload_n rfl rfl ?_
      refine pw_aload_n rfl rfl ?_
      refine px_getv (x := nI (ed)) rfl rfl rfl rfl (hed) ?_
      refine pw_if2p (cn_ne (by omega) (by omega)) rfl (t := 76) rfl (fun c3 => ?_) (fun c3 => ?_)
      · -- 76
        exact absurd (show tcan kn ln ed lw hi (lu F G p kn ln) by simp only [tcan, eq_false c1, eq_false c2, eq_false c3, not_true_eq_false, not_false_eq_true, and_self, and_true, true_and, and_false, false_and, or_true, true_or, or_false, false_or, or_self]) hc
      · -- 51
        refine pw_iload_n rfl rfl ?_
        refine pw_aload_n rfl rfl ?_
        refine px_getv (x := nI (kn)) rfl rfl rfl rfl (hkn) ?_
        refine pw_if2p (cn_ne (by omega) (by omega)) rfl (t := 74) rfl (fun c4 => ?_) (fun c4 => ?_)
        · -- 74
          refine pw_iconst (v := nI (0)) rfl (by decide) ?_
          exact pw_iret rfl rfl (Nat.zero_le _) (Nat.zero_le _) rfl k
        · -- 59
          refine pw_aload_n rfl rfl ?_
          refine px_getr (r := some (115)) rfl rfl rfl rfl rfl ?_
          refine pw_iload_n rfl rfl ?_
          refine px_ialdn (x := nI (lw)) rfl rfl (by omega) (by decide) (hlw) ?_
          refine pw_aload_n rfl rfl ?_
          refine px_getr (r := some (116)) rfl rfl rfl rfl rfl ?_
          refine pw_iload_n rfl rfl ?_
          refine px_ialdn (x := nI (hi)) rfl rfl (by omega) (by decide) (hhi) ?_
          refine pw_if2p (cn_ge (by omega) (by omega)) rfl (t := 76) rfl (fun c5 => ?_) (fun c5 => ?_)
          · -- 76
            exact absurd (show tcan kn ln ed lw hi (lu F G p kn ln) by simp only [tcan, eq_false c1, eq_false c2, eq_true (Decidable.of_not_not c3), eq_true (Decidable.of_not_not c4), eq_true c5, not_true_eq_false, not_false_eq_true, and_self, and_true, true_and, and_false, false_and, or_true, true_or, or_false, false_or, or_self]) hc
          · -- 74
            refine pw_iconst (v := nI (0)) rfl (by decide) ?_
            exact pw_iret rfl rfl (Nat.zero_le _) (Nat.zero_le _) rfl k
theorem t_load_yes {L p kn ln ed ms lw hi fl : Nat} {F G : FN} {R : RN} (hp : p < 4) (hkn : F 103 22 = nI kn) (hln : tlen F = nI ln) (hl2 : ln ≤ 401) (hkl : kn ≤ ln) (hed : F 103 23 = nI ed) (hed2 : ed ≤ 500) (hms : F 103 0 = nI ms) (hms2 : ms ≤ 7) (hms1 : 1 ≤ ms) (hlw : G 115 p = nI lw) (hl4 : lw ≤ 402) (hhi : G 116 p = nI hi) (hh : hi ≤ 402) (hfl : G 124 (2 * p) = nI fl) (hf6 : fl ≤ 6) (hc : tcan kn ln ed lw hi (lu F G p kn ln)) (h4 : lu F G p kn ln + lm F G p kn ln ed ms ≤ 401) (hm0 : 0 < lm F G p kn ln ed ms) (hm7 : hi + lm F G p kn ln ed ms ≤ 402) {Q : Option PV → PH → Prop} (k : Q (some (.inl (nI (1)))) (hb (sL L) (tbegin F G p (lu F G p kn ln) (lm F G p kn ln ed ms) hi fl).1 (tbegin F G p (lu F G p kn ln) (lm F G p kn ln ed ms) hi fl).2 R sO)) : pz pP mSBModel_load [.inr (some (103)), .inl (nI (p))] (hb (sL L) F G R sO) Q := by
  show pw pP mSBModel_load (0, [some (.inr (some (103))), some (.inl (nI (p))), none, none, none], [], 0, 0, hb (sL L) F G R sO) _
  refine pw_aload_n rfl rfl ?_
  refine px_getv (x := nI (kn)) rfl rfl rfl rfl (hkn) ?_
  refine pw_istore_n (ls1 := [some (.inr (some (103))), some (.inl (nI (p))), some (.inl (nI (kn))), none, none]) rfl (Nat.le_of_ble_eq_true rfl) rfl ?_
  refine pw_aload_n rfl rfl ?_
  refine px_callv (as := [.inr (some (103))]) (rest := []) rfl rfl (by decide) rfl (Nat.le_of_ble_eq_true rfl) (Nat.le_of_ble_eq_true rfl) (Nat.le_of_ble_eq_true rfl) (Nat.le_of_ble_eq_true rfl) rfl rfl rfl rfl ?_
  refine t_length ?_
  rw [hln]
  show pw pP mSBModel_load (9, [some (.inr (some (103))), some (.inl (nI (p))), some (.inl (nI (kn))), none, none], [.inl (nI (ln))], 0, 0, hb (sL L) F G R sO) _
  refine pw_istore_n (ls1 := [some (.inr (some (103))), some (.inl (nI (p))), some (.inl (nI (kn))), some (.inl (nI (ln))), none]) rfl (Nat.le_of_ble_eq_true rfl) rfl ?_
  refine t_load_1 hp hkn hln hl2 hkl (ln - kn) kn (by omega) ?_
  have hu : lu F G p kn ln ≤ ln := tl1_le (m := ln) (ln - kn) kn (by omega)
  show pw pP mSBModel_load (30, [some (.inr (some (103))), some (.inl (nI (p))), some (.inl (nI (lu F G p kn ln))), some (.inl (nI (ln))), none], [], 0, 0, hb (sL L) F G R sO) Q
  refine pw_iload_n rfl rfl ?_
  refine pw_iload_n rfl rfl ?_
  refine pw_if2p (cn_ge (by omega) (by omega)) rfl (t := 74) rfl (fun c1 => ?_) (fun c1 => ?_)
  · -- 74
    refine pw_iconst (v := nI (0)) rfl (by decide) ?_
    exact absurd hc (by simp only [tcan, eq_true c1, not_true_eq_false, not_false_eq_true, and_self, and_true, true_and, and_false, false_and, or_true, true_or, or_false, false_or, or_self])
  · -- 35
    refine pw_iload_n rfl rfl ?_
    refine pw_aload_n rfl rfl ?_
    refine px_getv (x := nI (ed)) rfl rfl rfl rfl (hed) ?_
    refine pw_if2p (cn_gt (by omega) (by omega)) rfl (t := 74) rfl (fun c2 => ?_) (fun c2 => ?_)
    · -- 74
      refine pw_iconst (v := nI (0)) rfl (by decide) ?_
      exact absurd hc (by simp only [tcan, eq_false c1, eq_true c2, not_true_eq_false, not_false_eq_true, and_self, and_true, true_and, and_false, false_and, or_true, true_or, or_false, false_or, or_self])
    · -- 43
      refine pw_iload_n rfl rfl ?_
      refine pw_aload_n rfl rfl ?_
      refine px_getv (x := nI (ed)) rfl rfl rfl rfl (hed) ?_
      refine pw_if2p (cn_ne (by omega) (by omega)) rfl (t := 76) rfl (fun c3 => ?_) (fun c3 => ?_)
      · -- 76
        refine pw_iconst (v := nI (1)) rfl (by decide) ?_
        refine pw_istore (ls1 := [some (.inr (some (103))), some (.inl (nI (p))), some (.inl (nI (lu F G p kn ln))), some (.inl (nI (ln))), some (.inl (nI (1)))]) rfl (Nat.le_of_ble_eq_true rfl) rfl ?_
        refine t_load_2 hp hkn hln hl2 hkl hed hed2 hms hms2 (by omega) (ms - 1) 1 (by omega) (by omega) ?_
        show pw pP mSBModel_load (117, [some (.inr (some (103))), some (.inl (nI (p))), some (.inl (nI (lu F G p kn ln))), some (.inl (nI (ln))), some (.inl (nI (lm F G p kn ln ed ms)))], [], 0, 0, hb (sL L) F G R sO) Q
        refine pw_aload_n rfl rfl ?_
        refine pw_iload_n rfl rfl ?_
        refine pw_iload_n rfl rfl ?_
        refine pw_iload rfl rfl ?_
        refine px_callv (as := [.inr (some (103)), .inl (nI (p)), .inl (nI (lu F G p kn ln)), .inl (nI (lm F G p kn ln ed ms))]) (rest := []) rfl rfl (by decide) rfl (Nat.le_of_ble_eq_true rfl) (Nat.le_of_ble_eq_true rfl) (Nat.le_of_ble_eq_true rfl) (Nat.le_of_ble_eq_true rfl) rfl rfl rfl rfl ?_
        refine t_begin hp h4 hm0 hm7 hhi hfl hf6 ?_
        show pw pP mSBModel_load (125, [some (.inr (some (103))), some (.inl (nI (p))), some (.inl (nI (lu F G p kn ln))), some (.inl (nI (ln))), some (.inl (nI (lm F G p kn ln ed ms)))], [], 0, 0, hb (sL L) (tbegin F G p (lu F G p kn ln) (lm F G p kn ln ed ms) hi fl).1 (tbegin F G p (lu F G p kn ln) (lm F G p kn ln ed ms) hi fl).2 R sO) _
        refine pw_iconst (v := nI (1)) rfl (by decide) ?_
        exact pw_iret rfl rfl (Nat.zero_le _) (Nat.zero_le _) rfl k
      · -- 51
        refine pw_iload_n rfl rfl ?_
        refine pw_aload_n rfl rfl ?_
        refine px_getv (x := nI (kn)) rfl rfl rfl rfl (hkn) ?_
        refine pw_if2p (cn_ne (by omega) (by omega)) rfl (t := 74) rfl (fun c4 => ?_) (fun c4 => ?_)
        · -- 74
          refine pw_iconst (v := nI (0)) rfl (by decide) ?_
          exact absurd hc (by simp only [tcan, eq_false c1, eq_false c2, eq_true (Decidable.of_not_not c3), eq_false c4, not_true_eq_false, not_false_eq_true, and_self, and_true, true_and, and_false, false_and, or_true, true_or, or_false, false_or, or_self])
        · -- 59
          refine pw_aload_n rfl rfl ?_
          refine px_getr (r := some (115)) rfl rfl rfl rfl rfl ?_
          refine pw_iload_n rfl rfl ?_
          refine px_ialdn (x := nI (lw)) rfl rfl (by omega) (by decide) (hlw) ?_
          refine pw_aload_n rfl rfl ?_
          refine px_getr (r := some (116)) rfl rfl rfl rfl rfl ?_
          refine pw_iload_n rfl rfl ?_
          refine px_ialdn (x := nI (hi)) rfl rfl (by omega) (by decide) (hhi) ?_
          refine pw_if2p (cn_ge (by omega) (by omega)) rfl (t := 76) rfl (fun c5 => ?_) (fun c5 => ?_)
          · -- 76
            refine pw_iconst (v := nI (1)) rfl (by decide) ?_
            refine pw_istore (ls1 := [some (.inr (some (103))), some (.inl (nI (p))), some (.inl (nI (lu F G p kn ln))), some (.inl (nI (ln))), some (.inl (nI (1)))]) rfl (Nat.le_of_ble_eq_true rfl) rfl ?_
            refine t_load_2 hp hkn hln hl2 hkl hed hed2 hms hms2 (by omega) (ms - 1) 1 (by omega) (by omega) ?_
            show pw pP mSBModel_load (117, [some (.inr (some (103))), some (.inl (nI (p))), some (.inl (nI (lu F G p kn ln))), some (.inl (nI (ln))), some (.inl (nI (lm F G p kn ln ed ms)))], [], 0, 0, hb (sL L) F G R sO) Q
            refine pw_aload_n rfl rfl ?_
            refine pw_iload_n rfl rfl ?_
            refine pw_iload_n rfl rfl ?_
            refine pw_iload rfl rfl ?_
            refine px_callv (as := [.inr (some (103)), .inl (nI (p)), .inl (nI (lu F G p kn ln)), .inl (nI (lm F G p kn ln ed ms))]) (rest := []) rfl rfl (by decide) rfl (Nat.le_of_ble_eq_true rfl) (Nat.le_of_ble_eq_true rfl) (Nat.le_of_ble_eq_true rfl) (Nat.le_of_ble_eq_true rfl) rfl rfl rfl rfl ?_
            refine t_begin hp h4 hm0 hm7 hhi hfl hf6 ?_
            show pw pP mSBModel_load (125, [some (.inr (some (103))), some (.inl (nI (p))), some (.inl (nI (lu F G p kn ln))), some (.inl (nI (ln))), some (.inl (nI (lm F G p kn ln ed ms)))], [], 0, 0, hb (sL L) (tbegin F G p (lu F G p kn ln) (lm F G p kn ln ed ms) hi fl).1 (tbegin F G p (lu F G p kn ln) (lm F G p kn ln ed ms) hi fl).2 R sO) _
            refine pw_iconst (v := nI (1)) rfl (by decide) ?_
            exact pw_iret rfl rfl (Nat.zero_le _) (Nat.zero_le _) rfl k
          · -- 74
            refine pw_iconst (v := nI (0)) rfl (by decide) ?_
            exact absurd hc (by simp only [tcan, eq_false c1, eq_false c2, eq_true (Decidable.of_not_not c3), eq_true (Decidable.of_not_not c4), eq_false c5, not_true_eq_false, not_false_eq_true, and_self, and_true, true_and, and_false, false_and, or_true, true_or, or_false, false_or, or_self])
end
section
/-! THE REFERENCE, eleventh part: sends. Rows laid by a program (wip/whole/gen/twin9.py). -/
def twant (G : FN) : Nat → Nat → Int32 → Int32
  | 0, _, w => w
  | n + 1, p, w => twant G n (p + 1) (if G 107 p = nI 2 then nI 2 else w)
def tb2 (G : FN) (w g : Int32) (p : Nat) (bo : Option Nat) : Option Nat := if G 107 p = w then (if (g >>> (nI p &&& 31)) &&& nI 1 = 0 then (match bo with
  | none => some p
  | some b => if G 112 p = 0 then some b else if G 112 b = 0 then some p else if G 113 b ≤ G 113 p then some b else some p) else bo) else bo
/-- the quickest path of those in the state w that are not in g -/
def tbst (G : FN) (w g : Int32) : Nat → Nat → Option Nat → Option Nat
  | 0, _, bo => bo
  | n + 1, p, bo => tbst G w g n (p + 1) (tb2 G w g p bo)
theorem tb2_lt {G : FN} {w g : Int32} {p : Nat} {bo : Option Nat} (hp : p < 4) (hb : ∀ b, bo = some b → b < 4) : ∀ b, tb2 G w g p bo = some b → b < 4 := by
  intro b e
  unfold tb2 at e
  split at e
  · split at e
    · split at e
      · cases e; exact hp
      · rename_i b1
        split at e
        · cases e; exact hb _ rfl
        · split at e
          · cases e; exact hp
          · split at e
            · cases e; exact hb _ rfl
            · cases e; exact hp
    · exact hb b e
  · exact hb b e
theorem tbst_lt {G : FN} {w g : Int32} : ∀ (n p : Nat) (bo : Option Nat), p + n ≤ 4 → (∀ b, bo = some b → b < 4) → ∀ b, tbst G w g n p bo = some b → b < 4
  | 0, _, _, _, hb, b, e => hb b e
  | n + 1, p, bo, hn, hb, b, e => tbst_lt n (p + 1) _ (by omega) (tb2_lt (by omega) hb) b e
theorem t_sends_1 {L : Nat} {F G : FN} {R : RN} {Q : Option PV → PH → Prop} : ∀ (n p : Nat) (w : Int32), p + n = 4 → pw pP mSBModel_sends (31, [some (.inr (some (103))), some (.inl (twant G n p w)), some (.inl (nI (4))), none, none, none, none], [], 0, 0, hb (sL L) F G R sO) Q → pw pP mSBModel_sends (4, [some (.inr (some (103))), some (.inl (w)), some (.inl (nI (p))), none, none, none, none], [], 0, 0, hb (sL L) F G R sO) Q := by
  intro n
  induction n with
  | zero =>
    intro p w hn k
    have e : p = 4 := by omega
    subst e
    refine pw_iload_n rfl rfl ?_
    refine pw_iconst (v := nI (4)) rfl (by decide) ?_
    refine pw_if2 (t := 31) rfl rfl (fun _ => ?_) (fun q => absurd q (by decide))
    exact k
  | succ n ih =>
    intro p w hn k
    refine pw_iload_n rfl rfl ?_
    refine pw_iconst (v := nI (4)) rfl (by decide) ?_
    refine pw_if2p (cn_ge (by omega) (by omega)) rfl (t := 31) rfl (fun c1 => ?_) (fun c1 => ?_)
    · -- 31
      exact absurd c1 (by omega)
    · -- 9
      refine pw_aload_n rfl rfl ?_
      refine px_getr (r := some (107)) rfl rfl rfl rfl rfl ?_
      refine pw_iload_n rfl rfl ?_
      refine px_ialdn (x := G (107) (p)) rfl rfl (by omega) (by decide) (rfl) ?_
      refine pw_iconst (v := nI (2)) rfl (by decide) ?_
      refine pw_if2p (A := ¬ G (107) (p) = nI (2)) rfl rfl (t := 23) rfl (fun c2 => ?_) (fun c2 => ?_)
      · -- 23
        refine pw_iload_n rfl rfl ?_
        refine pw_istore_n (ls1 := [some (.inr (some (103))), some (.inl (w)), some (.inl (nI (p))), none, none, none, none]) rfl (Nat.le_of_ble_eq_true rfl) rfl ?_
        refine pw_iinc (v := nI (p + 1)) (ls1 := [some (.inr (some (103))), some (.inl (w)), some (.inl (nI (p + 1))), none, none, none, none]) rfl rfl (iinc_n _) rfl ?_
        refine pw_goto (t := 4) rfl rfl ?_
        exact ih (p + 1) _ (by omega) (by simp only [twant, eq_false c2, if_true, if_false] at k; exact k)
      · -- 19
        refine pw_iconst (v := nI (2)) rfl (by decide) ?_
        refine pw_goto (t := 24) rfl rfl ?_
        refine pw_istore_n (ls1 := [some (.inr (some (103))), some (.inl (nI (2))), some (.inl (nI (p))), none, none, none, none]) rfl (Nat.le_of_ble_eq_true rfl) rfl ?_
        refine pw_iinc (v := nI (p + 1)) (ls1 := [some (.inr (some (103))), some (.inl (nI (2))), some (.inl (nI (p + 1))), none, none, none, none]) rfl rfl (iinc_n _) rfl ?_
        refine pw_goto (t := 4) rfl rfl ?_
        exact ih (p + 1) _ (by omega) (by simp only [twant, eq_true (Decidable.of_not_not c2), if_true, if_false] at k; exact k)
theorem t_sends_3 {L t : Nat} {w g : Int32} {F G : FN} {R : RN} {Q : Option PV → PH → Prop} : ∀ (n p : Nat) (bo : Option Nat) (o6 : Option PV), p + n = 4 → (∀ b, bo = some b → b < 4) → (∀ o, pw pP mSBModel_sends (136, [some (.inr (some (103))), some (.inl (w)), some (.inl (g)), some (.inl (nI (t))), some (.inl (oI (tbst G w g n p bo))), some (.inl (nI (4))), o], [], 0, 0, hb (sL L) F G R sO) Q) → pw pP mSBModel_sends (46, [some (.inr (some (103))), some (.inl (w)), some (.inl (g)), some (.inl (nI (t))), some (.inl (oI bo)), some (.inl (nI (p))), o6], [], 0, 0, hb (sL L) F G R sO) Q := by
  intro n
  induction n with
  | zero =>
    intro p bo o6 hn hbo k
    have e : p = 4 := by omega
    subst e
    refine pw_iload rfl rfl ?_
    refine pw_iconst (v := nI (4)) rfl (by decide) ?_
    refine pw_if2 (t := 136) rfl rfl (fun _ => ?_) (fun q => absurd q (by decide))
    exact k _
  | succ n ih =>
    intro p bo o6 hn hbo k
    have hb2 := tb2_lt (G := G) (w := w) (g := g) (bo := bo) (show p < 4 by omega) hbo
    cases bo with
    | none =>
      show pw pP mSBModel_sends (46, [some (.inr (some (103))), some (.inl (w)), some (.inl (g)), some (.inl (nI (t))), some (.inl (-1)), some (.inl (nI (p))), o6], [], 0, 0, hb (sL L) F G R sO) Q
      refine pw_iload rfl rfl ?_
      refine pw_iconst (v := nI (4)) rfl (by decide) ?_
      refine pw_if2p (cn_ge (by omega) (by omega)) rfl (t := 136) rfl (fun c1 => ?_) (fun c1 => ?_)
      · -- 136
        exact absurd c1 (by omega)
      · -- 52
        refine pw_aload_n rfl rfl ?_
        refine px_getr (r := some (107)) rfl rfl rfl rfl rfl ?_
        refine pw_iload rfl rfl ?_
        refine px_ialdn (x := G (107) (p)) rfl rfl (by omega) (by decide) (rfl) ?_
        refine pw_iload_n rfl rfl ?_
        refine pw_if2p (A := ¬ G (107) (p) = w) rfl rfl (t := 76) rfl (fun c2 => ?_) (fun c2 => ?_)
        · -- 76
          refine pw_iconst (v := nI (0)) rfl (by decide) ?_
          refine pw_istore (ls1 := [some (.inr (some (103))), some (.inl (w)), some (.inl (g)), some (.inl (nI (t))), some (.inl (-1)), some (.inl (nI (p))), some (.inl (nI (0)))]) rfl (Nat.le_of_ble_eq_true rfl) rfl ?_
          refine pw_iload rfl rfl ?_
          refine pw_if1 (t := 130) rfl rfl (fun _ => ?_) (fun q => absurd q (by decide))
          refine pw_iinc (v := nI (p + 1)) (ls1 := [some (.inr (some (103))), some (.inl (w)), some (.inl (g)), some (.inl (nI (t))), some (.inl (-1)), some (.inl (nI (p + 1))), some (.inl (nI (0)))]) rfl rfl (iinc_n _) rfl ?_
          refine pw_goto (t := 46) rfl rfl ?_
          have e : tb2 G w g p (none) = (none) := by simp only [tb2, eq_false c2, if_true, if_false]
          rw [e] at hb2
          exact ih (p + 1) (none) _ (by omega) hb2 (fun o => by have k := k o; simp only [tbst, e] at k; exact k)
        · -- 63
          refine pw_iload_n rfl rfl ?_
          refine pw_iload rfl rfl ?_
          refine pw_ishr (z := g >>> ((nI (p)) &&& 31)) rfl rfl ?_
          refine pw_iconst (v := nI (1)) rfl (by decide) ?_
          refine pw_iand (z := (g >>> ((nI (p)) &&& 31)) &&& (nI (1))) rfl rfl ?_
          refine pw_if1p (A := ¬ (g >>> ((nI (p)) &&& 31)) &&& (nI (1)) = 0) rfl rfl (t := 76) rfl (fun c3 => ?_) (fun c3 => ?_)
          · -- 76
            refine pw_iconst (v := nI (0)) rfl (by decide) ?_
            refine pw_istore (ls1 := [some (.inr (some (103))), some (.inl (w)), some (.inl (g)), some (.inl (nI (t))), some (.inl (-1)), some (.inl (nI (p))), some (.inl (nI (0)))]) rfl (Nat.le_of_ble_eq_true rfl) rfl ?_
            refine pw_iload rfl rfl ?_
            refine pw_if1 (t := 130) rfl rfl (fun _ => ?_) (fun q => absurd q (by decide))
            refine pw_iinc (v := nI (p + 1)) (ls1 := [some (.inr (some (103))), some (.inl (w)), some (.inl (g)), some (.inl (nI (t))), some (.inl (-1)), some (.inl (nI (p + 1))), some (.inl (nI (0)))]) rfl rfl (iinc_n _) rfl ?_
            refine pw_goto (t := 46) rfl rfl ?_
            have e : tb2 G w g p (none) = (none) := by simp only [tb2, eq_true (Decidable.of_not_not c2), eq_false c3, if_true, if_false]
            rw [e] at hb2
            exact ih (p + 1) (none) _ (by omega) hb2 (fun o => by have k := k o; simp only [tbst, e] at k; exact k)
          · -- 72
            refine pw_iconst (v := nI (1)) rfl (by decide) ?_
            refine pw_goto (t := 77) rfl rfl ?_
            refine pw_istore (ls1 := [some (.inr (some (103))), some (.inl (w)), some (.inl (g)), some (.inl (nI (t))), some (.inl (-1)), some (.inl (nI (p))), some (.inl (nI (1)))]) rfl (Nat.le_of_ble_eq_true rfl) rfl ?_
            refine pw_iload rfl rfl ?_
            refine pw_if1 (t := 130) rfl rfl (fun q => absurd q (by decide)) (fun _ => ?_)
            refine pw_iload rfl rfl ?_
            refine pw_if1p (A := -1 < 0) rfl rfl (t := 126) rfl (fun _ => ?_) (fun q => absurd (by decide) q)
            refine pw_iload rfl rfl ?_
            refine pw_istore (ls1 := [some (.inr (some (103))), some (.inl (w)), some (.inl (g)), some (.inl (nI (t))), some (.inl (nI (p))), some (.inl (nI (p))), some (.inl (nI (1)))]) rfl (Nat.le_of_ble_eq_true rfl) rfl ?_
            refine pw_iinc (v := nI (p + 1)) (ls1 := [some (.inr (some (103))), some (.inl (w)), some (.inl (g)), some (.inl (nI (t))), some (.inl (nI (p))), some (.inl (nI (p + 1))), some (.inl (nI (1)))]) rfl rfl (iinc_n _) rfl ?_
            refine pw_goto (t := 46) rfl rfl ?_
            have e : tb2 G w g p (none) = (some p) := by simp only [tb2, eq_true (Decidable.of_not_not c2), eq_true (Decidable.of_not_not c3), if_true, if_false]
            rw [e] at hb2
            exact ih (p + 1) (some p) _ (by omega) hb2 (fun o => by have k := k o; simp only [tbst, e] at k; exact k)
    | some b =>
      have hb4 : b < 4 := hbo b rfl
      show pw pP mSBModel_sends (46, [some (.inr (some (103))), some (.inl (w)), some (.inl (g)), some (.inl (nI (t))), some (.inl (nI (b))), some (.inl (nI (p))), o6], [], 0, 0, hb (sL L) F G R sO) Q
      refine pw_iload rfl rfl ?_
      refine pw_iconst (v := nI (4)) rfl (by decide) ?_
      refine pw_if2p (cn_ge (by omega) (by omega)) rfl (t := 136) rfl (fun c1 => ?_) (fun c1 => ?_)
      · -- 136
        exact absurd c1 (by omega)
      · -- 52
        refine pw_aload_n rfl rfl ?_
        refine px_getr (r := some (107)) rfl rfl rfl rfl rfl ?_
        refine pw_iload rfl rfl ?_
        refine px_ialdn (x := G (107) (p)) rfl rfl (by omega) (by decide) (rfl) ?_
        refine pw_iload_n rfl rfl ?_
        refine pw_if2p (A := ¬ G (107) (p) = w) rfl rfl (t := 76) rfl (fun c2 => ?_) (fun c2 => ?_)
        · -- 76
          refine pw_iconst (v := nI (0)) rfl (by decide) ?_
          refine pw_istore (ls1 := [some (.inr (some (103))), some (.inl (w)), some (.inl (g)), some (.inl (nI (t))), some (.inl (nI (b))), some (.inl (nI (p))), some (.inl (nI (0)))]) rfl (Nat.le_of_ble_eq_true rfl) rfl ?_
          refine pw_iload rfl rfl ?_
          refine pw_if1 (t := 130) rfl rfl (fun _ => ?_) (fun q => absurd q (by decide))
          refine pw_iinc (v := nI (p + 1)) (ls1 := [some (.inr (some (103))), some (.inl (w)), some (.inl (g)), some (.inl (nI (t))), some (.inl (nI (b))), some (.inl (nI (p + 1))), some (.inl (nI (0)))]) rfl rfl (iinc_n _) rfl ?_
          refine pw_goto (t := 46) rfl rfl ?_
          have e : tb2 G w g p (some b) = (some b) := by simp only [tb2, eq_false c2, if_true, if_false]
          rw [e] at hb2
          exact ih (p + 1) (some b) _ (by omega) hb2 (fun o => by have k := k o; simp only [tbst, e] at k; exact k)
        · -- 63
          refine pw_iload_n rfl rfl ?_
          refine pw_iload rfl rfl ?_
          refine pw_ishr (z := g >>> ((nI (p)) &&& 31)) rfl rfl ?_
          refine pw_iconst (v := nI (1)) rfl (by decide) ?_
          refine pw_iand (z := (g >>> ((nI (p)) &&& 31)) &&& (nI (1))) rfl rfl ?_
          refine pw_if1p (A := ¬ (g >>> ((nI (p)) &&& 31)) &&& (nI (1)) = 0) rfl rfl (t := 76) rfl (fun c3 => ?_) (fun c3 => ?_)
          · -- 76
            refine pw_iconst (v := nI (0)) rfl (by decide) ?_
            refine pw_istore (ls1 := [some (.inr (some (103))), some (.inl (w)), some (.inl (g)), some (.inl (nI (t))), some (.inl (nI (b))), some (.inl (nI (p))), some (.inl (nI (0)))]) rfl (Nat.le_of_ble_eq_true rfl) rfl ?_
            refine pw_iload rfl rfl ?_
            refine pw_if1 (t := 130) rfl rfl (fun _ => ?_) (fun q => absurd q (by decide))
            refine pw_iinc (v := nI (p + 1)) (ls1 := [some (.inr (some (103))), some (.inl (w)), some (.inl (g)), some (.inl (nI (t))), some (.inl (nI (b))), some (.inl (nI (p + 1))), some (.inl (nI (0)))]) rfl rfl (iinc_n _) rfl ?_
            refine pw_goto (t := 46) rfl rfl ?_
            have e : tb2 G w g p (some b) = (some b) := by simp only [tb2, eq_true (Decidable.of_not_not c2), eq_false c3, if_true, if_false]
            rw [e] at hb2
            exact ih (p + 1) (some b) _ (by omega) hb2 (fun o => by have k := k o; simp only [tbst, e] at k; exact k)
          · -- 72
            refine pw_iconst (v := nI (1)) rfl (by decide) ?_
            refine pw_goto (t := 77) rfl rfl ?_
            refine pw_istore (ls1 := [some (.inr (some (103))), some (.inl (w)), some (.inl (g)), some (.inl (nI (t))), some (.inl (nI (b))), some (.inl (nI (p))), some (.inl (nI (1)))]) rfl (Nat.le_of_ble_eq_true rfl) rfl ?_
            refine pw_iload rfl rfl ?_
            refine pw_if1 (t := 130) rfl rfl (fun q => absurd q (by decide)) (fun _ => ?_)
            refine pw_iload rfl rfl ?_
            refine pw_if1p (cz_lt (by omega)) rfl (t := 126) rfl (fun q => absurd q (by omega)) (fun _ => ?_)
            refine pw_aload_n rfl rfl ?_
            refine px_getr (r := some (112)) rfl rfl rfl rfl rfl ?_
            refine pw_iload rfl rfl ?_
            refine px_zaldn (x := G (112) (p)) rfl rfl (by omega) (by decide) (rfl) ?_
            refine pw_if1p (A := G (112) (p) = 0) rfl rfl (t := 130) rfl (fun c4 => ?_) (fun c4 => ?_)
            · -- 130
              refine pw_iinc (v := nI (p + 1)) (ls1 := [some (.inr (some (103))), some (.inl (w)), some (.inl (g)), some (.inl (nI (t))), some (.inl (nI (b))), some (.inl (nI (p + 1))), some (.inl (nI (1)))]) rfl rfl (iinc_n _) rfl ?_
              refine pw_goto (t := 46) rfl rfl ?_
              have e : tb2 G w g p (some b) = (some b) := by simp only [tb2, eq_true (Decidable.of_not_not c2), eq_true (Decidable.of_not_not c3), eq_true c4, if_true, if_false]
              rw [e] at hb2
              exact ih (p + 1) (some b) _ (by omega) hb2 (fun o => by have k := k o; simp only [tbst, e] at k; exact k)
            · -- 99
              refine pw_aload_n rfl rfl ?_
              refine px_getr (r := some (112)) rfl rfl rfl rfl rfl ?_
              refine pw_iload rfl rfl ?_
              refine px_zaldn (x := G (112) (b)) rfl rfl (by omega) (by decide) (rfl) ?_
              refine pw_if1p (A := G (112) (b) = 0) rfl rfl (t := 126) rfl (fun c5 => ?_) (fun c5 => ?_)
              · -- 126
                refine pw_iload rfl rfl ?_
                refine pw_istore (ls1 := [some (.inr (some (103))), some (.inl (w)), some (.inl (g)), some (.inl (nI (t))), some (.inl (nI (p))), some (.inl (nI (p))), some (.inl (nI (1)))]) rfl (Nat.le_of_ble_eq_true rfl) rfl ?_
                refine pw_iinc (v := nI (p + 1)) (ls1 := [some (.inr (some (103))), some (.inl (w)), some (.inl (g)), some (.inl (nI (t))), some (.inl (nI (p))), some (.inl (nI (p + 1))), some (.inl (nI (1)))]) rfl rfl (iinc_n _) rfl ?_
                refine pw_goto (t := 46) rfl rfl ?_
                have e : tb2 G w g p (some b) = (some p) := by simp only [tb2, eq_true (Decidable.of_not_not c2), eq_true (Decidable.of_not_not c3), eq_false c4, eq_true c5, if_true, if_false]
                rw [e] at hb2
                exact ih (p + 1) (some p) _ (by omega) hb2 (fun o => by have k := k o; simp only [tbst, e] at k; exact k)
              · -- 109
                refine pw_aload_n rfl rfl ?_
                refine px_getr (r := some (113)) rfl rfl rfl rfl rfl ?_
                refine pw_iload rfl rfl ?_
                refine px_ialdn (x := G (113) (p)) rfl rfl (by omega) (by decide) (rfl) ?_
                refine pw_aload_n rfl rfl ?_
                refine px_getr (r := some (113)) rfl rfl rfl rfl rfl ?_
                refine pw_iload rfl rfl ?_
                refine px_ialdn (x := G (113) (b)) rfl rfl (by omega) (by decide) (rfl) ?_
                refine pw_if2p (A := G (113) (b) ≤ G (113) (p)) rfl rfl (t := 130) rfl (fun c6 => ?_) (fun c6 => ?_)
                · -- 130
                  refine pw_iinc (v := nI (p + 1)) (ls1 := [some (.inr (some (103))), some (.inl (w)), some (.inl (g)), some (.inl (nI (t))), some (.inl (nI (b))), some (.inl (nI (p + 1))), some (.inl (nI (1)))]) rfl rfl (iinc_n _) rfl ?_
                  refine pw_goto (t := 46) rfl rfl ?_
                  have e : tb2 G w g p (some b) = (some b) := by simp only [tb2, eq_true (Decidable.of_not_not c2), eq_true (Decidable.of_not_not c3), eq_false c4, eq_false c5, eq_true c6, if_true, if_false]
                  rw [e] at hb2
                  exact ih (p + 1) (some b) _ (by omega) hb2 (fun o => by have k := k o; simp only [tbst, e] at k; exact k)
                · -- 126
                  refine pw_iload rfl rfl ?_
                  refine pw_istore (ls1 := [some (.inr (some (103))), some (.inl (w)), some (.inl (g)), some (.inl (nI (t))), some (.inl (nI (p))), some (.inl (nI (p))), some (.inl (nI (1)))]) rfl (Nat.le_of_ble_eq_true rfl) rfl ?_
                  refine pw_iinc (v := nI (p + 1)) (ls1 := [some (.inr (some (103))), some (.inl (w)), some (.inl (g)), some (.inl (nI (t))), some (.inl (nI (p))), some (.inl (nI (p + 1))), some (.inl (nI (1)))]) rfl rfl (iinc_n _) rfl ?_
                  refine pw_goto (t := 46) rfl rfl ?_
                  have e : tb2 G w g p (some b) = (some p) := by simp only [tb2, eq_true (Decidable.of_not_not c2), eq_true (Decidable.of_not_not c3), eq_false c4, eq_false c5, eq_false c6, if_true, if_false]
                  rw [e] at hb2
                  exact ih (p + 1) (some p) _ (by omega) hb2 (fun o => by have k := k o; simp only [tbst, e] at k; exact k)
/-- the path that gets a segment -/
def tsn (ab : Nat → Bool) (G : FN) (w : Int32) : Nat → Int32 → Option Nat
  | 0, _ => none
  | n + 1, g => match tbst G w g 4 0 none with
    | none => none
    | some b => match ab b with
      | true => some b
      | false => tsn ab G w n (g ||| (nI 1 <<< (nI b &&& 31)))
theorem tsn_none {ab : Nat → Bool} {G : FN} {w g : Int32} {n : Nat} (e : tbst G w g 4 0 none = none) : tsn ab G w (n + 1) g = none := by simp only [tsn, e]
theorem tsn_t {ab : Nat → Bool} {G : FN} {w g : Int32} {n b : Nat} (e : tbst G w g 4 0 none = some b) (h : ab b = true) : tsn ab G w (n + 1) g = some b := by simp only [tsn, e, h]
theorem tsn_f {ab : Nat → Bool} {G : FN} {w g : Int32} {n b : Nat} (e : tbst G w g 4 0 none = some b) (h : ab b = false) : tsn ab G w (n + 1) g = tsn ab G w n (g ||| (nI 1 <<< (nI b &&& 31))) := by simp only [tsn, e, h]
/-- can the path b get a segment -/
def tab (F G : FN) (kn ln ed : Nat) (lw hi : Nat → Nat) (b : Nat) : Bool := decide (to3 G b (hi b - lw b) (lw b) 0 < 3) && decide (tcan kn ln ed (lw b) (hi b) (lu F G b kn ln))
def tsr (o : Option Nat) : Nat := match o with
  | none => 0
  | some _ => 1
def tsF (F G : FN) (kn ln ed ms : Nat) (hi fl : Nat → Nat) (o : Option Nat) : FN × FN := match o with
  | none => (F, G)
  | some b => tbegin F G b (lu F G b kn ln) (lm F G b kn ln ed ms) (hi b) (fl b)
theorem to3_le {G : FN} {p : Nat} : ∀ (n j c : Nat), to3 G p n j c ≤ c + n
  | 0, _, _ => by simp only [to3]; omega
  | n + 1, j, c => by
    simp only [to3]
    split
    · have := to3_le (G := G) (p := p) n (j + 1) c
      omega
    · have := to3_le (G := G) (p := p) n (j + 1) (c + 1)
      omega
set_option maxHeartbeats 4000000 in
theorem t_sends_2 {L kn ln ed ms : Nat} {lw hi fl : Nat → Nat} {F G : FN} {R : RN} {Q : Option PV → PH → Prop} (hkn : F 103 22 = nI kn) (hln : tlen F = nI ln) (hl2 : ln ≤ 401) (hkl : kn ≤ ln) (hed : F 103 23 = nI ed) (hed2 : ed ≤ 500) (hms : F 103 0 = nI ms) (hms2 : ms ≤ 7) (hms1 : 1 ≤ ms) (hlw : ∀ b, b < 4 → G 115 b = nI (lw b)) (hhi : ∀ b, b < 4 → G 116 b = nI (hi b)) (hlh : ∀ b, b < 4 → lw b ≤ hi b) (hh : ∀ b, b < 4 → hi b ≤ 402) (hfl : ∀ b, b < 4 → G 124 (2 * b) = nI (fl b)) (hf6 : ∀ b, b < 4 → fl b ≤ 6) (hcap : ∀ b, b < 4 → tcan kn ln ed (lw b) (hi b) (lu F G b kn ln) → lu F G b kn ln + lm F G b kn ln ed ms ≤ 401 ∧ 0 < lm F G b kn ln ed ms ∧ hi b + lm F G b kn ln ed ms ≤ 402) {w : Int32} : ∀ (n t : Nat) (g : Int32) (o4 o5 o6 : Option PV), t + n = 4 → Q (some (.inl (nI (tsr (tsn (tab F G kn ln ed lw hi) G w n g))))) (hb (sL L) (tsF F G kn ln ed ms hi fl (tsn (tab F G kn ln ed lw hi) G w n g)).1 (tsF F G kn ln ed ms hi fl (tsn (tab F G kn ln ed lw hi) G w n g)).2 R sO) → pw pP mSBModel_sends (35, [some (.inr (some (103))), some (.inl (w)), some (.inl (g)), some (.inl (nI (t))), o4, o5, o6], [], 0, 0, hb (sL L) F G R sO) Q := by
  intro n
  induction n with
  | zero =>
    intro t g o4 o5 o6 hn k
    have e : t = 4 := by omega
    subst e
    refine pw_iload_n rfl rfl ?_
    refine pw_iconst (v := nI (4)) rfl (by decide) ?_
    refine pw_if2 (t := 177) rfl rfl (fun _ => ?_) (fun q => absurd q (by decide))
    refine pw_iconst (v := nI (0)) rfl (by decide) ?_
    exact pw_iret rfl rfl (Nat.zero_le _) (Nat.zero_le _) rfl k
  | succ n ih =>
    intro t g o4 o5 o6 hn k
    refine pw_iload_n rfl rfl ?_
    refine pw_iconst (v := nI (4)) rfl (by decide) ?_
    refine pw_if2p (cn_ge (by omega) (by omega)) rfl (t := 177) rfl (fun c1 => ?_) (fun c1 => ?_)
    · -- 177
      refine pw_iconst (v := nI (0)) rfl (by decide) ?_
      exact absurd c1 (by omega)
    · -- 40
      refine pw_iconst (v := (-1)) rfl (by decide) ?_
      refine pw_istore (ls1 := [some (.inr (some (103))), some (.inl (w)), some (.inl (g)), some (.inl (nI (t))), some (.inl ((-1))), o5, o6]) rfl (Nat.le_of_ble_eq_true rfl) rfl ?_
      refine pw_iconst (v := nI (0)) rfl (by decide) ?_
      refine pw_istore (ls1 := [some (.inr (some (103))), some (.inl (w)), some (.inl (g)), some (.inl (nI (t))), some (.inl ((-1))), some (.inl (nI (0))), o6]) rfl (Nat.le_of_ble_eq_true rfl) rfl ?_
      refine t_sends_3 4 0 none _ rfl (fun b q => by cases q) (fun o => ?_)
      cases e : tbst G w g 4 0 none with
      | none =>
        rw [tsn_none e] at k
        show pw pP mSBModel_sends (136, [some (.inr (some (103))), some (.inl (w)), some (.inl (g)), some (.inl (nI (t))), some (.inl (-1)), some (.inl (nI (4))), o], [], 0, 0, hb (sL L) F G R sO) Q
        refine pw_iload rfl rfl ?_
        refine pw_if1p (A := 0 ≤ -1) rfl rfl (t := 143) rfl (fun q => absurd q (by decide)) (fun _ => ?_)
        refine pw_iconst (v := nI (0)) rfl (by decide) ?_
        exact pw_iret rfl rfl (Nat.zero_le _) (Nat.zero_le _) rfl k
      | some b =>
        have hb4 : b < 4 := tbst_lt 4 0 none (by decide) (fun b q => by cases q) b e
        have h1 := hlh b hb4
        have h2 := hh b hb4
        have h3 := hf6 b hb4
        show pw pP mSBModel_sends (136, [some (.inr (some (103))), some (.inl (w)), some (.inl (g)), some (.inl (nI (t))), some (.inl (nI (b))), some (.inl (nI (4))), o], [], 0, 0, hb (sL L) F G R sO) Q
        have h9 : to3 G b (hi b - lw b) (lw b) 0 < 2 ^ 31 := Nat.lt_of_le_of_lt (to3_le _ _ _) (by omega)
        refine pw_iload rfl rfl ?_
        refine pw_if1p (cz_ge (by omega)) rfl (t := 143) rfl (fun _ => ?_) (fun q => absurd (by omega) q)
        refine pw_iload_n rfl rfl ?_
        refine pw_iconst (v := nI (1)) rfl (by decide) ?_
        refine pw_iload rfl rfl ?_
        refine pw_ishl (z := (nI (1)) <<< ((nI (b)) &&& 31)) rfl rfl ?_
        refine pw_ior (z := g ||| ((nI (1)) <<< ((nI (b)) &&& 31))) rfl rfl ?_
        refine pw_istore_n (ls1 := [some (.inr (some (103))), some (.inl (w)), some (.inl (g ||| ((nI (1)) <<< ((nI (b)) &&& 31)))), some (.inl (nI (t))), some (.inl (nI (b))), some (.inl (nI (4))), o]) rfl (Nat.le_of_ble_eq_true rfl) rfl ?_
        refine pw_aload_n rfl rfl ?_
        refine pw_iload rfl rfl ?_
        refine px_callv (as := [.inr (some (103)), .inl (nI (b))]) (rest := []) rfl rfl (by decide) rfl (Nat.le_of_ble_eq_true rfl) (Nat.le_of_ble_eq_true rfl) (Nat.le_of_ble_eq_true rfl) (Nat.le_of_ble_eq_true rfl) rfl rfl rfl rfl ?_
        refine t_open3 hb4 (hlw b hb4) (hhi b hb4) h1 h2 ?_
        show pw pP mSBModel_sends (156, [some (.inr (some (103))), some (.inl (w)), some (.inl (g ||| ((nI (1)) <<< ((nI (b)) &&& 31)))), some (.inl (nI (t))), some (.inl (nI (b))), some (.inl (nI (4))), o], [.inl (nI (to3 G b (hi b - lw b) (lw b) 0))], 0, 0, hb (sL L) F G R sO) _
        refine pw_iconst (v := nI (3)) rfl (by decide) ?_
        refine pw_if2p (cn_ge (by omega) (by omega)) rfl (t := 171) rfl (fun c2 => ?_) (fun c2 => ?_)
        · -- 171
          refine pw_iinc (v := nI (t + 1)) (ls1 := [some (.inr (some (103))), some (.inl (w)), some (.inl (g ||| ((nI (1)) <<< ((nI (b)) &&& 31)))), some (.inl (nI (t + 1))), some (.inl (nI (b))), some (.inl (nI (4))), o]) rfl rfl (iinc_n _) rfl ?_
          refine pw_goto (t := 35) rfl rfl ?_
          have ha : tab F G kn ln ed lw hi b = false := by simp only [tab, Bool.and_eq_false_iff, decide_eq_false_iff_not]; exact Or.inl (by omega)
          rw [tsn_f e ha] at k
          exact ih (t + 1) _ _ _ _ (by omega) k
        · -- 160
          by_cases hc : tcan kn ln ed (lw b) (hi b) (lu F G b kn ln)
          · have ha : tab F G kn ln ed lw hi b = true := by simp only [tab, Bool.and_eq_true, Bool.and_eq_false_iff, decide_eq_true_eq, decide_eq_false_iff_not]; exact ⟨by omega, hc⟩
            rw [tsn_t e ha] at k
            obtain ⟨g1, g2, g3⟩ := hcap b hb4 hc
            refine pw_aload_n rfl rfl ?_
            refine pw_iload rfl rfl ?_
            refine px_callv (as := [.inr (some (103)), .inl (nI (b))]) (rest := []) rfl rfl (by decide) rfl (Nat.le_of_ble_eq_true rfl) (Nat.le_of_ble_eq_true rfl) (Nat.le_of_ble_eq_true rfl) (Nat.le_of_ble_eq_true rfl) rfl rfl rfl rfl ?_
            refine t_load_yes hb4 hkn hln hl2 hkl hed hed2 hms hms2 hms1 (hlw b hb4) (by omega) (hhi b hb4) h2 (hfl b hb4) h3 hc g1 g2 g3 ?_
            show pw pP mSBModel_sends (166, [some (.inr (some (103))), some (.inl (w)), some (.inl (g ||| ((nI (1)) <<< ((nI (b)) &&& 31)))), some (.inl (nI (t))), some (.inl (nI (b))), some (.inl (nI (4))), o], [.inl (nI (1))], 0, 0, hb (sL L) (tbegin F G b (lu F G b kn ln) (lm F G b kn ln ed ms) (hi b) (fl b)).1 (tbegin F G b (lu F G b kn ln) (lm F G b kn ln ed ms) (hi b) (fl b)).2 R sO) _
            refine pw_if1 (t := 171) rfl rfl (fun q => absurd q (by decide)) (fun _ => ?_)
            refine pw_iconst (v := nI (1)) rfl (by decide) ?_
            exact pw_iret rfl rfl (Nat.zero_le _) (Nat.zero_le _) rfl k
          · have ha : tab F G kn ln ed lw hi b = false := by simp only [tab, Bool.and_eq_true, Bool.and_eq_false_iff, decide_eq_true_eq, decide_eq_false_iff_not]; exact Or.inr hc
            rw [tsn_f e ha] at k
            refine pw_aload_n rfl rfl ?_
            refine pw_iload rfl rfl ?_
            refine px_callv (as := [.inr (some (103)), .inl (nI (b))]) (rest := []) rfl rfl (by decide) rfl (Nat.le_of_ble_eq_true rfl) (Nat.le_of_ble_eq_true rfl) (Nat.le_of_ble_eq_true rfl) (Nat.le_of_ble_eq_true rfl) rfl rfl rfl rfl ?_
            refine t_load_no hb4 hkn hln hl2 hkl hed hed2 hms hms2 hms1 (hlw b hb4) (by omega) (hhi b hb4) h2 (hfl b hb4) h3 hc ?_
            show pw pP mSBModel_sends (166, [some (.inr (some (103))), some (.inl (w)), some (.inl (g ||| ((nI (1)) <<< ((nI (b)) &&& 31)))), some (.inl (nI (t))), some (.inl (nI (b))), some (.inl (nI (4))), o], [.inl (nI (0))], 0, 0, hb (sL L) F G R sO) _
            refine pw_if1 (t := 171) rfl rfl (fun _ => ?_) (fun q => absurd q (by decide))
            refine pw_iinc (v := nI (t + 1)) (ls1 := [some (.inr (some (103))), some (.inl (w)), some (.inl (g ||| ((nI (1)) <<< ((nI (b)) &&& 31)))), some (.inl (nI (t + 1))), some (.inl (nI (b))), some (.inl (nI (4))), o]) rfl rfl (iinc_n _) rfl ?_
            refine pw_goto (t := 35) rfl rfl ?_
            exact ih (t + 1) _ _ _ _ (by omega) k
/-- the path that gets a segment now -/
def tsb (F G : FN) (kn ln ed : Nat) (lw hi : Nat → Nat) : Option Nat := tsn (tab F G kn ln ed lw hi) G (twant G 4 0 (nI 3)) 4 (nI 0)
theorem t_sends {L kn ln ed ms : Nat} {lw hi fl : Nat → Nat} {F G : FN} {R : RN} {Q : Option PV → PH → Prop} (hkn : F 103 22 = nI kn) (hln : tlen F = nI ln) (hl2 : ln ≤ 401) (hkl : kn ≤ ln) (hed : F 103 23 = nI ed) (hed2 : ed ≤ 500) (hms : F 103 0 = nI ms) (hms2 : ms ≤ 7) (hms1 : 1 ≤ ms) (hlw : ∀ b, b < 4 → G 115 b = nI (lw b)) (hhi : ∀ b, b < 4 → G 116 b = nI (hi b)) (hlh : ∀ b, b < 4 → lw b ≤ hi b) (hh : ∀ b, b < 4 → hi b ≤ 402) (hfl : ∀ b, b < 4 → G 124 (2 * b) = nI (fl b)) (hf6 : ∀ b, b < 4 → fl b ≤ 6) (hcap : ∀ b, b < 4 → tcan kn ln ed (lw b) (hi b) (lu F G b kn ln) → lu F G b kn ln + lm F G b kn ln ed ms ≤ 401 ∧ 0 < lm F G b kn ln ed ms ∧ hi b + lm F G b kn ln ed ms ≤ 402) (k : Q (some (.inl (nI (tsr (tsb F G kn ln ed lw hi))))) (hb (sL L) (tsF F G kn ln ed ms hi fl (tsb F G kn ln ed lw hi)).1 (tsF F G kn ln ed ms hi fl (tsb F G kn ln ed lw hi)).2 R sO)) : pz pP mSBModel_sends [.inr (some 103)] (hb (sL L) F G R sO) Q := by
  show pw pP mSBModel_sends (0, [some (.inr (some (103))), none, none, none, none, none, none], [], 0, 0, hb (sL L) F G R sO) _
  refine pw_iconst (v := nI (3)) rfl (by decide) ?_
  refine pw_istore_n (ls1 := [some (.inr (some (103))), some (.inl (nI (3))), none, none, none, none, none]) rfl (Nat.le_of_ble_eq_true rfl) rfl ?_
  refine pw_iconst (v := nI (0)) rfl (by decide) ?_
  refine pw_istore_n (ls1 := [some (.inr (some (103))), some (.inl (nI (3))), some (.inl (nI (0))), none, none, none, none]) rfl (Nat.le_of_ble_eq_true rfl) rfl ?_
  refine t_sends_1 4 0 (nI 3) rfl ?_
  refine pw_iconst (v := nI (0)) rfl (by decide) ?_
  refine pw_istore_n (ls1 := [some (.inr (some (103))), some (.inl (twant G 4 0 (nI 3))), some (.inl (nI (0))), none, none, none, none]) rfl (Nat.le_of_ble_eq_true rfl) rfl ?_
  refine pw_iconst (v := nI (0)) rfl (by decide) ?_
  refine pw_istore_n (ls1 := [some (.inr (some (103))), some (.inl (twant G 4 0 (nI 3))), some (.inl (nI (0))), some (.inl (nI (0))), none, none, none]) rfl (Nat.le_of_ble_eq_true rfl) rfl ?_
  exact t_sends_2 hkn hln hl2 hkl hed hed2 hms hms2 hms1 hlw hhi hlh hh hfl hf6 hcap 4 0 (nI 0) _ _ _ rfl k
end
section
/-! THE REFERENCE, twelfth part: word. Rows laid by a program (wip/whole/gen/twin10.py). -/
def hi16 (x : Int32) : Nat := x.toBitVec.toNat / 65536
def lo16 (x : Int32) : Nat := x.toBitVec.toNat % 65536
theorem hi16_lt (x : Int32) : hi16 x < 65536 := by
  have h := x.toBitVec.isLt
  unfold hi16
  omega
theorem lo16_lt (x : Int32) : lo16 x < 65536 := by
  unfold lo16
  omega
theorem ush16 (x : Int32) : (x.toUInt32 >>> ((nI 16).toUInt32 &&& Int32.toUInt32 31)).toInt32 = nI (hi16 x) := by
  have h := pk_ushr x (nI 16) 16 (by decide)
  have h2 : (nI (hi16 x)).toBitVec.toNat = hi16 x := pk_tn (by have := hi16_lt x; omega)
  apply Int32.toBitVec_inj.mp
  apply BitVec.eq_of_toNat_eq
  rw [h, h2]
  rfl
theorem and16 (x : Int32) : x &&& nI 65535 = nI (lo16 x) := pk_and x 16 (by decide)
/-- the values of n units from j on are added -/
def csum (tx : Nat → Nat) (ct t : Nat) : Nat → Nat → Nat → Nat
  | 0, _, s => s
  | n + 1, j, s => csum tx ct t n (j + 1) (s + (if t + j = ct then 256 else tx (t + j)))
def fold1 (s : Nat) : Nat := s % 65536 + s / 65536
def fold2 (s : Nat) : Nat := if 65535 < s then (if 65535 < fold1 s then fold1 (fold1 s) else fold1 s) else s
theorem t_fold0 {L ax s : Nat} {tp : Int32} {F G : FN} {R : RN} {o4 o5 : Option PV} {Q : Option PV → PH → Prop} (hs : s ≤ 65535) (k : Q (some (.inl (nI (65535 - s)))) (hb (sL L) F G R sO)) : pw pP mSBModel_check (118, [some (.inr (some (103))), some (.inl (tp)), some (.inl (nI (ax))), some (.inl (nI (s))), o4, o5], [], 0, 0, hb (sL L) F G R sO) Q := by
  refine pw_iload_n rfl rfl ?_
  refine pw_ldc (v := nI 65535) rfl rfl ?_
  refine pw_if2p (cn_le (by omega) (by omega)) rfl (t := 137) rfl (fun _ => ?_) (fun q => absurd hs q)
  refine pw_ldc (v := nI 65535) rfl rfl ?_
  refine pw_iload_n rfl rfl ?_
  refine pw_isub (z := nI (65535 - s)) rfl (pk_sub (by omega)) ?_
  exact pw_iret rfl rfl (Nat.zero_le _) (Nat.zero_le _) rfl k
theorem t_fold1 {L ax s : Nat} {tp : Int32} {F G : FN} {R : RN} {o4 o5 : Option PV} {Q : Option PV → PH → Prop} (hs : ¬ s ≤ 65535) (hs2 : s < 524288) (k : pw pP mSBModel_check (118, [some (.inr (some (103))), some (.inl (tp)), some (.inl (nI (ax))), some (.inl (nI (fold1 s))), o4, o5], [], 0, 0, hb (sL L) F G R sO) Q) : pw pP mSBModel_check (118, [some (.inr (some (103))), some (.inl (tp)), some (.inl (nI (ax))), some (.inl (nI (s))), o4, o5], [], 0, 0, hb (sL L) F G R sO) Q := by
  refine pw_iload_n rfl rfl ?_
  refine pw_ldc (v := nI 65535) rfl rfl ?_
  refine pw_if2p (cn_le (by omega) (by omega)) rfl (t := 137) rfl (fun q => absurd q hs) (fun _ => ?_)
  refine pw_iload_n rfl rfl ?_
  refine pw_ldc (v := nI 65536) rfl rfl ?_
  refine pw_irem (z := nI (s % 65536)) rfl (nI_ne0 (by omega) (by omega)) (pk_rem (by omega) (by omega) (by omega)) ?_
  refine pw_iload_n rfl rfl ?_
  refine pw_ldc (v := nI 65536) rfl rfl ?_
  refine pw_idiv (z := nI (s / 65536)) rfl (nI_ne0 (by omega) (by omega)) (pk_div (by omega) (by omega) (by omega)) ?_
  refine pw_iadd (z := nI (s % 65536 + (s / 65536))) rfl (nI_add _ _) ?_
  refine pw_istore_n (ls1 := [some (.inr (some (103))), some (.inl (tp)), some (.inl (nI (ax))), some (.inl (nI (s % 65536 + (s / 65536)))), o4, o5]) rfl (Nat.le_of_ble_eq_true rfl) rfl ?_
  refine pw_goto (t := 118) rfl rfl ?_
  exact k
theorem t_fold2 {L ax s : Nat} {tp : Int32} {F G : FN} {R : RN} {o4 o5 : Option PV} {Q : Option PV → PH → Prop} (hs2 : s < 524288) (k : Q (some (.inl (nI (65535 - fold2 s)))) (hb (sL L) F G R sO)) : pw pP mSBModel_check (118, [some (.inr (some (103))), some (.inl (tp)), some (.inl (nI (ax))), some (.inl (nI (s))), o4, o5], [], 0, 0, hb (sL L) F G R sO) Q := by
  by_cases h1 : s ≤ 65535
  · rw [show fold2 s = s from if_neg (by omega)] at k
    exact t_fold0 h1 k
  · refine t_fold1 h1 hs2 ?_
    have e : fold1 s = s % 65536 + s / 65536 := rfl
    by_cases h2 : fold1 s ≤ 65535
    · rw [show fold2 s = fold1 s by simp only [fold2]; rw [if_pos (by omega), if_neg (by omega)]] at k
      exact t_fold0 h2 k
    · refine t_fold1 h2 (by omega) ?_
      rw [show fold2 s = fold1 (fold1 s) by simp only [fold2]; rw [if_pos (by omega), if_pos (by omega)]] at k
      have e2 : fold1 (fold1 s) = fold1 s % 65536 + fold1 s / 65536 := rfl
      exact t_fold0 (by omega) k
theorem t_check_lp {L ax m t ct : Nat} {tp : Int32} {tx : Nat → Nat} {F G : FN} {R : RN} {Q : Option PV → PH → Prop} (hax : ax < 48) (hm : G 129 ax = nI m) (hm7 : m ≤ 7) (ht : G 127 ax = nI t) (hct : F 103 5 = nI ct) (hc4 : ct ≤ 400) (htm : t + m ≤ ct + 1) (htx : ∀ u, u < 400 → G 104 u = nI (tx u)) (ht2 : ∀ u, u < 400 → tx u ≤ 255) : ∀ (n j s : Nat) (o5 : Option PV), j + n = m → s ≤ 454662 + 256 * j → (∀ o5, pw pP mSBModel_check (118, [some (.inr (some (103))), some (.inl (tp)), some (.inl (nI (ax))), some (.inl (nI (csum tx ct t n j s))), some (.inl (nI (m))), o5], [], 0, 0, hb (sL L) F G R sO) Q) → pw pP mSBModel_check (65, [some (.inr (some (103))), some (.inl (tp)), some (.inl (nI (ax))), some (.inl (nI (s))), some (.inl (nI (j))), o5], [], 0, 0, hb (sL L) F G R sO) Q := by
  intro n
  induction n with
  | zero =>
    intro j s o5 hn hs k
    have e : m = j := by omega
    subst e
    refine pw_iload rfl rfl ?_
    refine pw_aload_n rfl rfl ?_
    refine px_getr (r := some (129)) rfl rfl rfl rfl rfl ?_
    refine pw_iload_n rfl rfl ?_
    refine px_ialdn (x := nI (m)) rfl rfl (by omega) (by decide) (hm) ?_
    refine pw_if2p (cn_ge (by omega) (by omega)) rfl (t := 118) rfl (fun c1 => ?_) (fun c1 => ?_)
    · -- 118
      exact k _
    · -- 76
      exact absurd c1 (by omega)
  | succ n ih =>
    intro j s o5 hn hs k
    refine pw_iload rfl rfl ?_
    refine pw_aload_n rfl rfl ?_
    refine px_getr (r := some (129)) rfl rfl rfl rfl rfl ?_
    refine pw_iload_n rfl rfl ?_
    refine px_ialdn (x := nI (m)) rfl rfl (by omega) (by decide) (hm) ?_
    refine pw_if2p (cn_ge (by omega) (by omega)) rfl (t := 118) rfl (fun c1 => ?_) (fun c1 => ?_)
    · -- 118
      exact absurd c1 (by omega)
    · -- 76
      refine pw_aload_n rfl rfl ?_
      refine px_getr (r := some (127)) rfl rfl rfl rfl rfl ?_
      refine pw_iload_n rfl rfl ?_
      refine px_ialdn (x := nI (t)) rfl rfl (by omega) (by decide) (ht) ?_
      refine pw_iload rfl rfl ?_
      refine pw_iadd (z := nI (t + j)) rfl (nI_add _ _) ?_
      refine pw_istore (ls1 := [some (.inr (some (103))), some (.inl (tp)), some (.inl (nI (ax))), some (.inl (nI (s))), some (.inl (nI (j))), some (.inl (nI (t + j)))]) rfl (Nat.le_of_ble_eq_true rfl) rfl ?_
      refine pw_iload_n rfl rfl ?_
      refine pw_iload rfl rfl ?_
      refine pw_aload_n rfl rfl ?_
      refine px_getv (x := nI (ct)) rfl rfl rfl rfl (hct) ?_
      refine pw_if2p (cn_ne (by omega) (by omega)) rfl (t := 103) rfl (fun c2 => ?_) (fun c2 => ?_)
      · -- 103
        refine pw_aload_n rfl rfl ?_
        refine px_getr (r := some (104)) rfl rfl rfl rfl rfl ?_
        refine pw_iload rfl rfl ?_
        refine px_ialdn (x := nI (tx (t + j))) rfl rfl (by omega) (by decide) (htx (t + j) (by omega)) ?_
        refine pw_iadd (z := nI (s + (tx (t + j)))) rfl (nI_add _ _) ?_
        refine pw_istore_n (ls1 := [some (.inr (some (103))), some (.inl (tp)), some (.inl (nI (ax))), some (.inl (nI (s + (tx (t + j))))), some (.inl (nI (j))), some (.inl (nI (t + j)))]) rfl (Nat.le_of_ble_eq_true rfl) rfl ?_
        refine pw_iinc (v := nI (j + 1)) (ls1 := [some (.inr (some (103))), some (.inl (tp)), some (.inl (nI (ax))), some (.inl (nI (s + (tx (t + j))))), some (.inl (nI (j + 1))), some (.inl (nI (t + j)))]) rfl rfl (iinc_n _) rfl ?_
        refine pw_goto (t := 65) rfl rfl ?_
        have h2 := ht2 (t + j) (by omega)
        exact ih (j + 1) _ _ (by omega) (by omega) (fun o => by have k := k o; simp only [csum, eq_false c2, if_true, if_false] at k; exact k)
      · -- 97
        refine pw_sipush (v := nI (256)) rfl (by decide) ?_
        refine pw_goto (t := 110) rfl rfl ?_
        refine pw_iadd (z := nI (s + 256)) rfl (nI_add _ _) ?_
        refine pw_istore_n (ls1 := [some (.inr (some (103))), some (.inl (tp)), some (.inl (nI (ax))), some (.inl (nI (s + 256))), some (.inl (nI (j))), some (.inl (nI (t + j)))]) rfl (Nat.le_of_ble_eq_true rfl) rfl ?_
        refine pw_iinc (v := nI (j + 1)) (ls1 := [some (.inr (some (103))), some (.inl (tp)), some (.inl (nI (ax))), some (.inl (nI (s + 256))), some (.inl (nI (j + 1))), some (.inl (nI (t + j)))]) rfl rfl (iinc_n _) rfl ?_
        refine pw_goto (t := 65) rfl rfl ?_
        exact ih (j + 1) _ _ (by omega) (by omega) (fun o => by have k := k o; simp only [csum, eq_true (Decidable.of_not_not c2), if_true, if_false] at k; exact k)
def tsum (G : FN) (tp ax : Nat) : Nat := tp + hi16 (G 126 ax) + lo16 (G 126 ax) + hi16 (G 127 ax) + lo16 (G 127 ax) + hi16 (G 128 ax) + lo16 (G 128 ax)
def tchk (G : FN) (tp ax m t ct : Nat) (tx : Nat → Nat) : Nat := 65535 - fold2 (csum tx ct t m 0 (tsum G tp ax))
theorem csum_le {tx : Nat → Nat} {ct t : Nat} (ht2 : ∀ u, u < 400 → tx u ≤ 255) : ∀ (n j s : Nat), t + j + n ≤ ct + 1 → ct ≤ 400 → csum tx ct t n j s ≤ s + 256 * n
  | 0, _, _, _, _ => by simp only [csum]; omega
  | n + 1, j, s, h, hc => by
    have h1 := csum_le (ct := ct) (t := t) ht2 n (j + 1) (s + (if t + j = ct then 256 else tx (t + j))) (by omega) hc
    simp only [csum]
    have h2 : (if t + j = ct then 256 else tx (t + j)) ≤ 256 := by
      split
      · omega
      · have := ht2 (t + j) (by omega)
        omega
    omega
theorem t_check {L tp ax m t ct : Nat} {tx : Nat → Nat} {F G : FN} {R : RN} {Q : Option PV → PH → Prop} (htp : tp ≤ 61452) (hax : ax < 48) (hm : G 129 ax = nI m) (hm7 : m ≤ 7) (hmt : 0 < m → G 127 ax = nI t) (hct : F 103 5 = nI ct) (hc4 : ct ≤ 400) (htm : 0 < m → t + m ≤ ct + 1) (htx : ∀ u, u < 400 → G 104 u = nI (tx u)) (ht2 : ∀ u, u < 400 → tx u ≤ 255) (k : Q (some (.inl (nI (tchk G tp ax m t ct tx)))) (hb (sL L) F G R sO)) : pz pP mSBModel_check [.inr (some 103), .inl (nI tp), .inl (nI ax)] (hb (sL L) F G R sO) Q := by
  have a1 := hi16_lt (G 126 ax)
  have a2 := lo16_lt (G 126 ax)
  have a3 := hi16_lt (G 127 ax)
  have a4 := lo16_lt (G 127 ax)
  have a5 := hi16_lt (G 128 ax)
  have a6 := lo16_lt (G 128 ax)
  show pw pP mSBModel_check (0, [some (.inr (some (103))), some (.inl (nI (tp))), some (.inl (nI (ax))), none, none, none], [], 0, 0, hb (sL L) F G R sO) _
  refine pw_iload_n rfl rfl ?_
  refine pw_aload_n rfl rfl ?_
  refine px_getr (r := some (126)) rfl rfl rfl rfl rfl ?_
  refine pw_iload_n rfl rfl ?_
  refine px_ialdn (x := G (126) (ax)) rfl rfl (by omega) (by decide) (rfl) ?_
  refine pw_bipush (v := nI (16)) rfl (by decide) ?_
  refine pw_iushr (z := nI (hi16 (G (126) (ax)))) rfl (ush16 _) ?_
  refine pw_iadd (z := nI (tp + (hi16 (G (126) (ax))))) rfl (nI_add _ _) ?_
  refine pw_aload_n rfl rfl ?_
  refine px_getr (r := some (126)) rfl rfl rfl rfl rfl ?_
  refine pw_iload_n rfl rfl ?_
  refine px_ialdn (x := G (126) (ax)) rfl rfl (by omega) (by decide) (rfl) ?_
  refine pw_ldc (v := nI 65535) rfl rfl ?_
  refine pw_iand (z := nI (lo16 (G (126) (ax)))) rfl (and16 _) ?_
  refine pw_iadd (z := nI (tp + (hi16 (G (126) (ax))) + (lo16 (G (126) (ax))))) rfl (nI_add _ _) ?_
  refine pw_aload_n rfl rfl ?_
  refine px_getr (r := some (127)) rfl rfl rfl rfl rfl ?_
  refine pw_iload_n rfl rfl ?_
  refine px_ialdn (x := G (127) (ax)) rfl rfl (by omega) (by decide) (rfl) ?_
  refine pw_bipush (v := nI (16)) rfl (by decide) ?_
  refine pw_iushr (z := nI (hi16 (G (127) (ax)))) rfl (ush16 _) ?_
  refine pw_iadd (z := nI (tp + (hi16 (G (126) (ax))) + (lo16 (G (126) (ax))) + (hi16 (G (127) (ax))))) rfl (nI_add _ _) ?_
  refine pw_aload_n rfl rfl ?_
  refine px_getr (r := some (127)) rfl rfl rfl rfl rfl ?_
  refine pw_iload_n rfl rfl ?_
  refine px_ialdn (x := G (127) (ax)) rfl rfl (by omega) (by decide) (rfl) ?_
  refine pw_ldc (v := nI 65535) rfl rfl ?_
  refine pw_iand (z := nI (lo16 (G (127) (ax)))) rfl (and16 _) ?_
  refine pw_iadd (z := nI (tp + (hi16 (G (126) (ax))) + (lo16 (G (126) (ax))) + (hi16 (G (127) (ax))) + (lo16 (G (127) (ax))))) rfl (nI_add _ _) ?_
  refine pw_aload_n rfl rfl ?_
  refine px_getr (r := some (128)) rfl rfl rfl rfl rfl ?_
  refine pw_iload_n rfl rfl ?_
  refine px_ialdn (x := G (128) (ax)) rfl rfl (by omega) (by decide) (rfl) ?_
  refine pw_bipush (v := nI (16)) rfl (by decide) ?_
  refine pw_iushr (z := nI (hi16 (G (128) (ax)))) rfl (ush16 _) ?_
  refine pw_iadd (z := nI (tp + (hi16 (G (126) (ax))) + (lo16 (G (126) (ax))) + (hi16 (G (127) (ax))) + (lo16 (G (127) (ax))) + (hi16 (G (128) (ax))))) rfl (nI_add _ _) ?_
  refine pw_aload_n rfl rfl ?_
  refine px_getr (r := some (128)) rfl rfl rfl rfl rfl ?_
  refine pw_iload_n rfl rfl ?_
  refine px_ialdn (x := G (128) (ax)) rfl rfl (by omega) (by decide) (rfl) ?_
  refine pw_ldc (v := nI 65535) rfl rfl ?_
  refine pw_iand (z := nI (lo16 (G (128) (ax)))) rfl (and16 _) ?_
  refine pw_iadd (z := nI (tp + (hi16 (G (126) (ax))) + (lo16 (G (126) (ax))) + (hi16 (G (127) (ax))) + (lo16 (G (127) (ax))) + (hi16 (G (128) (ax))) + (lo16 (G (128) (ax))))) rfl (nI_add _ _) ?_
  refine pw_istore_n (ls1 := [some (.inr (some (103))), some (.inl (nI (tp))), some (.inl (nI (ax))), some (.inl (nI (tp + (hi16 (G (126) (ax))) + (lo16 (G (126) (ax))) + (hi16 (G (127) (ax))) + (lo16 (G (127) (ax))) + (hi16 (G (128) (ax))) + (lo16 (G (128) (ax)))))), none, none]) rfl (Nat.le_of_ble_eq_true rfl) rfl ?_
  refine pw_iconst (v := nI (0)) rfl (by decide) ?_
  refine pw_istore (ls1 := [some (.inr (some (103))), some (.inl (nI (tp))), some (.inl (nI (ax))), some (.inl (nI (tp + (hi16 (G (126) (ax))) + (lo16 (G (126) (ax))) + (hi16 (G (127) (ax))) + (lo16 (G (127) (ax))) + (hi16 (G (128) (ax))) + (lo16 (G (128) (ax)))))), some (.inl (nI (0))), none]) rfl (Nat.le_of_ble_eq_true rfl) rfl ?_
  by_cases h0 : m = 0
  · subst h0
    refine pw_iload rfl rfl ?_
    refine pw_aload_n rfl rfl ?_
    refine px_getr (r := some (129)) rfl rfl rfl rfl rfl ?_
    refine pw_iload_n rfl rfl ?_
    refine px_ialdn (x := nI (0)) rfl rfl (by omega) (by decide) (hm) ?_
    refine pw_if2 (t := 118) rfl rfl (fun _ => ?_) (fun q => absurd q (by decide))
    exact t_fold2 (s := tsum G tp ax) (by simp only [tsum]; omega) k
  · have ht := hmt (by omega)
    have hc := csum_le (t := t) (ct := ct) ht2 m 0 (tsum G tp ax) (by have := htm (by omega); omega) hc4
    have e6 : tsum G tp ax = tp + hi16 (G 126 ax) + lo16 (G 126 ax) + hi16 (G 127 ax) + lo16 (G 127 ax) + hi16 (G 128 ax) + lo16 (G 128 ax) := rfl
    exact t_check_lp hax hm hm7 ht hct hc4 (htm (by omega)) htx ht2 m 0 (tsum G tp ax) _ (by omega) (by omega) (fun o => t_fold2 (by omega) k)
/-- SBModel_word -/
def word_in0_r (G : FN) (p kk kd m t ct : Nat) (tx : Nat → Nat) (z : Int32) : Int32 := (if ¬ z = 0 then (if ¬ z = nI (1) then (if ¬ z = nI (2) then (if ¬ z = nI (3) then nI (0) else G (128) (6 * (2 * p) + kk)) else G (127) (6 * (2 * p) + kk)) else G (126) (6 * (2 * p) + kk)) else ((nI (kd * 16384 + (p * 4096) + m)) <<< ((nI (16)) &&& 31)) ||| (nI (tchk G (kd * 16384 + (p * 4096) + m) (6 * (2 * p) + kk) m t ct tx)))
theorem t_word_in0 {L p kk fl kd m t ct : Nat} {tx : Nat → Nat} {z : Int32} {F G : FN} {R : RN} (hp : p < 4) (hfl : G 124 (2 * p) = nI fl) (hf : fl ≤ 6) (hk : kk < fl) (hkd : G 125 (6 * (2 * p) + kk) = nI kd) (hk3 : kd ≤ 3) (hm : G 129 (6 * (2 * p) + kk) = nI m) (hm7 : m ≤ 7) (hmt : 0 < m → G 127 (6 * (2 * p) + kk) = nI t) (hct : F 103 5 = nI ct) (hc4 : ct ≤ 400) (htm : 0 < m → t + m ≤ ct + 1) (htx : ∀ u, u < 400 → G 104 u = nI (tx u)) (ht2 : ∀ u, u < 400 → tx u ≤ 255) {Q : Option PV → PH → Prop} (k : Q (some (.inl (word_in0_r G p kk kd m t ct tx z))) (hb (sL L) F G R sO)) : pz pP mSBModel_word [.inr (some (103)), .inl (nI (p)), .inl (nI (0)), .inl (nI (kk)), .inl (z)] (hb (sL L) F G R sO) Q := by
  show pw pP mSBModel_word (0, [some (.inr (some (103))), some (.inl (nI (p))), some (.inl (nI (0))), some (.inl (nI (kk))), some (.inl (z)), none, none], [], 0, 0, hb (sL L) F G R sO) _
  refine pw_aload_n rfl rfl ?_
  refine pw_iload_n rfl rfl ?_
  refine pw_iload_n rfl rfl ?_
  refine pw_iload_n rfl rfl ?_
  refine px_callv (as := [.inr (some (103)), .inl (nI (p)), .inl (nI (0)), .inl (nI (kk))]) (rest := []) rfl rfl (by decide) rfl (Nat.le_of_ble_eq_true rfl) (Nat.le_of_ble_eq_true rfl) (Nat.le_of_ble_eq_true rfl) (Nat.le_of_ble_eq_true rfl) rfl rfl rfl rfl ?_
  refine t_there_in0 hp hfl hf hk ?_
  show pw pP mSBModel_word (7, [some (.inr (some (103))), some (.inl (nI (p))), some (.inl (nI (0))), some (.inl (nI (kk))), some (.inl (z)), none, none], [.inl (nI (1))], 0, 0, hb (sL L) F G R sO) _
  refine pw_if1 (t := 12) rfl rfl (fun _ => ?_) (fun q => absurd q (by decide))
  refine pw_bipush (v := nI (6)) rfl (by decide) ?_
  refine pw_iload_n rfl rfl ?_
  refine pw_if1 (t := 26) rfl rfl (fun _ => ?_) (fun q => absurd q (by decide))
  refine pw_iconst (v := nI (2)) rfl (by decide) ?_
  refine pw_iload_n rfl rfl ?_
  refine pw_imul (z := nI (2 * p)) rfl (pk_mul _ _) ?_
  refine pw_imul (z := nI (6 * (2 * p))) rfl (pk_mul _ _) ?_
  refine pw_iload_n rfl rfl ?_
  refine pw_iadd (z := nI (6 * (2 * p) + kk)) rfl (nI_add _ _) ?_
  refine pw_istore (ls1 := [some (.inr (some (103))), some (.inl (nI (p))), some (.inl (nI (0))), some (.inl (nI (kk))), some (.inl (z)), some (.inl (nI (6 * (2 * p) + kk))), none]) rfl (Nat.le_of_ble_eq_true rfl) rfl ?_
  refine pw_iload rfl rfl ?_
  refine pw_if1p (A := ¬ z = 0) rfl rfl (t := 81) rfl (fun c1 => ?_) (fun c1 => ?_)
  · -- 81
    refine pw_iload rfl rfl ?_
    refine pw_iconst (v := nI (1)) rfl (by decide) ?_
    refine pw_if2p (A := ¬ z = nI (1)) rfl rfl (t := 97) rfl (fun c2 => ?_) (fun c2 => ?_)
    · -- 97
      refine pw_iload rfl rfl ?_
      refine pw_iconst (v := nI (2)) rfl (by decide) ?_
      refine pw_if2p (A := ¬ z = nI (2)) rfl rfl (t := 113) rfl (fun c3 => ?_) (fun c3 => ?_)
      · -- 113
        refine pw_iload rfl rfl ?_
        refine pw_iconst (v := nI (3)) rfl (by decide) ?_
        refine pw_if2p (A := ¬ z = nI (3)) rfl rfl (t := 129) rfl (fun c4 => ?_) (fun c4 => ?_)
        · -- 129
          refine pw_iconst (v := nI (0)) rfl (by decide) ?_
          exact pw_iret rfl rfl (Nat.zero_le _) (Nat.zero_le _) rfl (by simp only [word_in0_r, c1, c2, c3, c4, if_true, if_false] at k; exact k)
        · -- 119
          refine pw_aload_n rfl rfl ?_
          refine px_getr (r := some (128)) rfl rfl rfl rfl rfl ?_
          refine pw_iload rfl rfl ?_
          refine px_ialdn (x := G (128) (6 * (2 * p) + kk)) rfl rfl (by omega) (by decide) (rfl) ?_
          refine pw_goto (t := 130) rfl rfl ?_
          exact pw_iret rfl rfl (Nat.zero_le _) (Nat.zero_le _) rfl (by simp only [word_in0_r, c1, c2, c3, c4, if_true, if_false] at k; exact k)
      · -- 103
        refine pw_aload_n rfl rfl ?_
        refine px_getr (r := some (127)) rfl rfl rfl rfl rfl ?_
        refine pw_iload rfl rfl ?_
        refine px_ialdn (x := G (127) (6 * (2 * p) + kk)) rfl rfl (by omega) (by decide) (rfl) ?_
        refine pw_goto (t := 130) rfl rfl ?_
        exact pw_iret rfl rfl (Nat.zero_le _) (Nat.zero_le _) rfl (by simp only [word_in0_r, c1, c2, c3, if_true, if_false] at k; exact k)
    · -- 87
      refine pw_aload_n rfl rfl ?_
      refine px_getr (r := some (126)) rfl rfl rfl rfl rfl ?_
      refine pw_iload rfl rfl ?_
      refine px_ialdn (x := G (126) (6 * (2 * p) + kk)) rfl rfl (by omega) (by decide) (rfl) ?_
      refine pw_goto (t := 130) rfl rfl ?_
      exact pw_iret rfl rfl (Nat.zero_le _) (Nat.zero_le _) rfl (by simp only [word_in0_r, c1, c2, if_true, if_false] at k; exact k)
  · -- 39
    refine pw_aload_n rfl rfl ?_
    refine px_getr (r := some (125)) rfl rfl rfl rfl rfl ?_
    refine pw_iload rfl rfl ?_
    refine px_ialdn (x := nI (kd)) rfl rfl (by omega) (by decide) (hkd) ?_
    refine pw_sipush (v := nI (16384)) rfl (by decide) ?_
    refine pw_imul (z := nI (kd * 16384)) rfl (pk_mul _ _) ?_
    refine pw_iload_n rfl rfl ?_
    refine pw_sipush (v := nI (4096)) rfl (by decide) ?_
    refine pw_imul (z := nI (p * 4096)) rfl (pk_mul _ _) ?_
    refine pw_iadd (z := nI (kd * 16384 + (p * 4096))) rfl (nI_add _ _) ?_
    refine pw_aload_n rfl rfl ?_
    refine px_getr (r := some (129)) rfl rfl rfl rfl rfl ?_
    refine pw_iload rfl rfl ?_
    refine px_ialdn (x := nI (m)) rfl rfl (by omega) (by decide) (hm) ?_
    refine pw_iadd (z := nI (kd * 16384 + (p * 4096) + m)) rfl (nI_add _ _) ?_
    refine pw_istore (ls1 := [some (.inr (some (103))), some (.inl (nI (p))), some (.inl (nI (0))), some (.inl (nI (kk))), some (.inl (z)), some (.inl (nI (6 * (2 * p) + kk))), some (.inl (nI (kd * 16384 + (p * 4096) + m)))]) rfl (Nat.le_of_ble_eq_true rfl) rfl ?_
    refine pw_iload rfl rfl ?_
    refine pw_bipush (v := nI (16)) rfl (by decide) ?_
    refine pw_ishl (z := (nI (kd * 16384 + (p * 4096) + m)) <<< ((nI (16)) &&& 31)) rfl rfl ?_
    refine pw_aload_n rfl rfl ?_
    refine pw_iload rfl rfl ?_
    refine pw_iload rfl rfl ?_
    refine px_callv (as := [.inr (some (103)), .inl (nI (kd * 16384 + (p * 4096) + m)), .inl (nI (6 * (2 * p) + kk))]) (rest := [.inl ((nI (kd * 16384 + (p * 4096) + m)) <<< ((nI (16)) &&& 31))]) rfl rfl (by decide) rfl (Nat.le_of_ble_eq_true rfl) (Nat.le_of_ble_eq_true rfl) (Nat.le_of_ble_eq_true rfl) (Nat.le_of_ble_eq_true rfl) rfl rfl rfl rfl ?_
    refine t_check (by omega) (by omega) hm hm7 hmt hct hc4 htm htx ht2 ?_
    show pw pP mSBModel_word (79, [some (.inr (some (103))), some (.inl (nI (p))), some (.inl (nI (0))), some (.inl (nI (kk))), some (.inl (z)), some (.inl (nI (6 * (2 * p) + kk))), some (.inl (nI (kd * 16384 + (p * 4096) + m)))], [.inl (nI (tchk G (kd * 16384 + (p * 4096) + m) (6 * (2 * p) + kk) m t ct tx)), .inl ((nI (kd * 16384 + (p * 4096) + m)) <<< ((nI (16)) &&& 31))], 0, 0, hb (sL L) F G R sO) _
    refine pw_ior (z := ((nI (kd * 16384 + (p * 4096) + m)) <<< ((nI (16)) &&& 31)) ||| (nI (tchk G (kd * 16384 + (p * 4096) + m) (6 * (2 * p) + kk) m t ct tx))) rfl rfl ?_
    exact pw_iret rfl rfl (Nat.zero_le _) (Nat.zero_le _) rfl (by simp only [word_in0_r, c1, if_true, if_false] at k; exact k)
/-- SBModel_word -/
def word_out0_r  : Int32 := nI (0)
theorem t_word_out0 {L p fl : Nat} {x z : Int32} {F G : FN} {R : RN} (hp : p < 4) (hfl : G 124 (2 * p) = nI fl) (hk : x < 0 ∨ nI fl ≤ x) {Q : Option PV → PH → Prop} (k : Q (some (.inl (word_out0_r ))) (hb (sL L) F G R sO)) : pz pP mSBModel_word [.inr (some (103)), .inl (nI (p)), .inl (nI (0)), .inl (x), .inl (z)] (hb (sL L) F G R sO) Q := by
  show pw pP mSBModel_word (0, [some (.inr (some (103))), some (.inl (nI (p))), some (.inl (nI (0))), some (.inl (x)), some (.inl (z)), none, none], [], 0, 0, hb (sL L) F G R sO) _
  refine pw_aload_n rfl rfl ?_
  refine pw_iload_n rfl rfl ?_
  refine pw_iload_n rfl rfl ?_
  refine pw_iload_n rfl rfl ?_
  refine px_callv (as := [.inr (some (103)), .inl (nI (p)), .inl (nI (0)), .inl (x)]) (rest := []) rfl rfl (by decide) rfl (Nat.le_of_ble_eq_true rfl) (Nat.le_of_ble_eq_true rfl) (Nat.le_of_ble_eq_true rfl) (Nat.le_of_ble_eq_true rfl) rfl rfl rfl rfl ?_
  refine t_there_out0 hp hfl hk ?_
  show pw pP mSBModel_word (7, [some (.inr (some (103))), some (.inl (nI (p))), some (.inl (nI (0))), some (.inl (x)), some (.inl (z)), none, none], [.inl (nI (0))], 0, 0, hb (sL L) F G R sO) _
  refine pw_if1 (t := 12) rfl rfl (fun q => absurd q (by decide)) (fun _ => ?_)
  refine pw_iconst (v := nI (0)) rfl (by decide) ?_
  exact pw_iret rfl rfl (Nat.zero_le _) (Nat.zero_le _) rfl k
/-- SBModel_word -/
def word_no0_r  : Int32 := nI (0)
theorem t_word_no0 {L : Nat} {p x z : Int32} {F G : FN} {R : RN} (hp : p < 0 ∨ nI 4 ≤ p) {Q : Option PV → PH → Prop} (k : Q (some (.inl (word_no0_r ))) (hb (sL L) F G R sO)) : pz pP mSBModel_word [.inr (some (103)), .inl (p), .inl (nI (0)), .inl (x), .inl (z)] (hb (sL L) F G R sO) Q := by
  show pw pP mSBModel_word (0, [some (.inr (some (103))), some (.inl (p)), some (.inl (nI (0))), some (.inl (x)), some (.inl (z)), none, none], [], 0, 0, hb (sL L) F G R sO) _
  refine pw_aload_n rfl rfl ?_
  refine pw_iload_n rfl rfl ?_
  refine pw_iload_n rfl rfl ?_
  refine pw_iload_n rfl rfl ?_
  refine px_callv (as := [.inr (some (103)), .inl (p), .inl (nI (0)), .inl (x)]) (rest := []) rfl rfl (by decide) rfl (Nat.le_of_ble_eq_true rfl) (Nat.le_of_ble_eq_true rfl) (Nat.le_of_ble_eq_true rfl) (Nat.le_of_ble_eq_true rfl) rfl rfl rfl rfl ?_
  refine t_there_no0 hp ?_
  show pw pP mSBModel_word (7, [some (.inr (some (103))), some (.inl (p)), some (.inl (nI (0))), some (.inl (x)), some (.inl (z)), none, none], [.inl (nI (0))], 0, 0, hb (sL L) F G R sO) _
  refine pw_if1 (t := 12) rfl rfl (fun q => absurd q (by decide)) (fun _ => ?_)
  refine pw_iconst (v := nI (0)) rfl (by decide) ?_
  exact pw_iret rfl rfl (Nat.zero_le _) (Nat.zero_le _) rfl k
/-- SBModel_word -/
def word_in1_r (G : FN) (p kk kd m t ct : Nat) (tx : Nat → Nat) (z : Int32) : Int32 := (if ¬ z = 0 then (if ¬ z = nI (1) then (if ¬ z = nI (2) then (if ¬ z = nI (3) then nI (0) else G (128) (6 * (2 * p + 1) + kk)) else G (127) (6 * (2 * p + 1) + kk)) else G (126) (6 * (2 * p + 1) + kk)) else ((nI (kd * 16384 + (p * 4096) + m)) <<< ((nI (16)) &&& 31)) ||| (nI (tchk G (kd * 16384 + (p * 4096) + m) (6 * (2 * p + 1) + kk) m t ct tx)))
theorem t_word_in1 {L p kk fl kd m t ct : Nat} {tx : Nat → Nat} {z : Int32} {F G : FN} {R : RN} (hp : p < 4) (hfl : G 124 (2 * p + 1) = nI fl) (hf : fl ≤ 6) (hk : kk < fl) (hkd : G 125 (6 * (2 * p + 1) + kk) = nI kd) (hk3 : kd ≤ 3) (hm : G 129 (6 * (2 * p + 1) + kk) = nI m) (hm7 : m ≤ 7) (hmt : 0 < m → G 127 (6 * (2 * p + 1) + kk) = nI t) (hct : F 103 5 = nI ct) (hc4 : ct ≤ 400) (htm : 0 < m → t + m ≤ ct + 1) (htx : ∀ u, u < 400 → G 104 u = nI (tx u)) (ht2 : ∀ u, u < 400 → tx u ≤ 255) {Q : Option PV → PH → Prop} (k : Q (some (.inl (word_in1_r G p kk kd m t ct tx z))) (hb (sL L) F G R sO)) : pz pP mSBModel_word [.inr (some (103)), .inl (nI (p)), .inl (nI (1)), .inl (nI (kk)), .inl (z)] (hb (sL L) F G R sO) Q := by
  show pw pP mSBModel_word (0, [some (.inr (some (103))), some (.inl (nI (p))), some (.inl (nI (1))), some (.inl (nI (kk))), some (.inl (z)), none, none], [], 0, 0, hb (sL L) F G R sO) _
  refine pw_aload_n rfl rfl ?_
  refine pw_iload_n rfl rfl ?_
  refine pw_iload_n rfl rfl ?_
  refine pw_iload_n rfl rfl ?_
  refine px_callv (as := [.inr (some (103)), .inl (nI (p)), .inl (nI (1)), .inl (nI (kk))]) (rest := []) rfl rfl (by decide) rfl (Nat.le_of_ble_eq_true rfl) (Nat.le_of_ble_eq_true rfl) (Nat.le_of_ble_eq_true rfl) (Nat.le_of_ble_eq_true rfl) rfl rfl rfl rfl ?_
  refine t_there_in1 hp hfl hf hk ?_
  show pw pP mSBModel_word (7, [some (.inr (some (103))), some (.inl (nI (p))), some (.inl (nI (1))), some (.inl (nI (kk))), some (.inl (z)), none, none], [.inl (nI (1))], 0, 0, hb (sL L) F G R sO) _
  refine pw_if1 (t := 12) rfl rfl (fun _ => ?_) (fun q => absurd q (by decide))
  refine pw_bipush (v := nI (6)) rfl (by decide) ?_
  refine pw_iload_n rfl rfl ?_
  refine pw_if1 (t := 26) rfl rfl (fun q => absurd q (by decide)) (fun _ => ?_)
  refine pw_iconst (v := nI (2)) rfl (by decide) ?_
  refine pw_iload_n rfl rfl ?_
  refine pw_imul (z := nI (2 * p)) rfl (pk_mul _ _) ?_
  refine pw_iconst (v := nI (1)) rfl (by decide) ?_
  refine pw_iadd (z := nI (2 * p + 1)) rfl (nI_add _ _) ?_
  refine pw_goto (t := 29) rfl rfl ?_
  refine pw_imul (z := nI (6 * (2 * p + 1))) rfl (pk_mul _ _) ?_
  refine pw_iload_n rfl rfl ?_
  refine pw_iadd (z := nI (6 * (2 * p + 1) + kk)) rfl (nI_add _ _) ?_
  refine pw_istore (ls1 := [some (.inr (some (103))), some (.inl (nI (p))), some (.inl (nI (1))), some (.inl (nI (kk))), some (.inl (z)), some (.inl (nI (6 * (2 * p + 1) + kk))), none]) rfl (Nat.le_of_ble_eq_true rfl) rfl ?_
  refine pw_iload rfl rfl ?_
  refine pw_if1p (A := ¬ z = 0) rfl rfl (t := 81) rfl (fun c1 => ?_) (fun c1 => ?_)
  · -- 81
    refine pw_iload rfl rfl ?_
    refine pw_iconst (v := nI (1)) rfl (by decide) ?_
    refine pw_if2p (A := ¬ z = nI (1)) rfl rfl (t := 97) rfl (fun c2 => ?_) (fun c2 => ?_)
    · -- 97
      refine pw_iload rfl rfl ?_
      refine pw_iconst (v := nI (2)) rfl (by decide) ?_
      refine pw_if2p (A := ¬ z = nI (2)) rfl rfl (t := 113) rfl (fun c3 => ?_) (fun c3 => ?_)
      · -- 113
        refine pw_iload rfl rfl ?_
        refine pw_iconst (v := nI (3)) rfl (by decide) ?_
        refine pw_if2p (A := ¬ z = nI (3)) rfl rfl (t := 129) rfl (fun c4 => ?_) (fun c4 => ?_)
        · -- 129
          refine pw_iconst (v := nI (0)) rfl (by decide) ?_
          exact pw_iret rfl rfl (Nat.zero_le _) (Nat.zero_le _) rfl (by simp only [word_in1_r, c1, c2, c3, c4, if_true, if_false] at k; exact k)
        · -- 119
          refine pw_aload_n rfl rfl ?_
          refine px_getr (r := some (128)) rfl rfl rfl rfl rfl ?_
          refine pw_iload rfl rfl ?_
          refine px_ialdn (x := G (128) (6 * (2 * p + 1) + kk)) rfl rfl (by omega) (by decide) (rfl) ?_
          refine pw_goto (t := 130) rfl rfl ?_
          exact pw_iret rfl rfl (Nat.zero_le _) (Nat.zero_le _) rfl (by simp only [word_in1_r, c1, c2, c3, c4, if_true, if_false] at k; exact k)
      · -- 103
        refine pw_aload_n rfl rfl ?_
        refine px_getr (r := some (127)) rfl rfl rfl rfl rfl ?_
        refine pw_iload rfl rfl ?_
        refine px_ialdn (x := G (127) (6 * (2 * p + 1) + kk)) rfl rfl (by omega) (by decide) (rfl) ?_
        refine pw_goto (t := 130) rfl rfl ?_
        exact pw_iret rfl rfl (Nat.zero_le _) (Nat.zero_le _) rfl (by simp only [word_in1_r, c1, c2, c3, if_true, if_false] at k; exact k)
    · -- 87
      refine pw_aload_n rfl rfl ?_
      refine px_getr (r := some (126)) rfl rfl rfl rfl rfl ?_
      refine pw_iload rfl rfl ?_
      refine px_ialdn (x := G (126) (6 * (2 * p + 1) + kk)) rfl rfl (by omega) (by decide) (rfl) ?_
      refine pw_goto (t := 130) rfl rfl ?_
      exact pw_iret rfl rfl (Nat.zero_le _) (Nat.zero_le _) rfl (by simp only [word_in1_r, c1, c2, if_true, if_false] at k; exact k)
  · -- 39
    refine pw_aload_n rfl rfl ?_
    refine px_getr (r := some (125)) rfl rfl rfl rfl rfl ?_
    refine pw_iload rfl rfl ?_
    refine px_ialdn (x := nI (kd)) rfl rfl (by omega) (by decide) (hkd) ?_
    refine pw_sipush (v := nI (16384)) rfl (by decide) ?_
    refine pw_imul (z := nI (kd * 16384)) rfl (pk_mul _ _) ?_
    refine pw_iload_n rfl rfl ?_
    refine pw_sipush (v := nI (4096)) rfl (by decide) ?_
    refine pw_imul (z := nI (p * 4096)) rfl (pk_mul _ _) ?_
    refine pw_iadd (z := nI (kd * 16384 + (p * 4096))) rfl (nI_add _ _) ?_
    refine pw_aload_n rfl rfl ?_
    refine px_getr (r := some (129)) rfl rfl rfl rfl rfl ?_
    refine pw_iload rfl rfl ?_
    refine px_ialdn (x := nI (m)) rfl rfl (by omega) (by decide) (hm) ?_
    refine pw_iadd (z := nI (kd * 16384 + (p * 4096) + m)) rfl (nI_add _ _) ?_
    refine pw_istore (ls1 := [some (.inr (some (103))), some (.inl (nI (p))), some (.inl (nI (1))), some (.inl (nI (kk))), some (.inl (z)), some (.inl (nI (6 * (2 * p + 1) + kk))), some (.inl (nI (kd * 16384 + (p * 4096) + m)))]) rfl (Nat.le_of_ble_eq_true rfl) rfl ?_
    refine pw_iload rfl rfl ?_
    refine pw_bipush (v := nI (16)) rfl (by decide) ?_
    refine pw_ishl (z := (nI (kd * 16384 + (p * 4096) + m)) <<< ((nI (16)) &&& 31)) rfl rfl ?_
    refine pw_aload_n rfl rfl ?_
    refine pw_iload rfl rfl ?_
    refine pw_iload rfl rfl ?_
    refine px_callv (as := [.inr (some (103)), .inl (nI (kd * 16384 + (p * 4096) + m)), .inl (nI (6 * (2 * p + 1) + kk))]) (rest := [.inl ((nI (kd * 16384 + (p * 4096) + m)) <<< ((nI (16)) &&& 31))]) rfl rfl (by decide) rfl (Nat.le_of_ble_eq_true rfl) (Nat.le_of_ble_eq_true rfl) (Nat.le_of_ble_eq_true rfl) (Nat.le_of_ble_eq_true rfl) rfl rfl rfl rfl ?_
    refine t_check (by omega) (by omega) hm hm7 hmt hct hc4 htm htx ht2 ?_
    show pw pP mSBModel_word (79, [some (.inr (some (103))), some (.inl (nI (p))), some (.inl (nI (1))), some (.inl (nI (kk))), some (.inl (z)), some (.inl (nI (6 * (2 * p + 1) + kk))), some (.inl (nI (kd * 16384 + (p * 4096) + m)))], [.inl (nI (tchk G (kd * 16384 + (p * 4096) + m) (6 * (2 * p + 1) + kk) m t ct tx)), .inl ((nI (kd * 16384 + (p * 4096) + m)) <<< ((nI (16)) &&& 31))], 0, 0, hb (sL L) F G R sO) _
    refine pw_ior (z := ((nI (kd * 16384 + (p * 4096) + m)) <<< ((nI (16)) &&& 31)) ||| (nI (tchk G (kd * 16384 + (p * 4096) + m) (6 * (2 * p + 1) + kk) m t ct tx))) rfl rfl ?_
    exact pw_iret rfl rfl (Nat.zero_le _) (Nat.zero_le _) rfl (by simp only [word_in1_r, c1, if_true, if_false] at k; exact k)
/-- SBModel_word -/
def word_out1_r  : Int32 := nI (0)
theorem t_word_out1 {L p fl : Nat} {x z : Int32} {F G : FN} {R : RN} (hp : p < 4) (hfl : G 124 (2 * p + 1) = nI fl) (hk : x < 0 ∨ nI fl ≤ x) {Q : Option PV → PH → Prop} (k : Q (some (.inl (word_out1_r ))) (hb (sL L) F G R sO)) : pz pP mSBModel_word [.inr (some (103)), .inl (nI (p)), .inl (nI (1)), .inl (x), .inl (z)] (hb (sL L) F G R sO) Q := by
  show pw pP mSBModel_word (0, [some (.inr (some (103))), some (.inl (nI (p))), some (.inl (nI (1))), some (.inl (x)), some (.inl (z)), none, none], [], 0, 0, hb (sL L) F G R sO) _
  refine pw_aload_n rfl rfl ?_
  refine pw_iload_n rfl rfl ?_
  refine pw_iload_n rfl rfl ?_
  refine pw_iload_n rfl rfl ?_
  refine px_callv (as := [.inr (some (103)), .inl (nI (p)), .inl (nI (1)), .inl (x)]) (rest := []) rfl rfl (by decide) rfl (Nat.le_of_ble_eq_true rfl) (Nat.le_of_ble_eq_true rfl) (Nat.le_of_ble_eq_true rfl) (Nat.le_of_ble_eq_true rfl) rfl rfl rfl rfl ?_
  refine t_there_out1 hp hfl hk ?_
  show pw pP mSBModel_word (7, [some (.inr (some (103))), some (.inl (nI (p))), some (.inl (nI (1))), some (.inl (x)), some (.inl (z)), none, none], [.inl (nI (0))], 0, 0, hb (sL L) F G R sO) _
  refine pw_if1 (t := 12) rfl rfl (fun q => absurd q (by decide)) (fun _ => ?_)
  refine pw_iconst (v := nI (0)) rfl (by decide) ?_
  exact pw_iret rfl rfl (Nat.zero_le _) (Nat.zero_le _) rfl k
/-- SBModel_word -/
def word_no1_r  : Int32 := nI (0)
theorem t_word_no1 {L : Nat} {p x z : Int32} {F G : FN} {R : RN} (hp : p < 0 ∨ nI 4 ≤ p) {Q : Option PV → PH → Prop} (k : Q (some (.inl (word_no1_r ))) (hb (sL L) F G R sO)) : pz pP mSBModel_word [.inr (some (103)), .inl (p), .inl (nI (1)), .inl (x), .inl (z)] (hb (sL L) F G R sO) Q := by
  show pw pP mSBModel_word (0, [some (.inr (some (103))), some (.inl (p)), some (.inl (nI (1))), some (.inl (x)), some (.inl (z)), none, none], [], 0, 0, hb (sL L) F G R sO) _
  refine pw_aload_n rfl rfl ?_
  refine pw_iload_n rfl rfl ?_
  refine pw_iload_n rfl rfl ?_
  refine pw_iload_n rfl rfl ?_
  refine px_callv (as := [.inr (some (103)), .inl (p), .inl (nI (1)), .inl (x)]) (rest := []) rfl rfl (by decide) rfl (Nat.le_of_ble_eq_true rfl) (Nat.le_of_ble_eq_true rfl) (Nat.le_of_ble_eq_true rfl) (Nat.le_of_ble_eq_true rfl) rfl rfl rfl rfl ?_
  refine t_there_no1 hp ?_
  show pw pP mSBModel_word (7, [some (.inr (some (103))), some (.inl (p)), some (.inl (nI (1))), some (.inl (x)), some (.inl (z)), none, none], [.inl (nI (0))], 0, 0, hb (sL L) F G R sO) _
  refine pw_if1 (t := 12) rfl rfl (fun q => absurd q (by decide)) (fun _ => ?_)
  refine pw_iconst (v := nI (0)) rfl (by decide) ?_
  exact pw_iret rfl rfl (Nat.zero_le _) (Nat.zero_le _) rfl k
end
section
/-! THE CLASS: copies, segments, pipes, the stream, arrivals. Rows laid by a program (wip/whole/gen/class1.py). -/
/-- Copy_fill -/
def cfill_F (F : FN) (x : Nat) (a1 a2 a3 a4 a5 : Int32) : FN := (up2 (up2 (up2 (up2 (up2 F (x) (0) (a1)) (x) (1) (a2)) (x) (2) (a3)) (x) (3) (a4)) (x) (4) (a5))
theorem t_cfill {L x : Nat} {a1 a2 a3 a4 a5 : Int32} {F G : FN} {R : RN} (hx : (sL L)[x]? = some (2, 1, [0, 0, 0, 0, 0, 0], 0)) {Q : Option PV → PH → Prop} (k : Q none (hb (sL L) (cfill_F F x a1 a2 a3 a4 a5) G R sO)) : pz pP mCopy_fill [.inr (some (x)), .inl (a1), .inl (a2), .inl (a3), .inl (a4), .inl (a5)] (hb (sL L) F G R sO) Q := by
  show pw pP mCopy_fill (0, [some (.inr (some (x))), some (.inl (a1)), some (.inl (a2)), some (.inl (a3)), some (.inl (a4)), some (.inl (a5))], [], 0, 0, hb (sL L) F G R sO) _
  refine pw_aload_n rfl rfl ?_
  refine pw_iload_n rfl rfl ?_
  refine px_put rfl rfl hx rfl rfl ?_
  refine pw_aload_n rfl rfl ?_
  refine pw_iload_n rfl rfl ?_
  refine px_put rfl rfl hx rfl rfl ?_
  refine pw_aload_n rfl rfl ?_
  refine pw_iload_n rfl rfl ?_
  refine px_put rfl rfl hx rfl rfl ?_
  refine pw_aload_n rfl rfl ?_
  refine pw_iload rfl rfl ?_
  refine px_put rfl rfl hx rfl rfl ?_
  refine pw_aload_n rfl rfl ?_
  refine pw_iload rfl rfl ?_
  refine px_put rfl rfl hx rfl rfl ?_
  exact pw_vret rfl rfl (Nat.zero_le _) (Nat.zero_le _) k
/-- Segment_fill -/
def sfill_F (F : FN) (x : Nat) (a1 a2 a3 a4 : Int32) : FN := (up2 (up2 (up2 (up2 (up2 F (x) (0) (a1)) (x) (1) (a2)) (x) (2) (a3)) (x) (3) (a4)) (x) (5) (nI (0)))
theorem t_sfill {L x : Nat} {a1 a2 a3 a4 : Int32} {F G : FN} {R : RN} (hx : (sL L)[x]? = some (2, 6, [0, 0, 0, 0, 0, 0], 0)) {Q : Option PV → PH → Prop} (k : Q none (hb (sL L) (sfill_F F x a1 a2 a3 a4) G R sO)) : pz pP mSegment_fill [.inr (some (x)), .inl (a1), .inl (a2), .inl (a3), .inl (a4)] (hb (sL L) F G R sO) Q := by
  show pw pP mSegment_fill (0, [some (.inr (some (x))), some (.inl (a1)), some (.inl (a2)), some (.inl (a3)), some (.inl (a4))], [], 0, 0, hb (sL L) F G R sO) _
  refine pw_aload_n rfl rfl ?_
  refine pw_iload_n rfl rfl ?_
  refine px_put rfl rfl hx rfl rfl ?_
  refine pw_aload_n rfl rfl ?_
  refine pw_iload_n rfl rfl ?_
  refine px_put rfl rfl hx rfl rfl ?_
  refine pw_aload_n rfl rfl ?_
  refine pw_iload_n rfl rfl ?_
  refine px_put rfl rfl hx rfl rfl ?_
  refine pw_aload_n rfl rfl ?_
  refine pw_iload rfl rfl ?_
  refine px_put rfl rfl hx rfl rfl ?_
  refine pw_aload_n rfl rfl ?_
  refine pw_iconst (v := nI (0)) rfl (by decide) ?_
  refine px_put rfl rfl hx rfl rfl ?_
  exact pw_vret rfl rfl (Nat.zero_le _) (Nat.zero_le _) k
/-- a pipe stands at e -/
def pipeok (L e : Nat) (R : RN) : Prop := (sL L)[e]? = some (2, 5, [1, 0], 0) ∧ sO e 0 = some (e + 1) ∧ (sL L)[e + 1]? = some (1, 1, [], 6) ∧ ∀ k, k < 6 → ∃ x, R (e + 1) k = some x ∧ (sL L)[x]? = some (2, 1, [0, 0, 0, 0, 0, 0], 0)
theorem pipeok_up {L e j x : Nat} {R : RN} (h : pipeok L e R) (hx : (sL L)[x]? = some (2, 1, [0, 0, 0, 0, 0, 0], 0)) : pipeok L e (up2 R (e + 1) j (some x)) := by
  refine ⟨h.1, h.2.1, h.2.2.1, fun k hk => ?_⟩
  by_cases e1 : k = j
  · subst e1
    exact ⟨x, up2_eq, hx⟩
  · obtain ⟨y, h1, h2⟩ := h.2.2.2 k hk
    exact ⟨y, (up2_ne2 e1).trans h1, h2⟩
/-- the place of a copy -/
def rx (R : RN) (i k : Nat) : Nat := (R i k).getD 0
/-- Pipe_copyAt -/
def copyAt_r (x : Nat) : Option Nat := some (x)
theorem t_copyAt {L e sz kk x : Nat} {F G : FN} {R : RN} (hP : pipeok L e R) (hsz : F e 1 = nI sz) (hs6 : sz ≤ 6) (hk : kk < sz) (hx : R (e + 1) kk = some x) (hsx : (sL L)[x]? = some (2, 1, [0, 0, 0, 0, 0, 0], 0)) {Q : Option PV → PH → Prop} (k : Q (some (.inr (copyAt_r x))) (hb (sL L) F G R sO)) : pz pP mPipe_copyAt [.inr (some (e)), .inl (nI (kk))] (hb (sL L) F G R sO) Q := by
  show pw pP mPipe_copyAt (0, [some (.inr (some (e))), some (.inl (nI (kk)))], [], 0, 0, hb (sL L) F G R sO) _
  refine pw_iload_n rfl rfl ?_
  refine pw_if1p (cz_lt (by omega)) rfl (t := 21) rfl (fun q => absurd q (by omega)) (fun _ => ?_)
  refine pw_iload_n rfl rfl ?_
  refine pw_aload_n rfl rfl ?_
  refine px_getv (x := nI (sz)) rfl rfl hP.1 rfl (hsz) ?_
  refine pw_if2p (cn_ge (by omega) (by omega)) rfl (t := 21) rfl (fun q => absurd q (by omega)) (fun _ => ?_)
  refine pw_aload_n rfl rfl ?_
  refine px_getr (r := some (e + 1)) rfl rfl hP.1 rfl hP.2.1 ?_
  refine pw_iload_n rfl rfl ?_
  refine px_aaldn (r := (some (x))) rfl hP.2.2.1 rfl (by omega) (by decide) (hx) ?_
  refine pw_goto (t := 22) rfl rfl ?_
  exact pw_aret rfl rfl (Nat.zero_le _) (Nat.zero_le _) rfl k
theorem t_copyAt_out {L e sz : Nat} {F G : FN} {R : RN} (hP : pipeok L e R) (hsz : F e 1 = nI sz) (hs6 : sz ≤ 6) {z : Int32} (hz : z < 0 ∨ nI sz ≤ z) {Q : Option PV → PH → Prop} (k : Q (some (.inr none)) (hb (sL L) F G R sO)) : pz pP mPipe_copyAt [.inr (some e), .inl z] (hb (sL L) F G R sO) Q := by
  show pw pP mPipe_copyAt (0, [some (.inr (some (e))), some (.inl (z))], [], 0, 0, hb (sL L) F G R sO) _
  refine pw_iload_n rfl rfl ?_
  refine pw_if1p (A := z < 0) rfl rfl (t := 21) rfl (fun c1 => ?_) (fun c1 => ?_)
  · -- 21
    refine pw_null rfl ?_
    exact pw_aret rfl rfl (Nat.zero_le _) (Nat.zero_le _) rfl k
  · -- 4
    refine pw_iload_n rfl rfl ?_
    refine pw_aload_n rfl rfl ?_
    refine px_getv (x := nI (sz)) rfl rfl hP.1 rfl (hsz) ?_
    refine pw_if2p (A := nI (sz) ≤ z) rfl rfl (t := 21) rfl (fun c2 => ?_) (fun c2 => ?_)
    · -- 21
      refine pw_null rfl ?_
      exact pw_aret rfl rfl (Nat.zero_le _) (Nat.zero_le _) rfl k
    · -- 12
      exact absurd (hz.resolve_left c1) c2
/-- Pipe_append -/
def append_r (F : FN) (e x sz : Nat) (d : Int32) : Option Nat := some (x)
/-- Pipe_append -/
def append_F (F : FN) (e x sz : Nat) (d : Int32) : FN := (up2 (up2 F (x) (5) (d)) (e) (1) (nI (sz + 1)))
theorem t_append {L e sz x : Nat} {F G : FN} {R : RN} (hP : pipeok L e R) (hsz : F e 1 = nI sz) {d : Int32} (hs6 : sz < 6) (hx : R (e + 1) sz = some x) (hsx : (sL L)[x]? = some (2, 1, [0, 0, 0, 0, 0, 0], 0)) {Q : Option PV → PH → Prop} (k : Q (some (.inr (append_r F e x sz d))) (hb (sL L) (append_F F e x sz d) G R sO)) : pz pP mPipe_append [.inr (some (e)), .inl (d)] (hb (sL L) F G R sO) Q := by
  show pw pP mPipe_append (0, [some (.inr (some (e))), some (.inl (d)), none], [], 0, 0, hb (sL L) F G R sO) _
  refine pw_aload_n rfl rfl ?_
  refine px_getv (x := nI (sz)) rfl rfl hP.1 rfl (hsz) ?_
  refine pw_bipush (v := nI (6)) rfl (by decide) ?_
  refine pw_if2p (cn_lt (by omega) (by omega)) rfl (t := 11) rfl (fun _ => ?_) (fun q => absurd hs6 q)
  refine pw_aload_n rfl rfl ?_
  refine px_getr (r := some (e + 1)) rfl rfl hP.1 rfl hP.2.1 ?_
  refine pw_aload_n rfl rfl ?_
  refine px_getv (x := nI (sz)) rfl rfl hP.1 rfl (hsz) ?_
  refine px_aaldn (r := (some (x))) rfl hP.2.2.1 rfl (by omega) (by decide) (hx) ?_
  refine pw_astore_n (ls1 := [some (.inr (some (e))), some (.inl (d)), some (.inr (some (x)))]) rfl (Nat.le_of_ble_eq_true rfl) rfl ?_
  refine pw_aload_n rfl rfl ?_
  refine pw_iload_n rfl rfl ?_
  refine px_put rfl rfl hsx rfl rfl ?_
  refine pw_aload_n rfl rfl ?_
  refine pw_dup rfl ?_
  refine px_getv (x := nI (sz)) rfl rfl hP.1 rfl ((up2_ne (by omega)).trans (hsz)) ?_
  refine pw_iconst (v := nI (1)) rfl (by decide) ?_
  refine pw_iadd (z := nI (sz + 1)) rfl (nI_add _ _) ?_
  refine px_put rfl rfl hP.1 rfl rfl ?_
  refine pw_aload_n rfl rfl ?_
  exact pw_aret rfl rfl (Nat.zero_le _) (Nat.zero_le _) rfl k
theorem t_append_no {L e : Nat} {d : Int32} {F G : FN} {R : RN} (hP : pipeok L e R) (hsz : F e 1 = nI 6) {Q : Option PV → PH → Prop} (k : Q (some (.inr none)) (hb (sL L) F G R sO)) : pz pP mPipe_append [.inr (some e), .inl d] (hb (sL L) F G R sO) Q := by
  show pw pP mPipe_append (0, [some (.inr (some (e))), some (.inl (d)), none], [], 0, 0, hb (sL L) F G R sO) _
  refine pw_aload_n rfl rfl ?_
  refine px_getv (x := nI (6)) rfl rfl hP.1 rfl (hsz) ?_
  refine pw_bipush (v := nI (6)) rfl (by decide) ?_
  refine pw_if2 (t := 11) rfl rfl (fun q => absurd q (by decide)) (fun _ => ?_)
  refine pw_null rfl ?_
  exact pw_aret rfl rfl (Nat.zero_le _) (Nat.zero_le _) rfl k
/-- Pipe_empty -/
def empty_F (F : FN) (e : Nat) : FN := (up2 F (e) (1) (nI (0)))
theorem t_empty {L e : Nat} {F G : FN} {R : RN} (hP : pipeok L e R) {Q : Option PV → PH → Prop} (k : Q none (hb (sL L) (empty_F F e) G R sO)) : pz pP mPipe_empty [.inr (some (e))] (hb (sL L) F G R sO) Q := by
  show pw pP mPipe_empty (0, [some (.inr (some (e)))], [], 0, 0, hb (sL L) F G R sO) _
  refine pw_aload_n rfl rfl ?_
  refine pw_iconst (v := nI (0)) rfl (by decide) ?_
  refine px_put rfl rfl hP.1 rfl rfl ?_
  exact pw_vret rfl rfl (Nat.zero_le _) (Nat.zero_le _) k
def cro (e : Nat) : Nat → Nat → RN → RN
  | 0, _, R => R
  | n + 1, j, R => cro e n (j + 1) (up2 R (e + 1) (j - 1) (R (e + 1) j))
theorem cro_ok {L e : Nat} : ∀ (n j : Nat) (R : RN), j + n ≤ 6 → pipeok L e R → pipeok L e (cro e n j R)
  | 0, _, _, _, h => h
  | n + 1, j, R, hn, h => by
    obtain ⟨x, h1, h2⟩ := h.2.2.2 j (by omega)
    refine cro_ok n (j + 1) _ (by omega) ?_
    rw [h1]
    exact pipeok_up h h2
theorem t_takeOut_lp {L e sz kk x0 : Nat} {F G : FN} {Q : Option PV → PH → Prop} (hsz : F e 1 = nI sz) (hs6 : sz ≤ 6) : ∀ (n j : Nat) (R : RN), j + n = sz → 1 ≤ j → pipeok L e R → pw pP mPipe_takeOut (44, [some (.inr (some (e))), some (.inl (nI (kk))), some (.inr (some (x0))), some (.inl (nI (sz)))], [], 0, 0, hb (sL L) F G (cro e n j R) sO) Q → pw pP mPipe_takeOut (16, [some (.inr (some (e))), some (.inl (nI (kk))), some (.inr (some (x0))), some (.inl (nI (j)))], [], 0, 0, hb (sL L) F G R sO) Q := by
  intro n
  induction n with
  | zero =>
    intro j R hn hj hP k
    have e1 : sz = j := by omega
    subst e1
    refine pw_iload_n rfl rfl ?_
    refine pw_aload_n rfl rfl ?_
    refine px_getv (x := nI (sz)) rfl rfl hP.1 rfl (hsz) ?_
    refine pw_if2p (cn_ge (by omega) (by omega)) rfl (t := 44) rfl (fun c1 => ?_) (fun c1 => ?_)
    · -- 44
      exact k
    · -- 24
      exact absurd c1 (by omega)
  | succ n ih =>
    intro j R hn hj hP k
    obtain ⟨x, hx, hsx⟩ := hP.2.2.2 j (by omega)
    refine pw_iload_n rfl rfl ?_
    refine pw_aload_n rfl rfl ?_
    refine px_getv (x := nI (sz)) rfl rfl hP.1 rfl (hsz) ?_
    refine pw_if2p (cn_ge (by omega) (by omega)) rfl (t := 44) rfl (fun c1 => ?_) (fun c1 => ?_)
    · -- 44
      exact absurd c1 (by omega)
    · -- 24
      refine pw_aload_n rfl rfl ?_
      refine px_getr (r := some (e + 1)) rfl rfl hP.1 rfl hP.2.1 ?_
      refine pw_iload_n rfl rfl ?_
      refine pw_iconst (v := nI (1)) rfl (by decide) ?_
      refine pw_isub (z := nI (j - 1)) rfl (pk_sub (by omega)) ?_
      refine pw_aload_n rfl rfl ?_
      refine px_getr (r := some (e + 1)) rfl rfl hP.1 rfl hP.2.1 ?_
      refine pw_iload_n rfl rfl ?_
      refine px_aaldn (r := (some (x))) rfl hP.2.2.1 rfl (by omega) (by decide) (hx) ?_
      refine px_aastn rfl hP.2.2.1 hsx rfl (by omega) (by decide) ?_
      refine pw_iinc (v := nI (j + 1)) (ls1 := [some (.inr (some (e))), some (.inl (nI (kk))), some (.inr (some (x0))), some (.inl (nI (j + 1)))]) rfl rfl (iinc_n _) rfl ?_
      refine pw_goto (t := 16) rfl rfl ?_
      exact ih (j + 1) _ (by omega) (by omega) (pipeok_up hP hsx) (by simp only [cro, hx] at k; exact k)
def tout_F (F : FN) (e sz : Nat) : FN := up2 F e 1 (nI (sz - 1))
def tout_R (R : RN) (e sz kk x0 : Nat) : RN := up2 (cro e (sz - 1 - kk) (kk + 1) R) (e + 1) (sz - 1) (some x0)
theorem t_takeOut {L e sz kk x0 : Nat} {F G : FN} {R : RN} (hP : pipeok L e R) (hsz : F e 1 = nI sz) (hs6 : sz ≤ 6) (hk : kk < sz) (hx : R (e + 1) kk = some x0) (hs0 : (sL L)[x0]? = some (2, 1, [0, 0, 0, 0, 0, 0], 0)) {Q : Option PV → PH → Prop} (k : Q (some (.inr (some x0))) (hb (sL L) (tout_F F e sz) G (tout_R R e sz kk x0) sO)) : pz pP mPipe_takeOut [.inr (some e), .inl (nI kk)] (hb (sL L) F G R sO) Q := by
  show pw pP mPipe_takeOut (0, [some (.inr (some (e))), some (.inl (nI (kk))), none, none], [], 0, 0, hb (sL L) F G R sO) _
  refine pw_aload_n rfl rfl ?_
  refine pw_iload_n rfl rfl ?_
  refine px_callv (as := [.inr (some (e)), .inl (nI (kk))]) (rest := []) rfl rfl (by decide) rfl (Nat.le_of_ble_eq_true rfl) (Nat.le_of_ble_eq_true rfl) (Nat.le_of_ble_eq_true rfl) (Nat.le_of_ble_eq_true rfl) rfl hP.1 rfl rfl ?_
  refine t_copyAt hP hsz hs6 hk hx hs0 ?_
  show pw pP mPipe_takeOut (5, [some (.inr (some (e))), some (.inl (nI (kk))), none, none], [.inr (some (x0))], 0, 0, hb (sL L) F G R sO) _
  refine pw_astore_n (ls1 := [some (.inr (some (e))), some (.inl (nI (kk))), some (.inr (some (x0))), none]) rfl (Nat.le_of_ble_eq_true rfl) rfl ?_
  refine pw_aload_n rfl rfl ?_
  refine pw_ifnonnull (t := 12) rfl rfl ?_
  refine pw_iload_n rfl rfl ?_
  refine pw_iconst (v := nI (1)) rfl (by decide) ?_
  refine pw_iadd (z := nI (kk + 1)) rfl (nI_add _ _) ?_
  refine pw_istore_n (ls1 := [some (.inr (some (e))), some (.inl (nI (kk))), some (.inr (some (x0))), some (.inl (nI (kk + 1)))]) rfl (Nat.le_of_ble_eq_true rfl) rfl ?_
  refine t_takeOut_lp hsz hs6 (sz - 1 - kk) (kk + 1) R (by omega) (by omega) hP ?_
  have hP := cro_ok (sz - 1 - kk) (kk + 1) R (by omega) hP
  refine pw_aload_n rfl rfl ?_
  refine pw_dup rfl ?_
  refine px_getv (x := nI (sz)) rfl rfl hP.1 rfl (hsz) ?_
  refine pw_iconst (v := nI (1)) rfl (by decide) ?_
  refine pw_isub (z := nI (sz - 1)) rfl (pk_sub (by omega)) ?_
  refine px_put rfl rfl hP.1 rfl rfl ?_
  refine pw_aload_n rfl rfl ?_
  refine px_getr (r := some (e + 1)) rfl rfl hP.1 rfl hP.2.1 ?_
  refine pw_aload_n rfl rfl ?_
  refine px_getv (x := nI (sz - 1)) rfl rfl hP.1 rfl (up2_eq) ?_
  refine pw_aload_n rfl rfl ?_
  refine px_aastn rfl hP.2.2.1 hs0 rfl (by omega) (by decide) ?_
  refine pw_aload_n rfl rfl ?_
  exact pw_aret rfl rfl (Nat.zero_le _) (Nat.zero_le _) rfl k
theorem t_takeOut_out {L e sz : Nat} {F G : FN} {R : RN} (hP : pipeok L e R) (hsz : F e 1 = nI sz) (hs6 : sz ≤ 6) {z : Int32} (hz : z < 0 ∨ nI sz ≤ z) {Q : Option PV → PH → Prop} (k : Q (some (.inr none)) (hb (sL L) F G R sO)) : pz pP mPipe_takeOut [.inr (some e), .inl z] (hb (sL L) F G R sO) Q := by
  show pw pP mPipe_takeOut (0, [some (.inr (some (e))), some (.inl (z)), none, none], [], 0, 0, hb (sL L) F G R sO) _
  refine pw_aload_n rfl rfl ?_
  refine pw_iload_n rfl rfl ?_
  refine px_callv (as := [.inr (some (e)), .inl (z)]) (rest := []) rfl rfl (by decide) rfl (Nat.le_of_ble_eq_true rfl) (Nat.le_of_ble_eq_true rfl) (Nat.le_of_ble_eq_true rfl) (Nat.le_of_ble_eq_true rfl) rfl hP.1 rfl rfl ?_
  refine t_copyAt_out hP hsz hs6 hz ?_
  show pw pP mPipe_takeOut (5, [some (.inr (some (e))), some (.inl (z)), none, none], [.inr none], 0, 0, hb (sL L) F G R sO) _
  refine pw_astore_n (ls1 := [some (.inr (some (e))), some (.inl (z)), some (.inr none), none]) rfl (Nat.le_of_ble_eq_true rfl) rfl ?_
  refine pw_aload_n rfl rfl ?_
  refine pw_ifnonnullN (t := 12) rfl rfl ?_
  refine pw_null rfl ?_
  exact pw_aret rfl rfl (Nat.zero_le _) (Nat.zero_le _) rfl k
def cdu (F : FN) (R : RN) (e : Nat) (d : Int32) : Nat → Nat → Option Nat
  | 0, _ => none
  | n + 1, j => if F (rx R (e + 1) j) 5 = d then some j else cdu F R e d n (j + 1)
def tdu_F (F : FN) (e sz : Nat) (o : Option Nat) : FN := match o with
  | none => F
  | some _ => tout_F F e sz
def tdu_R (R : RN) (e sz : Nat) (o : Option Nat) : RN := match o with
  | none => R
  | some j => tout_R R e sz j (rx R (e + 1) j)
def tdu_r (R : RN) (e : Nat) (o : Option Nat) : Option Nat := match o with
  | none => none
  | some j => some (rx R (e + 1) j)
theorem t_takeDue_lp {L e sz : Nat} {d : Int32} {F G : FN} {R : RN} {Q : Option PV → PH → Prop} (hP : pipeok L e R) (hsz : F e 1 = nI sz) (hs6 : sz ≤ 6) : ∀ (n j : Nat), j + n = sz → Q (some (.inr (tdu_r R e (cdu F R e d n j)))) (hb (sL L) (tdu_F F e sz (cdu F R e d n j)) G (tdu_R R e sz (cdu F R e d n j)) sO) → pw pP mPipe_takeDue (2, [some (.inr (some (e))), some (.inl (d)), some (.inl (nI (j)))], [], 0, 0, hb (sL L) F G R sO) Q := by
  intro n
  induction n with
  | zero =>
    intro j hn k
    refine pw_iload_n rfl rfl ?_
    refine pw_aload_n rfl rfl ?_
    refine px_getv (x := nI (sz)) rfl rfl hP.1 rfl (hsz) ?_
    refine pw_if2p (cn_ge (by omega) (by omega)) rfl (t := 35) rfl (fun c1 => ?_) (fun c1 => ?_)
    · -- 35
      refine pw_null rfl ?_
      exact pw_aret rfl rfl (Nat.zero_le _) (Nat.zero_le _) rfl k
    · -- 10
      exact absurd c1 (by omega)
  | succ n ih =>
    intro j hn k
    obtain ⟨x, hx, hsx⟩ := hP.2.2.2 j (by omega)
    have hr : rx R (e + 1) j = x := by rw [rx, hx]; rfl
    refine pw_iload_n rfl rfl ?_
    refine pw_aload_n rfl rfl ?_
    refine px_getv (x := nI (sz)) rfl rfl hP.1 rfl (hsz) ?_
    refine pw_if2p (cn_ge (by omega) (by omega)) rfl (t := 35) rfl (fun c1 => ?_) (fun c1 => ?_)
    · -- 35
      refine pw_null rfl ?_
      exact absurd c1 (by omega)
    · -- 10
      refine pw_aload_n rfl rfl ?_
      refine px_getr (r := some (e + 1)) rfl rfl hP.1 rfl hP.2.1 ?_
      refine pw_iload_n rfl rfl ?_
      refine px_aaldn (r := (some (x))) rfl hP.2.2.1 rfl (by omega) (by decide) (hx) ?_
      refine px_getv (x := F (x) (5)) rfl rfl hsx rfl (rfl) ?_
      refine pw_iload_n rfl rfl ?_
      refine pw_if2p (A := ¬ F (x) (5) = d) rfl rfl (t := 29) rfl (fun c2 => ?_) (fun c2 => ?_)
      · -- 29
        refine pw_iinc (v := nI (j + 1)) (ls1 := [some (.inr (some (e))), some (.inl (d)), some (.inl (nI (j + 1)))]) rfl rfl (iinc_n _) rfl ?_
        refine pw_goto (t := 2) rfl rfl ?_
        have ec : cdu F R e d (n + 1) j = cdu F R e d n (j + 1) := by simp only [cdu, hr, c2, if_false]
        rw [ec] at k
        exact ih (j + 1) (by omega) k
      · -- 23
        have ec : cdu F R e d (n + 1) j = some j := by simp only [cdu, hr, Decidable.of_not_not c2, if_true]
        simp only [ec, tdu_r, tdu_F, tdu_R, hr] at k
        refine pw_aload_n rfl rfl ?_
        refine pw_iload_n rfl rfl ?_
        refine px_callv (as := [.inr (some (e)), .inl (nI (j))]) (rest := []) rfl rfl (by decide) rfl (Nat.le_of_ble_eq_true rfl) (Nat.le_of_ble_eq_true rfl) (Nat.le_of_ble_eq_true rfl) (Nat.le_of_ble_eq_true rfl) rfl hP.1 rfl rfl ?_
        refine t_takeOut hP hsz hs6 (by omega) hx hsx ?_
        show pw pP mPipe_takeDue (28, [some (.inr (some (e))), some (.inl (d)), some (.inl (nI (j)))], [.inr (some (x))], 0, 0, hb (sL L) (tout_F F e sz) G (tout_R R e sz j x) sO) _
        exact pw_aret rfl rfl (Nat.zero_le _) (Nat.zero_le _) rfl k
theorem t_takeDue {L e sz : Nat} {d : Int32} {F G : FN} {R : RN} {Q : Option PV → PH → Prop} (hP : pipeok L e R) (hsz : F e 1 = nI sz) (hs6 : sz ≤ 6) (k : Q (some (.inr (tdu_r R e (cdu F R e d sz 0)))) (hb (sL L) (tdu_F F e sz (cdu F R e d sz 0)) G (tdu_R R e sz (cdu F R e d sz 0)) sO)) : pz pP mPipe_takeDue [.inr (some e), .inl d] (hb (sL L) F G R sO) Q := by
  show pw pP mPipe_takeDue (0, [some (.inr (some (e))), some (.inl (d)), none], [], 0, 0, hb (sL L) F G R sO) _
  refine pw_iconst (v := nI (0)) rfl (by decide) ?_
  refine pw_istore_n (ls1 := [some (.inr (some (e))), some (.inl (d)), some (.inl (nI (0)))]) rfl (Nat.le_of_ble_eq_true rfl) rfl ?_
  exact t_takeDue_lp hP hsz hs6 sz 0 (by omega) k
end
section
/-! THE CLASS, second part: the stream, arrivals, paths. Rows laid by a program (wip/whole/gen/class2.py). -/
/-- Stream_valueOf -/
def cval_r (G : FN) (u ln : Nat) : Int32 := (if ln ≤ u then nI (0) else G (3) (u))
theorem t_cval {L u ln : Nat} {F G : FN} {R : RN} (hln : F 2 1 = nI ln) (hl : ln ≤ 401) (hu : u < 2 ^ 31) {Q : Option PV → PH → Prop} (k : Q (some (.inl (cval_r G u ln))) (hb (sL L) F G R sO)) : pz pP mStream_valueOf [.inr (some (2)), .inl (nI (u))] (hb (sL L) F G R sO) Q := by
  show pw pP mStream_valueOf (0, [some (.inr (some (2))), some (.inl (nI (u)))], [], 0, 0, hb (sL L) F G R sO) _
  refine pw_iload_n rfl rfl ?_
  refine pw_if1p (cz_lt (by omega)) rfl (t := 21) rfl (fun q => absurd q (by omega)) (fun _ => ?_)
  refine pw_iload_n rfl rfl ?_
  refine pw_aload_n rfl rfl ?_
  refine px_getv (x := nI (ln)) rfl rfl rfl rfl (hln) ?_
  refine pw_if2p (cn_ge (by omega) (by omega)) rfl (t := 21) rfl (fun c1 => ?_) (fun c1 => ?_)
  · -- 21
    refine pw_iconst (v := nI (0)) rfl (by decide) ?_
    exact pw_iret rfl rfl (Nat.zero_le _) (Nat.zero_le _) rfl (by simp only [cval_r, c1, if_true, if_false] at k; exact k)
  · -- 12
    refine pw_aload_n rfl rfl ?_
    refine px_getr (r := some (3)) rfl rfl rfl rfl rfl ?_
    refine pw_iload_n rfl rfl ?_
    refine px_ialdn (x := G (3) (u)) rfl rfl (by omega) (by decide) (rfl) ?_
    refine pw_goto (t := 22) rfl rfl ?_
    exact pw_iret rfl rfl (Nat.zero_le _) (Nat.zero_le _) rfl (by simp only [cval_r, c1, if_true, if_false] at k; exact k)
/-- Stream_appendEnd -/
def cend_r (F G : FN) (ln : Nat) : Int32 := (if ¬ F (2) (2) = 0 then nI (0) else (if ln < 401 then nI (1) else nI (0)))
/-- Stream_appendEnd -/
def cend_F (F G : FN) (ln : Nat) : FN := (if ¬ F (2) (2) = 0 then F else (if ln < 401 then (up2 (up2 F (2) (1) (nI (ln + 1))) (2) (2) (nI (1))) else F))
/-- Stream_appendEnd -/
def cend_G (F G : FN) (ln : Nat) : FN := (if ¬ F (2) (2) = 0 then G else (if ln < 401 then (up2 G (3) (ln) (nI (256))) else G))
theorem t_cend {L ln : Nat} {F G : FN} {R : RN} (hln : F 2 1 = nI ln) (hl : ln ≤ 401) {Q : Option PV → PH → Prop} (k : Q (some (.inl (cend_r F G ln))) (hb (sL L) (cend_F F G ln) (cend_G F G ln) R sO)) : pz pP mStream_appendEnd [.inr (some (2))] (hb (sL L) F G R sO) Q := by
  show pw pP mStream_appendEnd (0, [some (.inr (some (2)))], [], 0, 0, hb (sL L) F G R sO) _
  refine pw_aload_n rfl rfl ?_
  refine px_getv (x := F (2) (2)) rfl rfl rfl rfl (rfl) ?_
  refine pw_if1p (A := ¬ F (2) (2) = 0) rfl rfl (t := 17) rfl (fun c1 => ?_) (fun c1 => ?_)
  · -- 17
    refine pw_iconst (v := nI (0)) rfl (by decide) ?_
    exact pw_iret rfl rfl (Nat.zero_le _) (Nat.zero_le _) rfl (by simp only [cend_r, cend_F, cend_G, c1, if_true, if_false] at k; exact k)
  · -- 7
    refine pw_aload_n rfl rfl ?_
    refine px_getv (x := nI (ln)) rfl rfl rfl rfl (hln) ?_
    refine pw_sipush (v := nI (401)) rfl (by decide) ?_
    refine pw_if2p (cn_lt (by omega) (by omega)) rfl (t := 19) rfl (fun c2 => ?_) (fun c2 => ?_)
    · -- 19
      refine pw_aload_n rfl rfl ?_
      refine px_getr (r := some (3)) rfl rfl rfl rfl rfl ?_
      refine pw_aload_n rfl rfl ?_
      refine px_getv (x := nI (ln)) rfl rfl rfl rfl (hln) ?_
      refine pw_sipush (v := nI (256)) rfl (by decide) ?_
      refine px_iastn rfl rfl (by omega) (by decide) ?_
      refine pw_aload_n rfl rfl ?_
      refine pw_dup rfl ?_
      refine px_getv (x := nI (ln)) rfl rfl rfl rfl (hln) ?_
      refine pw_iconst (v := nI (1)) rfl (by decide) ?_
      refine pw_iadd (z := nI (ln + 1)) rfl (nI_add _ _) ?_
      refine px_put rfl rfl rfl rfl rfl ?_
      refine pw_aload_n rfl rfl ?_
      refine pw_iconst (v := nI (1)) rfl (by decide) ?_
      refine px_put rfl rfl rfl rfl rfl ?_
      refine pw_iconst (v := nI (1)) rfl (by decide) ?_
      exact pw_iret rfl rfl (Nat.zero_le _) (Nat.zero_le _) rfl (by simp only [cend_r, cend_F, cend_G, c1, c2, if_true, if_false] at k; exact k)
    · -- 17
      refine pw_iconst (v := nI (0)) rfl (by decide) ?_
      exact pw_iret rfl rfl (Nat.zero_le _) (Nat.zero_le _) rfl (by simp only [cend_r, cend_F, cend_G, c1, c2, if_true, if_false] at k; exact k)
def csw (v : Int32) (ln : Nat) : Nat → Nat → FN → FN
  | 0, _, G => G
  | n + 1, j, G => csw v ln n (j + 1) (up2 G 3 (ln + j) ((v + nI j) &&& nI 255))
theorem t_csapp_lp {L ln ad : Nat} {x v : Int32} {F : FN} {R : RN} {Q : Option PV → PH → Prop} (hln : F 2 1 = nI ln) (had : ln + ad ≤ 400) : ∀ (n j : Nat) (G : FN), j + n = ad → pw pP mStream_append (62, [some (.inr (some (2))), some (.inl (x)), some (.inl (v)), some (.inl (nI (ad))), some (.inl (nI (ad)))], [], 0, 0, hb (sL L) F (csw v ln n j G) R sO) Q → pw pP mStream_append (30, [some (.inr (some (2))), some (.inl (x)), some (.inl (v)), some (.inl (nI (ad))), some (.inl (nI (j)))], [], 0, 0, hb (sL L) F G R sO) Q := by
  intro n
  induction n with
  | zero =>
    intro j G hn k
    have e : ad = j := by omega
    subst e
    refine pw_iload rfl rfl ?_
    refine pw_iload_n rfl rfl ?_
    refine pw_if2p (cn_ge (by omega) (by omega)) rfl (t := 62) rfl (fun c1 => ?_) (fun c1 => ?_)
    · -- 62
      exact k
    · -- 36
      exact absurd c1 (by omega)
  | succ n ih =>
    intro j G hn k
    refine pw_iload rfl rfl ?_
    refine pw_iload_n rfl rfl ?_
    refine pw_if2p (cn_ge (by omega) (by omega)) rfl (t := 62) rfl (fun c1 => ?_) (fun c1 => ?_)
    · -- 62
      exact absurd c1 (by omega)
    · -- 36
      refine pw_aload_n rfl rfl ?_
      refine px_getr (r := some (3)) rfl rfl rfl rfl rfl ?_
      refine pw_aload_n rfl rfl ?_
      refine px_getv (x := nI (ln)) rfl rfl rfl rfl (hln) ?_
      refine pw_iload rfl rfl ?_
      refine pw_iadd (z := nI (ln + j)) rfl (nI_add _ _) ?_
      refine pw_iload_n rfl rfl ?_
      refine pw_iload rfl rfl ?_
      refine pw_iadd (z := v + (nI (j))) rfl rfl ?_
      refine pw_sipush (v := nI (255)) rfl (by decide) ?_
      refine pw_iand (z := (v + (nI (j))) &&& (nI (255))) rfl rfl ?_
      refine px_iastn rfl rfl (by omega) (by decide) ?_
      refine pw_iinc (v := nI (j + 1)) (ls1 := [some (.inr (some (2))), some (.inl (x)), some (.inl (v)), some (.inl (nI (ad))), some (.inl (nI (j + 1)))]) rfl rfl (iinc_n _) rfl ?_
      refine pw_goto (t := 30) rfl rfl ?_
      exact ih (j + 1) _ (by omega) k
theorem t_csapp {L ln ad : Nat} {x v : Int32} {F G : FN} {R : RN} (hln : F 2 1 = nI ln) (hend : F 2 2 = nI 0) (hx : ¬ x < nI 1) (had : (if nI (400 - ln) < x then nI (400 - ln) else x) = nI ad) (hl : ln + ad ≤ 400) {Q : Option PV → PH → Prop} (k : Q (some (.inl (nI ad))) (hb (sL L) (up2 F 2 1 (nI (ln + ad))) (csw v ln ad 0 G) R sO)) : pz pP mStream_append [.inr (some 2), .inl x, .inl v] (hb (sL L) F G R sO) Q := by
  show pw pP mStream_append (0, [some (.inr (some (2))), some (.inl (x)), some (.inl (v)), none, none], [], 0, 0, hb (sL L) F G R sO) _
  refine pw_aload_n rfl rfl ?_
  refine px_getv (x := nI (0)) rfl rfl rfl rfl (hend) ?_
  refine pw_if1 (t := 12) rfl rfl (fun q => absurd q (by decide)) (fun _ => ?_)
  refine pw_iload_n rfl rfl ?_
  refine pw_iconst (v := nI (1)) rfl (by decide) ?_
  refine pw_if2p (A := nI (1) ≤ x) rfl rfl (t := 14) rfl (fun _ => ?_) (fun q => absurd (Int32.not_lt.mp hx) q)
  refine pw_iload_n rfl rfl ?_
  refine pw_sipush (v := nI (400)) rfl (by decide) ?_
  refine pw_aload_n rfl rfl ?_
  refine px_getv (x := nI (ln)) rfl rfl rfl rfl (hln) ?_
  refine pw_isub (z := nI (400 - ln)) rfl (pk_sub (by omega)) ?_
  refine pw_math (st1 := [.inl (nI (ad))]) rfl rfl (by decide) (Nat.zero_le _) (Nat.zero_le _) (by show (some _ : Option (List PV)) = some _; rw [had]) (Nat.le_of_ble_eq_true rfl) ?_
  refine pw_istore_n (ls1 := [some (.inr (some (2))), some (.inl (x)), some (.inl (v)), some (.inl (nI (ad))), none]) rfl (Nat.le_of_ble_eq_true rfl) rfl ?_
  refine pw_iconst (v := nI (0)) rfl (by decide) ?_
  refine pw_istore (ls1 := [some (.inr (some (2))), some (.inl (x)), some (.inl (v)), some (.inl (nI (ad))), some (.inl (nI (0)))]) rfl (Nat.le_of_ble_eq_true rfl) rfl ?_
  refine t_csapp_lp hln hl ad 0 G (by omega) ?_
  refine pw_aload_n rfl rfl ?_
  refine pw_dup rfl ?_
  refine px_getv (x := nI (ln)) rfl rfl rfl rfl (hln) ?_
  refine pw_iload_n rfl rfl ?_
  refine pw_iadd (z := nI (ln + ad)) rfl (nI_add _ _) ?_
  refine px_put rfl rfl rfl rfl rfl ?_
  refine pw_iload_n rfl rfl ?_
  exact pw_iret rfl rfl (Nat.zero_le _) (Nat.zero_le _) rfl k
theorem t_csapp_no {L : Nat} {x v : Int32} {F G : FN} {R : RN} (he : ¬ F 2 2 = 0) {Q : Option PV → PH → Prop} (k : Q (some (.inl (nI 0))) (hb (sL L) F G R sO)) : pz pP mStream_append [.inr (some 2), .inl x, .inl v] (hb (sL L) F G R sO) Q := by
  show pw pP mStream_append (0, [some (.inr (some (2))), some (.inl (x)), some (.inl (v)), none, none], [], 0, 0, hb (sL L) F G R sO) _
  refine pw_aload_n rfl rfl ?_
  refine px_getv (x := F (2) (2)) rfl rfl rfl rfl (rfl) ?_
  refine pw_if1p (A := ¬ F (2) (2) = 0) rfl rfl (t := 12) rfl (fun _ => ?_) (fun q => absurd he q)
  refine pw_iconst (v := nI (0)) rfl (by decide) ?_
  exact pw_iret rfl rfl (Nat.zero_le _) (Nat.zero_le _) rfl k
theorem t_csapp_z {L : Nat} {x v : Int32} {F G : FN} {R : RN} (hend : F 2 2 = nI 0) (hx : x < nI 1) {Q : Option PV → PH → Prop} (k : Q (some (.inl (nI 0))) (hb (sL L) F G R sO)) : pz pP mStream_append [.inr (some 2), .inl x, .inl v] (hb (sL L) F G R sO) Q := by
  show pw pP mStream_append (0, [some (.inr (some (2))), some (.inl (x)), some (.inl (v)), none, none], [], 0, 0, hb (sL L) F G R sO) _
  refine pw_aload_n rfl rfl ?_
  refine px_getv (x := nI (0)) rfl rfl rfl rfl (hend) ?_
  refine pw_if1 (t := 12) rfl rfl (fun q => absurd q (by decide)) (fun _ => ?_)
  refine pw_iload_n rfl rfl ?_
  refine pw_iconst (v := nI (1)) rfl (by decide) ?_
  refine pw_if2p (A := nI (1) ≤ x) rfl rfl (t := 14) rfl (fun q => absurd q (Int32.not_le.mpr hx)) (fun _ => ?_)
  refine pw_iconst (v := nI (0)) rfl (by decide) ?_
  exact pw_iret rfl rfl (Nat.zero_le _) (Nat.zero_le _) rfl k
def arrok (L e : Nat) : Prop := (sL L)[e]? = some (2, 0, [1, 0], 0) ∧ sO e 0 = some (e + 1) ∧ (sL L)[e + 1]? = some (0, 1, [], 402)
theorem arrok_p {L p : Nat} (hp : p < 4) : arrok L (95 + 2 * p) := by
  have h : p = 0 ∨ p = 1 ∨ p = 2 ∨ p = 3 := by omega
  rcases h with rfl | rfl | rfl | rfl <;> exact ⟨rfl, rfl, rfl⟩
/-- Arrivals_took -/
def ctook_r (G : FN) (e u : Nat) : Int32 := (if G (e + 1) (u) = 0 then nI (0) else nI (1))
theorem t_ctook {L e u : Nat} {F G : FN} {R : RN} (hA : arrok L e) (hu : u < 402) {Q : Option PV → PH → Prop} (k : Q (some (.inl (ctook_r G e u))) (hb (sL L) F G R sO)) : pz pP mArrivals_took [.inr (some (e)), .inl (nI (u))] (hb (sL L) F G R sO) Q := by
  show pw pP mArrivals_took (0, [some (.inr (some (e))), some (.inl (nI (u)))], [], 0, 0, hb (sL L) F G R sO) _
  refine pw_iload_n rfl rfl ?_
  refine pw_if1p (cz_lt (by omega)) rfl (t := 20) rfl (fun q => absurd q (by omega)) (fun _ => ?_)
  refine pw_iload_n rfl rfl ?_
  refine pw_sipush (v := nI (402)) rfl (by decide) ?_
  refine pw_if2p (cn_ge (by omega) (by omega)) rfl (t := 20) rfl (fun q => absurd q (by omega)) (fun _ => ?_)
  refine pw_aload_n rfl rfl ?_
  refine px_getr (r := some (e + 1)) rfl rfl hA.1 rfl hA.2.1 ?_
  refine pw_iload_n rfl rfl ?_
  refine px_zaldn (x := G (e + 1) (u)) rfl hA.2.2 (by omega) (by decide) (rfl) ?_
  refine pw_if1p (A := G (e + 1) (u) = 0) rfl rfl (t := 24) rfl (fun c1 => ?_) (fun c1 => ?_)
  · -- 24
    refine pw_iconst (v := nI (0)) rfl (by decide) ?_
    exact pw_iret rfl rfl (Nat.zero_le _) (Nat.zero_le _) rfl (by simp only [ctook_r, c1, if_true, if_false] at k; exact k)
  · -- 20
    refine pw_iconst (v := nI (1)) rfl (by decide) ?_
    refine pw_goto (t := 25) rfl rfl ?_
    exact pw_iret rfl rfl (Nat.zero_le _) (Nat.zero_le _) rfl (by simp only [ctook_r, c1, if_true, if_false] at k; exact k)
def ctk (e a : Nat) : Nat → Nat → FN → FN
  | 0, _, G => G
  | n + 1, j, G => ctk e a n (j + 1) (up2 G (e + 1) j (nI 1))
theorem t_ctake_1 {L e a m : Nat} {F : FN} {R : RN} {Q : Option PV → PH → Prop} (hA : arrok L e) (ham : a + m ≤ 402) : ∀ (n j : Nat) (G : FN), j + n = a + m → pw pP mArrivals_take (29, [some (.inr (some (e))), some (.inl (nI (a))), some (.inl (nI (m))), some (.inl (nI (a + m)))], [], 0, 0, hb (sL L) F (ctk e a n j G) R sO) Q → pw pP mArrivals_take (2, [some (.inr (some (e))), some (.inl (nI (a))), some (.inl (nI (m))), some (.inl (nI (j)))], [], 0, 0, hb (sL L) F G R sO) Q := by
  intro n
  induction n with
  | zero =>
    intro j G hn k
    have e1 : j = a + m := by omega
    subst e1
    refine pw_iload_n rfl rfl ?_
    refine pw_iload_n rfl rfl ?_
    refine pw_iload_n rfl rfl ?_
    refine pw_iadd (z := nI (a + m)) rfl (nI_add _ _) ?_
    refine pw_if2p (cn_ge (by omega) (by omega)) rfl (t := 29) rfl (fun _ => ?_) (fun q => absurd (Nat.le_refl _) q)
    exact k
  | succ n ih =>
    intro j G hn k
    refine pw_iload_n rfl rfl ?_
    refine pw_iload_n rfl rfl ?_
    refine pw_iload_n rfl rfl ?_
    refine pw_iadd (z := nI (a + m)) rfl (nI_add _ _) ?_
    refine pw_if2p (cn_ge (by omega) (by omega)) rfl (t := 29) rfl (fun q => absurd q (by omega)) (fun _ => ?_)
    refine pw_iload_n rfl rfl ?_
    refine pw_sipush (v := nI (402)) rfl (by decide) ?_
    refine pw_if2p (cn_ge (by omega) (by omega)) rfl (t := 29) rfl (fun q => absurd q (by omega)) (fun _ => ?_)
    refine pw_aload_n rfl rfl ?_
    refine px_getr (r := some (e + 1)) rfl rfl hA.1 rfl hA.2.1 ?_
    refine pw_iload_n rfl rfl ?_
    refine pw_iconst (v := nI (1)) rfl (by decide) ?_
    refine px_zastn (x1 := nI (1)) rfl hA.2.2 (by omega) (by decide) (by decide) ?_
    refine pw_iinc (v := nI (j + 1)) (ls1 := [some (.inr (some (e))), some (.inl (nI (a))), some (.inl (nI (m))), some (.inl (nI (j + 1)))]) rfl rfl (iinc_n _) rfl ?_
    refine pw_goto (t := 2) rfl rfl ?_
    exact ih (j + 1) _ (by omega) k
theorem t_ctake_2 {L e a m j : Nat} {G : FN} {R : RN} {Q : Option PV → PH → Prop} (hA : arrok L e) : ∀ (n x : Nat) (F : FN), x + n = 402 → F e 1 = nI x → Q none (hb (sL L) (up2 F e 1 (nI (lead (G (e + 1)) n x))) G R sO) → pw pP mArrivals_take (29, [some (.inr (some (e))), some (.inl (nI (a))), some (.inl (nI (m))), some (.inl (nI (j)))], [], 0, 0, hb (sL L) F G R sO) Q := by
  intro n
  induction n with
  | zero =>
    intro x F hn hx k
    have e1 : x = 402 := by omega
    subst e1
    have eF : up2 F e 1 (nI (lead (G (e + 1)) 0 402)) = F := by
      funext i1 k1
      by_cases h : i1 = e ∧ k1 = 1
      · rw [h.1, h.2, up2_eq, hx]; rfl
      · rw [up2_ne h]
    rw [eF] at k
    refine pw_aload_n rfl rfl ?_
    refine px_getv (x := nI (402)) rfl rfl hA.1 rfl (hx) ?_
    refine pw_sipush (v := nI (402)) rfl (by decide) ?_
    refine pw_if2 (t := 64) rfl rfl (fun _ => ?_) (fun q => absurd q (by decide))
    exact pw_vret rfl rfl (Nat.zero_le _) (Nat.zero_le _) k
  | succ n ih =>
    intro x F hn hx k
    refine pw_aload_n rfl rfl ?_
    refine px_getv (x := nI (x)) rfl rfl hA.1 rfl (hx) ?_
    refine pw_sipush (v := nI (402)) rfl (by decide) ?_
    refine pw_if2p (cn_ge (by omega) (by omega)) rfl (t := 64) rfl (fun q => absurd q (by omega)) (fun _ => ?_)
    refine pw_aload_n rfl rfl ?_
    refine px_getr (r := some (e + 1)) rfl rfl hA.1 rfl hA.2.1 ?_
    refine pw_aload_n rfl rfl ?_
    refine px_getv (x := nI (x)) rfl rfl hA.1 rfl (hx) ?_
    refine px_zaldn (x := G (e + 1) (x)) rfl hA.2.2 (by omega) (by decide) (rfl) ?_
    refine pw_if1p (A := G (e + 1) (x) = 0) rfl rfl (t := 64) rfl (fun c1 => ?_) (fun c1 => ?_)
    · -- 64
      have eF : up2 F e 1 (nI (lead (G (e + 1)) (n + 1) x)) = F := by
        rw [lead_z c1]
        funext i1 k1
        by_cases h : i1 = e ∧ k1 = 1
        · rw [h.1, h.2, up2_eq, hx]
        · rw [up2_ne h]
      rw [eF] at k
      exact pw_vret rfl rfl (Nat.zero_le _) (Nat.zero_le _) k
    · -- 51
      refine pw_aload_n rfl rfl ?_
      refine pw_dup rfl ?_
      refine px_getv (x := nI (x)) rfl rfl hA.1 rfl (hx) ?_
      refine pw_iconst (v := nI (1)) rfl (by decide) ?_
      refine pw_iadd (z := nI (x + 1)) rfl (nI_add _ _) ?_
      refine px_put rfl rfl hA.1 rfl rfl ?_
      refine pw_goto (t := 29) rfl rfl ?_
      refine ih (x + 1) _ (by omega) up2_eq ?_
      rw [lead_s c1] at k
      have eF : up2 (up2 F e 1 (nI (x + 1))) e 1 (nI (lead (G (e + 1)) n (x + 1))) = up2 F e 1 (nI (lead (G (e + 1)) n (x + 1))) := by
        funext i1 k1
        by_cases h : i1 = e ∧ k1 = 1
        · rw [h.1, h.2, up2_eq, up2_eq]
        · rw [up2_ne h, up2_ne h, up2_ne h]
      rw [eF]
      exact k
def ctake_G (G : FN) (e a m : Nat) : FN := ctk e a m a G
def ctake_F (F G : FN) (e a m x : Nat) : FN := up2 F e 1 (nI (lead (ctk e a m a G (e + 1)) (402 - x) x))
theorem t_ctake {L e a m x : Nat} {F G : FN} {R : RN} (hA : arrok L e) (ham : a + m ≤ 402) (hx : F e 1 = nI x) (hx4 : x ≤ 402) {Q : Option PV → PH → Prop} (k : Q none (hb (sL L) (ctake_F F G e a m x) (ctake_G G e a m) R sO)) : pz pP mArrivals_take [.inr (some e), .inl (nI a), .inl (nI m)] (hb (sL L) F G R sO) Q := by
  show pw pP mArrivals_take (0, [some (.inr (some (e))), some (.inl (nI (a))), some (.inl (nI (m))), none], [], 0, 0, hb (sL L) F G R sO) _
  refine pw_iload_n rfl rfl ?_
  refine pw_istore_n (ls1 := [some (.inr (some (e))), some (.inl (nI (a))), some (.inl (nI (m))), some (.inl (nI (a)))]) rfl (Nat.le_of_ble_eq_true rfl) rfl ?_
  refine t_ctake_1 hA ham m a G (by omega) ?_
  exact t_ctake_2 hA (402 - x) x F (by omega) hx k
/-- a path stands at a -/
def pathok (L a : Nat) (R : RN) : Prop := (sL L)[a]? = some (2, 4, [1, 1, 1, 0, 0, 0, 0, 0, 0, 0, 0, 0, 0, 0], 0) ∧ (sO a 0 = some (a + 1) ∧ sO a 1 = some (a + 9) ∧ sO a 2 = some (a + 17)) ∧ pipeok L (a + 1) R ∧ pipeok L (a + 9) R ∧ (sL L)[a + 17]? = some (1, 6, [], 3) ∧ ∀ k, k < 3 → ∃ x, R (a + 17) k = some x ∧ (sL L)[x]? = some (2, 6, [0, 0, 0, 0, 0, 0], 0)
/-- Path_pipe -/
def cpipe0_r (a : Nat) : Option Nat := some (a + 1)
theorem t_cpipe0 {L a : Nat} {F G : FN} {R : RN} (hP : pathok L a R) {Q : Option PV → PH → Prop} (k : Q (some (.inr (cpipe0_r a))) (hb (sL L) F G R sO)) : pz pP mPath_pipe [.inr (some (a)), .inl (nI (0))] (hb (sL L) F G R sO) Q := by
  show pw pP mPath_pipe (0, [some (.inr (some (a))), some (.inl (nI (0)))], [], 0, 0, hb (sL L) F G R sO) _
  refine pw_iload_n rfl rfl ?_
  refine pw_if1 (t := 11) rfl rfl (fun _ => ?_) (fun q => absurd q (by decide))
  refine pw_aload_n rfl rfl ?_
  refine px_getr (r := some (a + 1)) rfl rfl hP.1 rfl hP.2.1.1 ?_
  exact pw_aret rfl rfl (Nat.zero_le _) (Nat.zero_le _) rfl k
/-- Path_pipe -/
def cpipe1_r (a : Nat) : Option Nat := some (a + 9)
theorem t_cpipe1 {L a : Nat} {F G : FN} {R : RN} (hP : pathok L a R) {Q : Option PV → PH → Prop} (k : Q (some (.inr (cpipe1_r a))) (hb (sL L) F G R sO)) : pz pP mPath_pipe [.inr (some (a)), .inl (nI (1))] (hb (sL L) F G R sO) Q := by
  show pw pP mPath_pipe (0, [some (.inr (some (a))), some (.inl (nI (1)))], [], 0, 0, hb (sL L) F G R sO) _
  refine pw_iload_n rfl rfl ?_
  refine pw_if1 (t := 11) rfl rfl (fun q => absurd q (by decide)) (fun _ => ?_)
  refine pw_aload_n rfl rfl ?_
  refine px_getr (r := some (a + 9)) rfl rfl hP.1 rfl hP.2.1.2.1 ?_
  refine pw_goto (t := 15) rfl rfl ?_
  exact pw_aret rfl rfl (Nat.zero_le _) (Nat.zero_le _) rfl k
theorem t_cdisp0_0 {L a : Nat} {t : Int32} {F G : FN} {R : RN} (hP : pathok L a R) (hd : F a 6 = 0) {Q : Option PV → PH → Prop} (k : Q (some (.inr none)) (hb (sL L) F G R sO)) : pz pP mPath_dispatch [.inr (some a), .inl (nI 0), .inl t] (hb (sL L) F G R sO) Q := by
  show pw pP mPath_dispatch (0, [some (.inr (some (a))), some (.inl (nI (0))), some (.inl (t))], [], 0, 0, hb (sL L) F G R sO) _
  refine pw_aload_n rfl rfl ?_
  refine px_getv (x := F (a) (6)) rfl rfl hP.1 rfl (rfl) ?_
  refine pw_if1p (A := ¬ F (a) (6) = 0) rfl rfl (t := 11) rfl (fun q => absurd q (fun h => h hd)) (fun _ => ?_)
  refine pw_null rfl ?_
  refine pw_goto (t := 25) rfl rfl ?_
  exact pw_aret rfl rfl (Nat.zero_le _) (Nat.zero_le _) rfl k
theorem t_cdisp0_6 {L a : Nat} {t : Int32} {F G : FN} {R : RN} (hP : pathok L a R) (hd : ¬ F a 6 = 0) (hsz : F (a + 1) 1 = nI 6) {Q : Option PV → PH → Prop} (k : Q (some (.inr none)) (hb (sL L) F G R sO)) : pz pP mPath_dispatch [.inr (some a), .inl (nI 0), .inl t] (hb (sL L) F G R sO) Q := by
  show pw pP mPath_dispatch (0, [some (.inr (some (a))), some (.inl (nI (0))), some (.inl (t))], [], 0, 0, hb (sL L) F G R sO) _
  refine pw_aload_n rfl rfl ?_
  refine px_getv (x := F (a) (6)) rfl rfl hP.1 rfl (rfl) ?_
  refine pw_if1p (A := ¬ F (a) (6) = 0) rfl rfl (t := 11) rfl (fun _ => ?_) (fun q => absurd hd q)
  refine pw_aload_n rfl rfl ?_
  refine pw_iload_n rfl rfl ?_
  refine px_callv (as := [.inr (some (a)), .inl (nI (0))]) (rest := []) rfl rfl (by decide) rfl (Nat.le_of_ble_eq_true rfl) (Nat.le_of_ble_eq_true rfl) (Nat.le_of_ble_eq_true rfl) (Nat.le_of_ble_eq_true rfl) rfl hP.1 rfl rfl ?_
  refine t_cpipe0 hP ?_
  show pw pP mPath_dispatch (16, [some (.inr (some (a))), some (.inl (nI (0))), some (.inl (t))], [.inr (some (a + 1))], 0, 0, hb (sL L) F G R sO) _
  refine pw_iload_n rfl rfl ?_
  refine pw_aload_n rfl rfl ?_
  refine px_getv (x := F (a) (6)) rfl rfl hP.1 rfl (rfl) ?_
  refine pw_iadd (z := t + (F (a) (6))) rfl rfl ?_
  refine px_callv (as := [.inr (some (a + 1)), .inl (t + (F (a) (6)))]) (rest := []) rfl rfl (by decide) rfl (Nat.le_of_ble_eq_true rfl) (Nat.le_of_ble_eq_true rfl) (Nat.le_of_ble_eq_true rfl) (Nat.le_of_ble_eq_true rfl) rfl hP.2.2.1.1 rfl rfl ?_
  refine t_append_no hP.2.2.1 hsz ?_
  show pw pP mPath_dispatch (25, [some (.inr (some (a))), some (.inl (nI (0))), some (.inl (t))], [.inr none], 0, 0, hb (sL L) F G R sO) _
  exact pw_aret rfl rfl (Nat.zero_le _) (Nat.zero_le _) rfl k
theorem t_cdisp0 {L a sz x : Nat} {t : Int32} {F G : FN} {R : RN} (hP : pathok L a R) (hd : ¬ F a 6 = 0) (hsz : F (a + 1) 1 = nI sz) (hs6 : sz < 6) (hx : R (a + 1 + 1) sz = some x) (hsx : (sL L)[x]? = some (2, 1, [0, 0, 0, 0, 0, 0], 0)) {Q : Option PV → PH → Prop} (k : Q (some (.inr (some x))) (hb (sL L) (append_F F (a + 1) x sz (t + F a 6)) G R sO)) : pz pP mPath_dispatch [.inr (some a), .inl (nI 0), .inl t] (hb (sL L) F G R sO) Q := by
  show pw pP mPath_dispatch (0, [some (.inr (some (a))), some (.inl (nI (0))), some (.inl (t))], [], 0, 0, hb (sL L) F G R sO) _
  refine pw_aload_n rfl rfl ?_
  refine px_getv (x := F (a) (6)) rfl rfl hP.1 rfl (rfl) ?_
  refine pw_if1p (A := ¬ F (a) (6) = 0) rfl rfl (t := 11) rfl (fun _ => ?_) (fun q => absurd hd q)
  refine pw_aload_n rfl rfl ?_
  refine pw_iload_n rfl rfl ?_
  refine px_callv (as := [.inr (some (a)), .inl (nI (0))]) (rest := []) rfl rfl (by decide) rfl (Nat.le_of_ble_eq_true rfl) (Nat.le_of_ble_eq_true rfl) (Nat.le_of_ble_eq_true rfl) (Nat.le_of_ble_eq_true rfl) rfl hP.1 rfl rfl ?_
  refine t_cpipe0 hP ?_
  show pw pP mPath_dispatch (16, [some (.inr (some (a))), some (.inl (nI (0))), some (.inl (t))], [.inr (some (a + 1))], 0, 0, hb (sL L) F G R sO) _
  refine pw_iload_n rfl rfl ?_
  refine pw_aload_n rfl rfl ?_
  refine px_getv (x := F (a) (6)) rfl rfl hP.1 rfl (rfl) ?_
  refine pw_iadd (z := t + (F (a) (6))) rfl rfl ?_
  refine px_callv (as := [.inr (some (a + 1)), .inl (t + (F (a) (6)))]) (rest := []) rfl rfl (by decide) rfl (Nat.le_of_ble_eq_true rfl) (Nat.le_of_ble_eq_true rfl) (Nat.le_of_ble_eq_true rfl) (Nat.le_of_ble_eq_true rfl) rfl hP.2.2.1.1 rfl rfl ?_
  refine t_append hP.2.2.1 hsz hs6 hx hsx ?_
  show pw pP mPath_dispatch (25, [some (.inr (some (a))), some (.inl (nI (0))), some (.inl (t))], [.inr (some (x))], 0, 0, hb (sL L) (append_F F (a + 1) x sz (t + F a 6)) G R sO) _
  exact pw_aret rfl rfl (Nat.zero_le _) (Nat.zero_le _) rfl k
theorem t_cdisp1_0 {L a : Nat} {t : Int32} {F G : FN} {R : RN} (hP : pathok L a R) (hd : F a 6 = 0) {Q : Option PV → PH → Prop} (k : Q (some (.inr none)) (hb (sL L) F G R sO)) : pz pP mPath_dispatch [.inr (some a), .inl (nI 1), .inl t] (hb (sL L) F G R sO) Q := by
  show pw pP mPath_dispatch (0, [some (.inr (some (a))), some (.inl (nI (1))), some (.inl (t))], [], 0, 0, hb (sL L) F G R sO) _
  refine pw_aload_n rfl rfl ?_
  refine px_getv (x := F (a) (6)) rfl rfl hP.1 rfl (rfl) ?_
  refine pw_if1p (A := ¬ F (a) (6) = 0) rfl rfl (t := 11) rfl (fun q => absurd q (fun h => h hd)) (fun _ => ?_)
  refine pw_null rfl ?_
  refine pw_goto (t := 25) rfl rfl ?_
  exact pw_aret rfl rfl (Nat.zero_le _) (Nat.zero_le _) rfl k
theorem t_cdisp1_6 {L a : Nat} {t : Int32} {F G : FN} {R : RN} (hP : pathok L a R) (hd : ¬ F a 6 = 0) (hsz : F (a + 9) 1 = nI 6) {Q : Option PV → PH → Prop} (k : Q (some (.inr none)) (hb (sL L) F G R sO)) : pz pP mPath_dispatch [.inr (some a), .inl (nI 1), .inl t] (hb (sL L) F G R sO) Q := by
  show pw pP mPath_dispatch (0, [some (.inr (some (a))), some (.inl (nI (1))), some (.inl (t))], [], 0, 0, hb (sL L) F G R sO) _
  refine pw_aload_n rfl rfl ?_
  refine px_getv (x := F (a) (6)) rfl rfl hP.1 rfl (rfl) ?_
  refine pw_if1p (A := ¬ F (a) (6) = 0) rfl rfl (t := 11) rfl (fun _ => ?_) (fun q => absurd hd q)
  refine pw_aload_n rfl rfl ?_
  refine pw_iload_n rfl rfl ?_
  refine px_callv (as := [.inr (some (a)), .inl (nI (1))]) (rest := []) rfl rfl (by decide) rfl (Nat.le_of_ble_eq_true rfl) (Nat.le_of_ble_eq_true rfl) (Nat.le_of_ble_eq_true rfl) (Nat.le_of_ble_eq_true rfl) rfl hP.1 rfl rfl ?_
  refine t_cpipe1 hP ?_
  show pw pP mPath_dispatch (16, [some (.inr (some (a))), some (.inl (nI (1))), some (.inl (t))], [.inr (some (a + 9))], 0, 0, hb (sL L) F G R sO) _
  refine pw_iload_n rfl rfl ?_
  refine pw_aload_n rfl rfl ?_
  refine px_getv (x := F (a) (6)) rfl rfl hP.1 rfl (rfl) ?_
  refine pw_iadd (z := t + (F (a) (6))) rfl rfl ?_
  refine px_callv (as := [.inr (some (a + 9)), .inl (t + (F (a) (6)))]) (rest := []) rfl rfl (by decide) rfl (Nat.le_of_ble_eq_true rfl) (Nat.le_of_ble_eq_true rfl) (Nat.le_of_ble_eq_true rfl) (Nat.le_of_ble_eq_true rfl) rfl hP.2.2.2.1.1 rfl rfl ?_
  refine t_append_no hP.2.2.2.1 hsz ?_
  show pw pP mPath_dispatch (25, [some (.inr (some (a))), some (.inl (nI (1))), some (.inl (t))], [.inr none], 0, 0, hb (sL L) F G R sO) _
  exact pw_aret rfl rfl (Nat.zero_le _) (Nat.zero_le _) rfl k
theorem t_cdisp1 {L a sz x : Nat} {t : Int32} {F G : FN} {R : RN} (hP : pathok L a R) (hd : ¬ F a 6 = 0) (hsz : F (a + 9) 1 = nI sz) (hs6 : sz < 6) (hx : R (a + 9 + 1) sz = some x) (hsx : (sL L)[x]? = some (2, 1, [0, 0, 0, 0, 0, 0], 0)) {Q : Option PV → PH → Prop} (k : Q (some (.inr (some x))) (hb (sL L) (append_F F (a + 9) x sz (t + F a 6)) G R sO)) : pz pP mPath_dispatch [.inr (some a), .inl (nI 1), .inl t] (hb (sL L) F G R sO) Q := by
  show pw pP mPath_dispatch (0, [some (.inr (some (a))), some (.inl (nI (1))), some (.inl (t))], [], 0, 0, hb (sL L) F G R sO) _
  refine pw_aload_n rfl rfl ?_
  refine px_getv (x := F (a) (6)) rfl rfl hP.1 rfl (rfl) ?_
  refine pw_if1p (A := ¬ F (a) (6) = 0) rfl rfl (t := 11) rfl (fun _ => ?_) (fun q => absurd hd q)
  refine pw_aload_n rfl rfl ?_
  refine pw_iload_n rfl rfl ?_
  refine px_callv (as := [.inr (some (a)), .inl (nI (1))]) (rest := []) rfl rfl (by decide) rfl (Nat.le_of_ble_eq_true rfl) (Nat.le_of_ble_eq_true rfl) (Nat.le_of_ble_eq_true rfl) (Nat.le_of_ble_eq_true rfl) rfl hP.1 rfl rfl ?_
  refine t_cpipe1 hP ?_
  show pw pP mPath_dispatch (16, [some (.inr (some (a))), some (.inl (nI (1))), some (.inl (t))], [.inr (some (a + 9))], 0, 0, hb (sL L) F G R sO) _
  refine pw_iload_n rfl rfl ?_
  refine pw_aload_n rfl rfl ?_
  refine px_getv (x := F (a) (6)) rfl rfl hP.1 rfl (rfl) ?_
  refine pw_iadd (z := t + (F (a) (6))) rfl rfl ?_
  refine px_callv (as := [.inr (some (a + 9)), .inl (t + (F (a) (6)))]) (rest := []) rfl rfl (by decide) rfl (Nat.le_of_ble_eq_true rfl) (Nat.le_of_ble_eq_true rfl) (Nat.le_of_ble_eq_true rfl) (Nat.le_of_ble_eq_true rfl) rfl hP.2.2.2.1.1 rfl rfl ?_
  refine t_append hP.2.2.2.1 hsz hs6 hx hsx ?_
  show pw pP mPath_dispatch (25, [some (.inr (some (a))), some (.inl (nI (1))), some (.inl (t))], [.inr (some (x))], 0, 0, hb (sL L) (append_F F (a + 9) x sz (t + F a 6)) G R sO) _
  exact pw_aret rfl rfl (Nat.zero_le _) (Nat.zero_le _) rfl k
/-- Path_hasRoom -/
def croom_r (sc : Nat) : Int32 := (if 3 ≤ sc then nI (0) else nI (1))
theorem t_croom {L a sc : Nat} {F G : FN} {R : RN} (hP : pathok L a R) (hsc : F a 3 = nI sc) (hs3 : sc ≤ 3) {Q : Option PV → PH → Prop} (k : Q (some (.inl (croom_r sc))) (hb (sL L) F G R sO)) : pz pP mPath_hasRoom [.inr (some (a))] (hb (sL L) F G R sO) Q := by
  show pw pP mPath_hasRoom (0, [some (.inr (some (a)))], [], 0, 0, hb (sL L) F G R sO) _
  refine pw_aload_n rfl rfl ?_
  refine px_getv (x := nI (sc)) rfl rfl hP.1 rfl (hsc) ?_
  refine pw_iconst (v := nI (3)) rfl (by decide) ?_
  refine pw_if2p (cn_ge (by omega) (by omega)) rfl (t := 12) rfl (fun c1 => ?_) (fun c1 => ?_)
  · -- 12
    refine pw_iconst (v := nI (0)) rfl (by decide) ?_
    exact pw_iret rfl rfl (Nat.zero_le _) (Nat.zero_le _) rfl (by simp only [croom_r, c1, if_true, if_false] at k; exact k)
  · -- 8
    refine pw_iconst (v := nI (1)) rfl (by decide) ?_
    refine pw_goto (t := 13) rfl rfl ?_
    exact pw_iret rfl rfl (Nat.zero_le _) (Nat.zero_le _) rfl (by simp only [croom_r, c1, if_true, if_false] at k; exact k)
/-- Path_hasRoom -/
def croomy_r (sc : Nat) : Int32 := nI (1)
theorem t_croomy {L a sc : Nat} {F G : FN} {R : RN} (hP : pathok L a R) (hsc : F a 3 = nI sc) (hs3 : sc < 3) {Q : Option PV → PH → Prop} (k : Q (some (.inl (croomy_r sc))) (hb (sL L) F G R sO)) : pz pP mPath_hasRoom [.inr (some (a))] (hb (sL L) F G R sO) Q := by
  show pw pP mPath_hasRoom (0, [some (.inr (some (a)))], [], 0, 0, hb (sL L) F G R sO) _
  refine pw_aload_n rfl rfl ?_
  refine px_getv (x := nI (sc)) rfl rfl hP.1 rfl (hsc) ?_
  refine pw_iconst (v := nI (3)) rfl (by decide) ?_
  refine pw_if2p (cn_ge (by omega) (by omega)) rfl (t := 12) rfl (fun q => absurd q (by omega)) (fun _ => ?_)
  refine pw_iconst (v := nI (1)) rfl (by decide) ?_
  refine pw_goto (t := 13) rfl rfl ?_
  exact pw_iret rfl rfl (Nat.zero_le _) (Nat.zero_le _) rfl k
/-- Path_addSegment -/
def cadd_r (F : FN) (a x sc hi m u un : Nat) : Option Nat := some (x)
/-- Path_addSegment -/
def cadd_F (F : FN) (a x sc hi m u un : Nat) : FN := (up2 (up2 (up2 (up2 (up2 (up2 (up2 F (x) (0) (nI (hi))) (x) (1) (nI (m))) (x) (2) (nI (u))) (x) (3) (nI (un))) (x) (5) (nI (0))) (a) (3) (nI (sc + 1))) (a) (4) (nI (hi + m)))
theorem t_cadd {L a sc hi x m u un : Nat} {F G : FN} {R : RN} (hP : pathok L a R) (hsc : F a 3 = nI sc) (hs3 : sc < 3) (hhi : F a 4 = nI hi) (hx : R (a + 17) sc = some x) (hsx : (sL L)[x]? = some (2, 6, [0, 0, 0, 0, 0, 0], 0)) (hxr : a + 18 ≤ x ∧ x ≤ a + 20) {Q : Option PV → PH → Prop} (k : Q (some (.inr (cadd_r F a x sc hi m u un))) (hb (sL L) (cadd_F F a x sc hi m u un) G R sO)) : pz pP mPath_addSegment [.inr (some (a)), .inl (nI (m)), .inl (nI (u)), .inl (nI (un))] (hb (sL L) F G R sO) Q := by
  show pw pP mPath_addSegment (0, [some (.inr (some (a))), some (.inl (nI (m))), some (.inl (nI (u))), some (.inl (nI (un))), none], [], 0, 0, hb (sL L) F G R sO) _
  refine pw_aload_n rfl rfl ?_
  refine px_callv (as := [.inr (some (a))]) (rest := []) rfl rfl (by decide) rfl (Nat.le_of_ble_eq_true rfl) (Nat.le_of_ble_eq_true rfl) (Nat.le_of_ble_eq_true rfl) (Nat.le_of_ble_eq_true rfl) rfl hP.1 rfl rfl ?_
  refine t_croomy hP hsc hs3 ?_
  show pw pP mPath_addSegment (4, [some (.inr (some (a))), some (.inl (nI (m))), some (.inl (nI (u))), some (.inl (nI (un))), none], [.inl (nI (1))], 0, 0, hb (sL L) F G R sO) _
  refine pw_if1 (t := 9) rfl rfl (fun _ => ?_) (fun q => absurd q (by decide))
  refine pw_aload_n rfl rfl ?_
  refine px_getr (r := some (a + 17)) rfl rfl hP.1 rfl hP.2.1.2.2 ?_
  refine pw_aload_n rfl rfl ?_
  refine px_getv (x := nI (sc)) rfl rfl hP.1 rfl (hsc) ?_
  refine px_aaldn (r := (some (x))) rfl hP.2.2.2.2.1 rfl (by omega) (by decide) (hx) ?_
  refine pw_astore (ls1 := [some (.inr (some (a))), some (.inl (nI (m))), some (.inl (nI (u))), some (.inl (nI (un))), some (.inr (some (x)))]) rfl (Nat.le_of_ble_eq_true rfl) rfl ?_
  refine pw_aload rfl rfl ?_
  refine pw_aload_n rfl rfl ?_
  refine px_getv (x := nI (hi)) rfl rfl hP.1 rfl (hhi) ?_
  refine pw_iload_n rfl rfl ?_
  refine pw_iload_n rfl rfl ?_
  refine pw_iload_n rfl rfl ?_
  refine px_callv (as := [.inr (some (x)), .inl (nI (hi)), .inl (nI (m)), .inl (nI (u)), .inl (nI (un))]) (rest := []) rfl rfl (by decide) rfl (Nat.le_of_ble_eq_true rfl) (Nat.le_of_ble_eq_true rfl) (Nat.le_of_ble_eq_true rfl) (Nat.le_of_ble_eq_true rfl) rfl hsx rfl rfl ?_
  refine t_sfill hsx ?_
  show pw pP mPath_addSegment (32, [some (.inr (some (a))), some (.inl (nI (m))), some (.inl (nI (u))), some (.inl (nI (un))), some (.inr (some (x)))], [], 0, 0, hb (sL L) (up2 (up2 (up2 (up2 (up2 F (x) (0) (nI (hi))) (x) (1) (nI (m))) (x) (2) (nI (u))) (x) (3) (nI (un))) (x) (5) (nI (0))) G R sO) _
  refine pw_aload_n rfl rfl ?_
  refine pw_dup rfl ?_
  refine px_getv (x := nI (sc)) rfl rfl hP.1 rfl (((up2_ne (by omega)).trans ((up2_ne (by omega)).trans ((up2_ne (by omega)).trans ((up2_ne (by omega)).trans (up2_ne (by omega)))))).trans (hsc)) ?_
  refine pw_iconst (v := nI (1)) rfl (by decide) ?_
  refine pw_iadd (z := nI (sc + 1)) rfl (nI_add _ _) ?_
  refine px_put rfl rfl hP.1 rfl rfl ?_
  refine pw_aload_n rfl rfl ?_
  refine pw_dup rfl ?_
  refine px_getv (x := nI (hi)) rfl rfl hP.1 rfl (((up2_ne2 (by decide)).trans ((up2_ne (by omega)).trans ((up2_ne (by omega)).trans ((up2_ne (by omega)).trans ((up2_ne (by omega)).trans (up2_ne (by omega))))))).trans (hhi)) ?_
  refine pw_iload_n rfl rfl ?_
  refine pw_iadd (z := nI (hi + m)) rfl (nI_add _ _) ?_
  refine px_put rfl rfl hP.1 rfl rfl ?_
  refine pw_aload rfl rfl ?_
  exact pw_aret rfl rfl (Nat.zero_le _) (Nat.zero_le _) rfl k
def sro (a : Nat) : Nat → Nat → RN → RN
  | 0, _, R => R
  | n + 1, j, R => sro a n (j + 1) (up2 R (a + 17) (j - 1) (R (a + 17) j))
theorem pathok_up {L a j x : Nat} {R : RN} (h : pathok L a R) (hx : (sL L)[x]? = some (2, 6, [0, 0, 0, 0, 0, 0], 0)) : pathok L a (up2 R (a + 17) j (some x)) := by
  refine ⟨h.1, h.2.1, ⟨h.2.2.1.1, h.2.2.1.2.1, h.2.2.1.2.2.1, fun k hk => ?_⟩, ⟨h.2.2.2.1.1, h.2.2.2.1.2.1, h.2.2.2.1.2.2.1, fun k hk => ?_⟩, h.2.2.2.2.1, fun k hk => ?_⟩
  · obtain ⟨y, h1, h2⟩ := h.2.2.1.2.2.2 k hk
    exact ⟨y, (up2_ne1 (by omega)).trans h1, h2⟩
  · obtain ⟨y, h1, h2⟩ := h.2.2.2.1.2.2.2 k hk
    exact ⟨y, (up2_ne1 (by omega)).trans h1, h2⟩
  · by_cases e1 : k = j
    · subst e1
      exact ⟨x, up2_eq, hx⟩
    · obtain ⟨y, h1, h2⟩ := h.2.2.2.2.2 k hk
      exact ⟨y, (up2_ne2 e1).trans h1, h2⟩
theorem sro_ok {L a : Nat} : ∀ (n j : Nat) (R : RN), j + n ≤ 3 → pathok L a R → pathok L a (sro a n j R)
  | 0, _, _, _, h => h
  | n + 1, j, R, hn, h => by
    obtain ⟨x, h1, h2⟩ := h.2.2.2.2.2 j (by omega)
    refine sro_ok n (j + 1) _ (by omega) ?_
    rw [h1]
    exact pathok_up h h2
theorem t_cbel_lp {L a sc x0 : Nat} {lm : Int32} {F G : FN} {Q : Option PV → PH → Prop} (hsc : F a 3 = nI sc) (hs3 : sc ≤ 3) : ∀ (n j : Nat) (R : RN), j + n = sc → 1 ≤ j → pathok L a R → pw pP mPath_takeBelow (69, [some (.inr (some (a))), some (.inl (lm)), some (.inr (some (x0))), some (.inl (nI (sc)))], [], 0, 0, hb (sL L) F G (sro a n j R) sO) Q → pw pP mPath_takeBelow (41, [some (.inr (some (a))), some (.inl (lm)), some (.inr (some (x0))), some (.inl (nI (j)))], [], 0, 0, hb (sL L) F G R sO) Q := by
  intro n
  induction n with
  | zero =>
    intro j R hn hj hP k
    have e1 : sc = j := by omega
    subst e1
    refine pw_iload_n rfl rfl ?_
    refine pw_aload_n rfl rfl ?_
    refine px_getv (x := nI (sc)) rfl rfl hP.1 rfl (hsc) ?_
    refine pw_if2p (cn_ge (by omega) (by omega)) rfl (t := 69) rfl (fun c1 => ?_) (fun c1 => ?_)
    · -- 69
      exact k
    · -- 49
      exact absurd c1 (by omega)
  | succ n ih =>
    intro j R hn hj hP k
    obtain ⟨x, hx, hsx⟩ := hP.2.2.2.2.2 j (by omega)
    refine pw_iload_n rfl rfl ?_
    refine pw_aload_n rfl rfl ?_
    refine px_getv (x := nI (sc)) rfl rfl hP.1 rfl (hsc) ?_
    refine pw_if2p (cn_ge (by omega) (by omega)) rfl (t := 69) rfl (fun c1 => ?_) (fun c1 => ?_)
    · -- 69
      exact absurd c1 (by omega)
    · -- 49
      refine pw_aload_n rfl rfl ?_
      refine px_getr (r := some (a + 17)) rfl rfl hP.1 rfl hP.2.1.2.2 ?_
      refine pw_iload_n rfl rfl ?_
      refine pw_iconst (v := nI (1)) rfl (by decide) ?_
      refine pw_isub (z := nI (j - 1)) rfl (pk_sub (by omega)) ?_
      refine pw_aload_n rfl rfl ?_
      refine px_getr (r := some (a + 17)) rfl rfl hP.1 rfl hP.2.1.2.2 ?_
      refine pw_iload_n rfl rfl ?_
      refine px_aaldn (r := (some (x))) rfl hP.2.2.2.2.1 rfl (by omega) (by decide) (hx) ?_
      refine px_aastn rfl hP.2.2.2.2.1 hsx rfl (by omega) (by decide) ?_
      refine pw_iinc (v := nI (j + 1)) (ls1 := [some (.inr (some (a))), some (.inl (lm)), some (.inr (some (x0))), some (.inl (nI (j + 1)))]) rfl rfl (iinc_n _) rfl ?_
      refine pw_goto (t := 41) rfl rfl ?_
      exact ih (j + 1) _ (by omega) (by omega) (pathok_up hP hsx) (by simp only [sro, hx] at k; exact k)
def cbel_F (F : FN) (a sc : Nat) : FN := up2 F a 3 (nI (sc - 1))
def cbel_R (R : RN) (a sc x0 : Nat) : RN := up2 (sro a (sc - 1) 1 R) (a + 17) (sc - 1) (some x0)
theorem t_cbel {L a sc x0 nu m : Nat} {F G : FN} {R : RN} (hP : pathok L a R) (hsc : F a 3 = nI sc) (hs3 : sc ≤ 3) (hc : 0 < sc) (hx0 : R (a + 17) 0 = some x0) (hs0 : (sL L)[x0]? = some (2, 6, [0, 0, 0, 0, 0, 0], 0)) (hn0 : F x0 0 = nI nu) (hm0 : F x0 1 = nI m) (hb0 : nu + m < 2 ^ 30) {lm : Nat} (hlm : lm < 2 ^ 30) (hle : nu + m ≤ lm) {Q : Option PV → PH → Prop} (k : Q (some (.inr (some x0))) (hb (sL L) (cbel_F F a sc) G (cbel_R R a sc x0) sO)) : pz pP mPath_takeBelow [.inr (some a), .inl (nI lm)] (hb (sL L) F G R sO) Q := by
  show pw pP mPath_takeBelow (0, [some (.inr (some (a))), some (.inl (nI (lm))), none, none], [], 0, 0, hb (sL L) F G R sO) _
  refine pw_aload_n rfl rfl ?_
  refine px_getv (x := nI (sc)) rfl rfl hP.1 rfl (hsc) ?_
  refine pw_if1p (cz_eq (by omega)) rfl (t := 30) rfl (fun q => absurd q (by omega)) (fun _ => ?_)
  refine pw_aload_n rfl rfl ?_
  refine px_getr (r := some (a + 17)) rfl rfl hP.1 rfl hP.2.1.2.2 ?_
  refine pw_iconst (v := nI (0)) rfl (by decide) ?_
  refine px_aaldn (r := (some (x0))) rfl hP.2.2.2.2.1 rfl (by omega) (by decide) (hx0) ?_
  refine px_getv (x := nI (nu)) rfl rfl hs0 rfl (hn0) ?_
  refine pw_aload_n rfl rfl ?_
  refine px_getr (r := some (a + 17)) rfl rfl hP.1 rfl hP.2.1.2.2 ?_
  refine pw_iconst (v := nI (0)) rfl (by decide) ?_
  refine px_aaldn (r := (some (x0))) rfl hP.2.2.2.2.1 rfl (by omega) (by decide) (hx0) ?_
  refine px_getv (x := nI (m)) rfl rfl hs0 rfl (hm0) ?_
  refine pw_iadd (z := nI (nu + m)) rfl (nI_add _ _) ?_
  refine pw_iload_n rfl rfl ?_
  refine pw_if2p (cn_le (by omega) (by omega)) rfl (t := 32) rfl (fun _ => ?_) (fun q => absurd hle q)
  refine pw_aload_n rfl rfl ?_
  refine px_getr (r := some (a + 17)) rfl rfl hP.1 rfl hP.2.1.2.2 ?_
  refine pw_iconst (v := nI (0)) rfl (by decide) ?_
  refine px_aaldn (r := (some (x0))) rfl hP.2.2.2.2.1 rfl (by omega) (by decide) (hx0) ?_
  refine pw_astore_n (ls1 := [some (.inr (some (a))), some (.inl (nI (lm))), some (.inr (some (x0))), none]) rfl (Nat.le_of_ble_eq_true rfl) rfl ?_
  refine pw_iconst (v := nI (1)) rfl (by decide) ?_
  refine pw_istore_n (ls1 := [some (.inr (some (a))), some (.inl (nI (lm))), some (.inr (some (x0))), some (.inl (nI (1)))]) rfl (Nat.le_of_ble_eq_true rfl) rfl ?_
  refine t_cbel_lp hsc hs3 (sc - 1) 1 R (by omega) (by omega) hP ?_
  have hP := sro_ok (sc - 1) 1 R (by omega) hP
  refine pw_aload_n rfl rfl ?_
  refine pw_dup rfl ?_
  refine px_getv (x := nI (sc)) rfl rfl hP.1 rfl (hsc) ?_
  refine pw_iconst (v := nI (1)) rfl (by decide) ?_
  refine pw_isub (z := nI (sc - 1)) rfl (pk_sub (by omega)) ?_
  refine px_put rfl rfl hP.1 rfl rfl ?_
  refine pw_aload_n rfl rfl ?_
  refine px_getr (r := some (a + 17)) rfl rfl hP.1 rfl hP.2.1.2.2 ?_
  refine pw_aload_n rfl rfl ?_
  refine px_getv (x := nI (sc - 1)) rfl rfl hP.1 rfl (up2_eq) ?_
  refine pw_aload_n rfl rfl ?_
  refine px_aastn rfl hP.2.2.2.2.1 hs0 rfl (by omega) (by decide) ?_
  refine pw_aload_n rfl rfl ?_
  exact pw_aret rfl rfl (Nat.zero_le _) (Nat.zero_le _) rfl k
theorem t_cbel_no {L a sc x0 nu m : Nat} {F G : FN} {R : RN} (hP : pathok L a R) (hsc : F a 3 = nI sc) (hs3 : sc ≤ 3) (hc : 0 < sc) (hx0 : R (a + 17) 0 = some x0) (hs0 : (sL L)[x0]? = some (2, 6, [0, 0, 0, 0, 0, 0], 0)) (hn0 : F x0 0 = nI nu) (hm0 : F x0 1 = nI m) (hb0 : nu + m < 2 ^ 30) {lm : Nat} (hlm : lm < 2 ^ 30) (hle : ¬ nu + m ≤ lm) {Q : Option PV → PH → Prop} (k : Q (some (.inr none)) (hb (sL L) F G R sO)) : pz pP mPath_takeBelow [.inr (some a), .inl (nI lm)] (hb (sL L) F G R sO) Q := by
  show pw pP mPath_takeBelow (0, [some (.inr (some (a))), some (.inl (nI (lm))), none, none], [], 0, 0, hb (sL L) F G R sO) _
  refine pw_aload_n rfl rfl ?_
  refine px_getv (x := nI (sc)) rfl rfl hP.1 rfl (hsc) ?_
  refine pw_if1p (cz_eq (by omega)) rfl (t := 30) rfl (fun q => absurd q (by omega)) (fun _ => ?_)
  refine pw_aload_n rfl rfl ?_
  refine px_getr (r := some (a + 17)) rfl rfl hP.1 rfl hP.2.1.2.2 ?_
  refine pw_iconst (v := nI (0)) rfl (by decide) ?_
  refine px_aaldn (r := (some (x0))) rfl hP.2.2.2.2.1 rfl (by omega) (by decide) (hx0) ?_
  refine px_getv (x := nI (nu)) rfl rfl hs0 rfl (hn0) ?_
  refine pw_aload_n rfl rfl ?_
  refine px_getr (r := some (a + 17)) rfl rfl hP.1 rfl hP.2.1.2.2 ?_
  refine pw_iconst (v := nI (0)) rfl (by decide) ?_
  refine px_aaldn (r := (some (x0))) rfl hP.2.2.2.2.1 rfl (by omega) (by decide) (hx0) ?_
  refine px_getv (x := nI (m)) rfl rfl hs0 rfl (hm0) ?_
  refine pw_iadd (z := nI (nu + m)) rfl (nI_add _ _) ?_
  refine pw_iload_n rfl rfl ?_
  refine pw_if2p (cn_le (by omega) (by omega)) rfl (t := 32) rfl (fun q => absurd q hle) (fun _ => ?_)
  refine pw_null rfl ?_
  exact pw_aret rfl rfl (Nat.zero_le _) (Nat.zero_le _) rfl k
theorem t_cbel_0 {L a : Nat} {lm : Int32} {F G : FN} {R : RN} (hP : pathok L a R) (hsc : F a 3 = nI 0) {Q : Option PV → PH → Prop} (k : Q (some (.inr none)) (hb (sL L) F G R sO)) : pz pP mPath_takeBelow [.inr (some a), .inl lm] (hb (sL L) F G R sO) Q := by
  show pw pP mPath_takeBelow (0, [some (.inr (some (a))), some (.inl (lm)), none, none], [], 0, 0, hb (sL L) F G R sO) _
  refine pw_aload_n rfl rfl ?_
  refine px_getv (x := nI (0)) rfl rfl hP.1 rfl (hsc) ?_
  refine pw_if1 (t := 30) rfl rfl (fun _ => ?_) (fun q => absurd q (by decide))
  refine pw_null rfl ?_
  exact pw_aret rfl rfl (Nat.zero_le _) (Nat.zero_le _) rfl k
/-- one of the segments bears the unit -/
def cov (su sn : Nat → Nat) (u : Nat) : Nat → Nat → Bool
  | 0, _ => false
  | n + 1, j => if su j ≤ u then (if u < su j + sn j then true else cov su sn u n (j + 1)) else cov su sn u n (j + 1)
theorem t_cbears_lp {L a sc u : Nat} {F G : FN} {R : RN} (hP : pathok L a R) (hsc : F a 3 = nI sc) (hs3 : sc ≤ 3) {su sn : Nat → Nat} (hsu : ∀ j, j < sc → F (rx R (a + 17) j) 2 = nI (su j)) (hsn : ∀ j, j < sc → F (rx R (a + 17) j) 3 = nI (sn j)) (hsb : ∀ j, j < sc → su j + sn j < 2 ^ 30) (hu : u < 2 ^ 30) {Q : Option PV → PH → Prop} : ∀ (n j : Nat) (o3 : Option PV), j + n = sc → Q (some (.inl (bI (cov su sn u n j = true)))) (hb (sL L) F G R sO) → pw pP mPath_bears (2, [some (.inr (some (a))), some (.inl (nI (u))), some (.inl (nI (j))), o3], [], 0, 0, hb (sL L) F G R sO) Q := by
  intro n
  induction n with
  | zero =>
    intro j o3 hn k
    have e1 : sc = j := by omega
    subst e1
    refine pw_iload_n rfl rfl ?_
    refine pw_aload_n rfl rfl ?_
    refine px_getv (x := nI (sc)) rfl rfl hP.1 rfl (hsc) ?_
    refine pw_if2p (cn_ge (by omega) (by omega)) rfl (t := 46) rfl (fun _ => ?_) (fun q => absurd (Nat.le_refl _) q)
    refine pw_iconst (v := nI (0)) rfl (by decide) ?_
    exact pw_iret rfl rfl (Nat.zero_le _) (Nat.zero_le _) rfl k
  | succ n ih =>
    intro j o3 hn k
    obtain ⟨x, hx, hsx⟩ := hP.2.2.2.2.2 j (by omega)
    have hr : rx R (a + 17) j = x := by rw [rx, hx]; rfl
    have hu2 := hsu j (by omega)
    have hn2 := hsn j (by omega)
    have hb2 := hsb j (by omega)
    rw [hr] at hu2 hn2
    refine pw_iload_n rfl rfl ?_
    refine pw_aload_n rfl rfl ?_
    refine px_getv (x := nI (sc)) rfl rfl hP.1 rfl (hsc) ?_
    refine pw_if2p (cn_ge (by omega) (by omega)) rfl (t := 46) rfl (fun q => absurd q (by omega)) (fun _ => ?_)
    refine pw_aload_n rfl rfl ?_
    refine px_getr (r := some (a + 17)) rfl rfl hP.1 rfl hP.2.1.2.2 ?_
    refine pw_iload_n rfl rfl ?_
    refine px_aaldn (r := (some (x))) rfl hP.2.2.2.2.1 rfl (by omega) (by decide) (hx) ?_
    refine pw_astore_n (ls1 := [some (.inr (some (a))), some (.inl (nI (u))), some (.inl (nI (j))), some (.inr (some (x)))]) rfl (Nat.le_of_ble_eq_true rfl) rfl ?_
    refine pw_iload_n rfl rfl ?_
    refine pw_aload_n rfl rfl ?_
    refine px_getv (x := nI (su j)) rfl rfl hsx rfl (hu2) ?_
    refine pw_if2p (cn_lt (by omega) (by omega)) rfl (t := 40) rfl (fun c1 => ?_) (fun c1 => ?_)
    · -- 40
      refine pw_iinc (v := nI (j + 1)) (ls1 := [some (.inr (some (a))), some (.inl (nI (u))), some (.inl (nI (j + 1))), some (.inr (some (x)))]) rfl rfl (iinc_n _) rfl ?_
      refine pw_goto (t := 2) rfl rfl ?_
      simp only [cov, show (su j ≤ u) = False from eq_false (Nat.not_le.mpr c1), if_true, if_false] at k
      exact ih (j + 1) _ (by omega) k
    · -- 25
      refine pw_iload_n rfl rfl ?_
      refine pw_aload_n rfl rfl ?_
      refine px_getv (x := nI (su j)) rfl rfl hsx rfl (hu2) ?_
      refine pw_aload_n rfl rfl ?_
      refine px_getv (x := nI (sn j)) rfl rfl hsx rfl (hn2) ?_
      refine pw_iadd (z := nI (su j + (sn j))) rfl (nI_add _ _) ?_
      refine pw_if2p (cn_ge (by omega) (by omega)) rfl (t := 40) rfl (fun c2 => ?_) (fun c2 => ?_)
      · -- 40
        refine pw_iinc (v := nI (j + 1)) (ls1 := [some (.inr (some (a))), some (.inl (nI (u))), some (.inl (nI (j + 1))), some (.inr (some (x)))]) rfl rfl (iinc_n _) rfl ?_
        refine pw_goto (t := 2) rfl rfl ?_
        simp only [cov, show (su j ≤ u) = True from eq_true (Nat.not_lt.mp c1), show (u < su j + sn j) = False from eq_false (Nat.not_lt.mpr c2), if_true, if_false] at k
        exact ih (j + 1) _ (by omega) k
      · -- 38
        refine pw_iconst (v := nI (1)) rfl (by decide) ?_
        simp only [cov, show (su j ≤ u) = True from eq_true (Nat.not_lt.mp c1), show (u < su j + sn j) = True from eq_true (Nat.not_le.mp c2), if_true, if_false] at k
        rw [bI_t trivial] at k
        exact pw_iret rfl rfl (Nat.zero_le _) (Nat.zero_le _) rfl k
theorem t_cbears {L a sc u : Nat} {F G : FN} {R : RN} (hP : pathok L a R) (hsc : F a 3 = nI sc) (hs3 : sc ≤ 3) {su sn : Nat → Nat} (hsu : ∀ j, j < sc → F (rx R (a + 17) j) 2 = nI (su j)) (hsn : ∀ j, j < sc → F (rx R (a + 17) j) 3 = nI (sn j)) (hsb : ∀ j, j < sc → su j + sn j < 2 ^ 30) (hu : u < 2 ^ 30) {Q : Option PV → PH → Prop} (k : Q (some (.inl (bI (cov su sn u sc 0 = true)))) (hb (sL L) F G R sO)) : pz pP mPath_bears [.inr (some a), .inl (nI u)] (hb (sL L) F G R sO) Q := by
  show pw pP mPath_bears (0, [some (.inr (some (a))), some (.inl (nI (u))), none, none], [], 0, 0, hb (sL L) F G R sO) _
  refine pw_iconst (v := nI (0)) rfl (by decide) ?_
  refine pw_istore_n (ls1 := [some (.inr (some (a))), some (.inl (nI (u))), some (.inl (nI (0))), none]) rfl (Nat.le_of_ble_eq_true rfl) rfl ?_
  exact t_cbears_lp hP hsc hs3 hsu hsn hsb hu sc 0 _ (by omega) k
def csm (nm : Nat → Nat) : Nat → Nat → Nat → Nat
  | 0, _, s => s
  | n + 1, j, s => csm nm n (j + 1) (s + nm j)
theorem t_cun_lp {L a sc : Nat} {F G : FN} {R : RN} (hP : pathok L a R) (hsc : F a 3 = nI sc) (hs3 : sc ≤ 3) {nm : Nat → Nat} (hnm : ∀ j, j < sc → F (rx R (a + 17) j) 1 = nI (nm j)) {Q : Option PV → PH → Prop} : ∀ (n j s : Nat), j + n = sc → Q (some (.inl (nI (csm nm n j s)))) (hb (sL L) F G R sO) → pw pP mPath_unackedNumbers (4, [some (.inr (some (a))), some (.inl (nI (s))), some (.inl (nI (j)))], [], 0, 0, hb (sL L) F G R sO) Q := by
  intro n
  induction n with
  | zero =>
    intro j s hn k
    have e1 : sc = j := by omega
    subst e1
    refine pw_iload_n rfl rfl ?_
    refine pw_aload_n rfl rfl ?_
    refine px_getv (x := nI (sc)) rfl rfl hP.1 rfl (hsc) ?_
    refine pw_if2p (cn_ge (by omega) (by omega)) rfl (t := 30) rfl (fun _ => ?_) (fun q => absurd (Nat.le_refl _) q)
    refine pw_iload_n rfl rfl ?_
    exact pw_iret rfl rfl (Nat.zero_le _) (Nat.zero_le _) rfl k
  | succ n ih =>
    intro j s hn k
    obtain ⟨x, hx, hsx⟩ := hP.2.2.2.2.2 j (by omega)
    have hr : rx R (a + 17) j = x := by rw [rx, hx]; rfl
    have hn2 := hnm j (by omega)
    rw [hr] at hn2
    refine pw_iload_n rfl rfl ?_
    refine pw_aload_n rfl rfl ?_
    refine px_getv (x := nI (sc)) rfl rfl hP.1 rfl (hsc) ?_
    refine pw_if2p (cn_ge (by omega) (by omega)) rfl (t := 30) rfl (fun q => absurd q (by omega)) (fun _ => ?_)
    refine pw_iload_n rfl rfl ?_
    refine pw_aload_n rfl rfl ?_
    refine px_getr (r := some (a + 17)) rfl rfl hP.1 rfl hP.2.1.2.2 ?_
    refine pw_iload_n rfl rfl ?_
    refine px_aaldn (r := (some (x))) rfl hP.2.2.2.2.1 rfl (by omega) (by decide) (hx) ?_
    refine px_getv (x := nI (nm j)) rfl rfl hsx rfl (hn2) ?_
    refine pw_iadd (z := nI (s + (nm j))) rfl (nI_add _ _) ?_
    refine pw_istore_n (ls1 := [some (.inr (some (a))), some (.inl (nI (s + (nm j)))), some (.inl (nI (j)))]) rfl (Nat.le_of_ble_eq_true rfl) rfl ?_
    refine pw_iinc (v := nI (j + 1)) (ls1 := [some (.inr (some (a))), some (.inl (nI (s + (nm j)))), some (.inl (nI (j + 1)))]) rfl rfl (iinc_n _) rfl ?_
    refine pw_goto (t := 4) rfl rfl ?_
    exact ih (j + 1) _ (by omega) k
theorem t_cun {L a sc : Nat} {F G : FN} {R : RN} (hP : pathok L a R) (hsc : F a 3 = nI sc) (hs3 : sc ≤ 3) {nm : Nat → Nat} (hnm : ∀ j, j < sc → F (rx R (a + 17) j) 1 = nI (nm j)) {Q : Option PV → PH → Prop} (k : Q (some (.inl (nI (csm nm sc 0 0)))) (hb (sL L) F G R sO)) : pz pP mPath_unackedNumbers [.inr (some a)] (hb (sL L) F G R sO) Q := by
  show pw pP mPath_unackedNumbers (0, [some (.inr (some (a))), none, none], [], 0, 0, hb (sL L) F G R sO) _
  refine pw_iconst (v := nI (0)) rfl (by decide) ?_
  refine pw_istore_n (ls1 := [some (.inr (some (a))), some (.inl (nI (0))), none]) rfl (Nat.le_of_ble_eq_true rfl) rfl ?_
  refine pw_iconst (v := nI (0)) rfl (by decide) ?_
  refine pw_istore_n (ls1 := [some (.inr (some (a))), some (.inl (nI (0))), some (.inl (nI (0)))]) rfl (Nat.le_of_ble_eq_true rfl) rfl ?_
  exact t_cun_lp hP hsc hs3 hnm sc 0 0 (by omega) k
/-- SB_clamp -/
def cclamp_r (x l m : Int32) : Int32 := (if l < (if x < m then x else m) then (if x < m then x else m) else l)
theorem t_cclamp {L : Nat} {x l m : Int32} {F G : FN} {R : RN} {Q : Option PV → PH → Prop} (k : Q (some (.inl (cclamp_r x l m))) (hb (sL L) F G R sO)) : pz pP mSB_clamp [.inl (x), .inl (l), .inl (m)] (hb (sL L) F G R sO) Q := by
  show pw pP mSB_clamp (0, [some (.inl (x)), some (.inl (l)), some (.inl (m))], [], 0, 0, hb (sL L) F G R sO) _
  refine pw_iload_n rfl rfl ?_
  refine pw_iload_n rfl rfl ?_
  refine pw_iload_n rfl rfl ?_
  refine pw_math (st1 := [.inl ((if x < m then x else m)), .inl (l)]) rfl rfl (by decide) (Nat.zero_le _) (Nat.zero_le _) rfl (Nat.le_of_ble_eq_true rfl) ?_
  refine pw_math (st1 := [.inl ((if l < (if x < m then x else m) then (if x < m then x else m) else l))]) rfl rfl (by decide) (Nat.zero_le _) (Nat.zero_le _) rfl (Nat.le_of_ble_eq_true rfl) ?_
  exact pw_iret rfl rfl (Nat.zero_le _) (Nat.zero_le _) rfl k
/-- Path_measure -/
def cmeas_F (F : FN) (a : Nat) (x : Int32) : FN := (if F (a) (10) = 0 then (up2 (up2 (up2 (up2 F (a) (11) ((nI (8)) * x)) (a) (12) ((nI (2)) * x)) (a) (10) (nI (1))) (a) (8) (cclamp_r ((((nI (8)) * x) / (nI (8))) + ((nI (2)) * x)) (nI (6)) (nI (120)))) else (up2 (up2 (up2 F (a) (12) (((F (a) (12)) - ((F (a) (12)) / (nI (4)))) + (if 0 ≤ (((F (a) (11)) / (nI (8))) - x) then (((F (a) (11)) / (nI (8))) - x) else 0 - (((F (a) (11)) / (nI (8))) - x)))) (a) (11) (((F (a) (11)) - ((F (a) (11)) / (nI (8)))) + x)) (a) (8) (cclamp_r (((((F (a) (11)) - ((F (a) (11)) / (nI (8)))) + x) / (nI (8))) + (((F (a) (12)) - ((F (a) (12)) / (nI (4)))) + (if 0 ≤ (((F (a) (11)) / (nI (8))) - x) then (((F (a) (11)) / (nI (8))) - x) else 0 - (((F (a) (11)) / (nI (8))) - x)))) (nI (6)) (nI (120)))))
theorem t_cmeas {L a : Nat} {x : Int32} {F G : FN} {R : RN} (hP : pathok L a R) {Q : Option PV → PH → Prop} (k : Q none (hb (sL L) (cmeas_F F a x) G R sO)) : pz pP mPath_measure [.inr (some (a)), .inl (x)] (hb (sL L) F G R sO) Q := by
  show pw pP mPath_measure (0, [some (.inr (some (a))), some (.inl (x))], [], 0, 0, hb (sL L) F G R sO) _
  refine pw_aload_n rfl rfl ?_
  refine px_getv (x := F (a) (10)) rfl rfl hP.1 rfl (rfl) ?_
  refine pw_if1p (A := F (a) (10) = 0) rfl rfl (t := 56) rfl (fun c1 => ?_) (fun c1 => ?_)
  · -- 56
    refine pw_aload_n rfl rfl ?_
    refine pw_bipush (v := nI (8)) rfl (by decide) ?_
    refine pw_iload_n rfl rfl ?_
    refine pw_imul (z := (nI (8)) * x) rfl rfl ?_
    refine px_put rfl rfl hP.1 rfl rfl ?_
    refine pw_aload_n rfl rfl ?_
    refine pw_iconst (v := nI (2)) rfl (by decide) ?_
    refine pw_iload_n rfl rfl ?_
    refine pw_imul (z := (nI (2)) * x) rfl rfl ?_
    refine px_put rfl rfl hP.1 rfl rfl ?_
    refine pw_aload_n rfl rfl ?_
    refine pw_iconst (v := nI (1)) rfl (by decide) ?_
    refine px_put rfl rfl hP.1 rfl rfl ?_
    refine pw_aload_n rfl rfl ?_
    refine pw_aload_n rfl rfl ?_
    refine px_getv (x := (nI (8)) * x) rfl rfl hP.1 rfl ((up2_ne2 (by decide)).trans ((up2_ne2 (by decide)).trans (up2_eq))) ?_
    refine pw_bipush (v := nI (8)) rfl (by decide) ?_
    refine pw_idiv (z := ((nI (8)) * x) / (nI (8))) rfl (nI_ne0 (by decide) (by decide)) rfl ?_
    refine pw_aload_n rfl rfl ?_
    refine px_getv (x := (nI (2)) * x) rfl rfl hP.1 rfl ((up2_ne2 (by decide)).trans (up2_eq)) ?_
    refine pw_iadd (z := (((nI (8)) * x) / (nI (8))) + ((nI (2)) * x)) rfl rfl ?_
    refine pw_bipush (v := nI (6)) rfl (by decide) ?_
    refine pw_bipush (v := nI (120)) rfl (by decide) ?_
    refine pw_calls (as := [.inl ((((nI (8)) * x) / (nI (8))) + ((nI (2)) * x)), .inl (nI (6)), .inl (nI (120))]) (rest := [.inr (some (a))]) rfl rfl (by decide) rfl (Nat.le_of_ble_eq_true rfl) (Nat.le_of_ble_eq_true rfl) (Nat.le_of_ble_eq_true rfl) (Nat.le_of_ble_eq_true rfl) rfl rfl ?_
    refine t_cclamp ?_
    show pw pP mPath_measure (96, [some (.inr (some (a))), some (.inl (x))], [.inl (cclamp_r ((((nI (8)) * x) / (nI (8))) + ((nI (2)) * x)) (nI (6)) (nI (120))), .inr (some (a))], 0, 0, hb (sL L) (up2 (up2 (up2 F (a) (11) ((nI (8)) * x)) (a) (12) ((nI (2)) * x)) (a) (10) (nI (1))) G R sO) _
    refine px_put rfl rfl hP.1 rfl rfl ?_
    exact pw_vret rfl rfl (Nat.zero_le _) (Nat.zero_le _) (by simp only [cmeas_F, c1, if_true, if_false] at k; exact k)
  · -- 7
    refine pw_aload_n rfl rfl ?_
    refine pw_aload_n rfl rfl ?_
    refine px_getv (x := F (a) (12)) rfl rfl hP.1 rfl (rfl) ?_
    refine pw_aload_n rfl rfl ?_
    refine px_getv (x := F (a) (12)) rfl rfl hP.1 rfl (rfl) ?_
    refine pw_iconst (v := nI (4)) rfl (by decide) ?_
    refine pw_idiv (z := (F (a) (12)) / (nI (4))) rfl (nI_ne0 (by decide) (by decide)) rfl ?_
    refine pw_isub (z := (F (a) (12)) - ((F (a) (12)) / (nI (4)))) rfl rfl ?_
    refine pw_aload_n rfl rfl ?_
    refine px_getv (x := F (a) (11)) rfl rfl hP.1 rfl (rfl) ?_
    refine pw_bipush (v := nI (8)) rfl (by decide) ?_
    refine pw_idiv (z := (F (a) (11)) / (nI (8))) rfl (nI_ne0 (by decide) (by decide)) rfl ?_
    refine pw_iload_n rfl rfl ?_
    refine pw_isub (z := ((F (a) (11)) / (nI (8))) - x) rfl rfl ?_
    refine pw_math (st1 := [.inl ((if 0 ≤ (((F (a) (11)) / (nI (8))) - x) then (((F (a) (11)) / (nI (8))) - x) else 0 - (((F (a) (11)) / (nI (8))) - x))), .inl ((F (a) (12)) - ((F (a) (12)) / (nI (4)))), .inr (some (a))]) rfl rfl (by decide) (Nat.zero_le _) (Nat.zero_le _) rfl (Nat.le_of_ble_eq_true rfl) ?_
    refine pw_iadd (z := ((F (a) (12)) - ((F (a) (12)) / (nI (4)))) + (if 0 ≤ (((F (a) (11)) / (nI (8))) - x) then (((F (a) (11)) / (nI (8))) - x) else 0 - (((F (a) (11)) / (nI (8))) - x))) rfl rfl ?_
    refine px_put rfl rfl hP.1 rfl rfl ?_
    refine pw_aload_n rfl rfl ?_
    refine pw_aload_n rfl rfl ?_
    refine px_getv (x := F (a) (11)) rfl rfl hP.1 rfl (up2_ne2 (by decide)) ?_
    refine pw_aload_n rfl rfl ?_
    refine px_getv (x := F (a) (11)) rfl rfl hP.1 rfl (up2_ne2 (by decide)) ?_
    refine pw_bipush (v := nI (8)) rfl (by decide) ?_
    refine pw_idiv (z := (F (a) (11)) / (nI (8))) rfl (nI_ne0 (by decide) (by decide)) rfl ?_
    refine pw_isub (z := (F (a) (11)) - ((F (a) (11)) / (nI (8)))) rfl rfl ?_
    refine pw_iload_n rfl rfl ?_
    refine pw_iadd (z := ((F (a) (11)) - ((F (a) (11)) / (nI (8)))) + x) rfl rfl ?_
    refine px_put rfl rfl hP.1 rfl rfl ?_
    refine pw_goto (t := 76) rfl rfl ?_
    refine pw_aload_n rfl rfl ?_
    refine pw_aload_n rfl rfl ?_
    refine px_getv (x := ((F (a) (11)) - ((F (a) (11)) / (nI (8)))) + x) rfl rfl hP.1 rfl (up2_eq) ?_
    refine pw_bipush (v := nI (8)) rfl (by decide) ?_
    refine pw_idiv (z := (((F (a) (11)) - ((F (a) (11)) / (nI (8)))) + x) / (nI (8))) rfl (nI_ne0 (by decide) (by decide)) rfl ?_
    refine pw_aload_n rfl rfl ?_
    refine px_getv (x := ((F (a) (12)) - ((F (a) (12)) / (nI (4)))) + (if 0 ≤ (((F (a) (11)) / (nI (8))) - x) then (((F (a) (11)) / (nI (8))) - x) else 0 - (((F (a) (11)) / (nI (8))) - x))) rfl rfl hP.1 rfl ((up2_ne2 (by decide)).trans (up2_eq)) ?_
    refine pw_iadd (z := ((((F (a) (11)) - ((F (a) (11)) / (nI (8)))) + x) / (nI (8))) + (((F (a) (12)) - ((F (a) (12)) / (nI (4)))) + (if 0 ≤ (((F (a) (11)) / (nI (8))) - x) then (((F (a) (11)) / (nI (8))) - x) else 0 - (((F (a) (11)) / (nI (8))) - x)))) rfl rfl ?_
    refine pw_bipush (v := nI (6)) rfl (by decide) ?_
    refine pw_bipush (v := nI (120)) rfl (by decide) ?_
    refine pw_calls (as := [.inl (((((F (a) (11)) - ((F (a) (11)) / (nI (8)))) + x) / (nI (8))) + (((F (a) (12)) - ((F (a) (12)) / (nI (4)))) + (if 0 ≤ (((F (a) (11)) / (nI (8))) - x) then (((F (a) (11)) / (nI (8))) - x) else 0 - (((F (a) (11)) / (nI (8))) - x)))), .inl (nI (6)), .inl (nI (120))]) (rest := [.inr (some (a))]) rfl rfl (by decide) rfl (Nat.le_of_ble_eq_true rfl) (Nat.le_of_ble_eq_true rfl) (Nat.le_of_ble_eq_true rfl) (Nat.le_of_ble_eq_true rfl) rfl rfl ?_
    refine t_cclamp ?_
    show pw pP mPath_measure (96, [some (.inr (some (a))), some (.inl (x))], [.inl (cclamp_r (((((F (a) (11)) - ((F (a) (11)) / (nI (8)))) + x) / (nI (8))) + (((F (a) (12)) - ((F (a) (12)) / (nI (4)))) + (if 0 ≤ (((F (a) (11)) / (nI (8))) - x) then (((F (a) (11)) / (nI (8))) - x) else 0 - (((F (a) (11)) / (nI (8))) - x)))) (nI (6)) (nI (120))), .inr (some (a))], 0, 0, hb (sL L) (up2 (up2 F (a) (12) (((F (a) (12)) - ((F (a) (12)) / (nI (4)))) + (if 0 ≤ (((F (a) (11)) / (nI (8))) - x) then (((F (a) (11)) / (nI (8))) - x) else 0 - (((F (a) (11)) / (nI (8))) - x)))) (a) (11) (((F (a) (11)) - ((F (a) (11)) / (nI (8)))) + x)) G R sO) _
    refine px_put rfl rfl hP.1 rfl rfl ?_
    exact pw_vret rfl rfl (Nat.zero_le _) (Nat.zero_le _) (by simp only [cmeas_F, c1, if_true, if_false] at k; exact k)
/-- Path_isQuickerThan -/
def cquick_r (F : FN) (a b : Nat) : Int32 := (if F (a) (10) = 0 then nI (0) else (if F (b) (10) = 0 then nI (1) else (if F (b) (11) ≤ F (a) (11) then nI (0) else nI (1))))
theorem t_cquick {L a b : Nat} {F G : FN} {R : RN} (hP : pathok L a R) (hP2 : pathok L b R) {Q : Option PV → PH → Prop} (k : Q (some (.inl (cquick_r F a b))) (hb (sL L) F G R sO)) : pz pP mPath_isQuickerThan [.inr (some (a)), .inr (some (b))] (hb (sL L) F G R sO) Q := by
  show pw pP mPath_isQuickerThan (0, [some (.inr (some (a))), some (.inr (some (b)))], [], 0, 0, hb (sL L) F G R sO) _
  refine pw_aload_n rfl rfl ?_
  refine px_getv (x := F (a) (10)) rfl rfl hP.1 rfl (rfl) ?_
  refine pw_if1p (A := F (a) (10) = 0) rfl rfl (t := 29) rfl (fun c1 => ?_) (fun c1 => ?_)
  · -- 29
    refine pw_iconst (v := nI (0)) rfl (by decide) ?_
    exact pw_iret rfl rfl (Nat.zero_le _) (Nat.zero_le _) rfl (by simp only [cquick_r, c1, if_true, if_false] at k; exact k)
  · -- 7
    refine pw_aload_n rfl rfl ?_
    refine px_getv (x := F (b) (10)) rfl rfl hP2.1 rfl (rfl) ?_
    refine pw_if1p (A := F (b) (10) = 0) rfl rfl (t := 25) rfl (fun c2 => ?_) (fun c2 => ?_)
    · -- 25
      refine pw_iconst (v := nI (1)) rfl (by decide) ?_
      refine pw_goto (t := 30) rfl rfl ?_
      exact pw_iret rfl rfl (Nat.zero_le _) (Nat.zero_le _) rfl (by simp only [cquick_r, c1, c2, if_true, if_false] at k; exact k)
    · -- 14
      refine pw_aload_n rfl rfl ?_
      refine px_getv (x := F (a) (11)) rfl rfl hP.1 rfl (rfl) ?_
      refine pw_aload_n rfl rfl ?_
      refine px_getv (x := F (b) (11)) rfl rfl hP2.1 rfl (rfl) ?_
      refine pw_if2p (A := F (b) (11) ≤ F (a) (11)) rfl rfl (t := 29) rfl (fun c3 => ?_) (fun c3 => ?_)
      · -- 29
        refine pw_iconst (v := nI (0)) rfl (by decide) ?_
        exact pw_iret rfl rfl (Nat.zero_le _) (Nat.zero_le _) rfl (by simp only [cquick_r, c1, c2, c3, if_true, if_false] at k; exact k)
      · -- 25
        refine pw_iconst (v := nI (1)) rfl (by decide) ?_
        refine pw_goto (t := 30) rfl rfl ?_
        exact pw_iret rfl rfl (Nat.zero_le _) (Nat.zero_le _) rfl (by simp only [cquick_r, c1, c2, c3, if_true, if_false] at k; exact k)
/-- Path_shut -/
def cshut_F (F : FN) (a : Nat) : FN := (up2 (up2 (up2 (up2 (up2 F (a) (5) (nI (4))) (a + 1) (1) (nI (0))) (a + 9) (1) (nI (0))) (a) (9) ((-1))) (a) (3) (nI (0)))
theorem t_cshut {L a : Nat} {F G : FN} {R : RN} (hP : pathok L a R) {Q : Option PV → PH → Prop} (k : Q none (hb (sL L) (cshut_F F a) G R sO)) : pz pP mPath_shut [.inr (some (a))] (hb (sL L) F G R sO) Q := by
  show pw pP mPath_shut (0, [some (.inr (some (a)))], [], 0, 0, hb (sL L) F G R sO) _
  refine pw_aload_n rfl rfl ?_
  refine pw_iconst (v := nI (4)) rfl (by decide) ?_
  refine px_put rfl rfl hP.1 rfl rfl ?_
  refine pw_aload_n rfl rfl ?_
  refine px_getr (r := some (a + 1)) rfl rfl hP.1 rfl hP.2.1.1 ?_
  refine px_callv (as := [.inr (some (a + 1))]) (rest := []) rfl rfl (by decide) rfl (Nat.le_of_ble_eq_true rfl) (Nat.le_of_ble_eq_true rfl) (Nat.le_of_ble_eq_true rfl) (Nat.le_of_ble_eq_true rfl) rfl hP.2.2.1.1 rfl rfl ?_
  refine t_empty hP.2.2.1 ?_
  show pw pP mPath_shut (12, [some (.inr (some (a)))], [], 0, 0, hb (sL L) (up2 (up2 F (a) (5) (nI (4))) (a + 1) (1) (nI (0))) G R sO) _
  refine pw_aload_n rfl rfl ?_
  refine px_getr (r := some (a + 9)) rfl rfl hP.1 rfl hP.2.1.2.1 ?_
  refine px_callv (as := [.inr (some (a + 9))]) (rest := []) rfl rfl (by decide) rfl (Nat.le_of_ble_eq_true rfl) (Nat.le_of_ble_eq_true rfl) (Nat.le_of_ble_eq_true rfl) (Nat.le_of_ble_eq_true rfl) rfl hP.2.2.2.1.1 rfl rfl ?_
  refine t_empty hP.2.2.2.1 ?_
  show pw pP mPath_shut (19, [some (.inr (some (a)))], [], 0, 0, hb (sL L) (up2 (up2 (up2 F (a) (5) (nI (4))) (a + 1) (1) (nI (0))) (a + 9) (1) (nI (0))) G R sO) _
  refine pw_aload_n rfl rfl ?_
  refine pw_iconst (v := (-1)) rfl (by decide) ?_
  refine px_put rfl rfl hP.1 rfl rfl ?_
  refine pw_aload_n rfl rfl ?_
  refine pw_iconst (v := nI (0)) rfl (by decide) ?_
  refine px_put rfl rfl hP.1 rfl rfl ?_
  exact pw_vret rfl rfl (Nat.zero_le _) (Nat.zero_le _) k
end
section
/-! THE CLASS, third part: host B. Rows laid by a program (wip/whole/gen/class3.py). -/
/-- a copy is sent: lost, or filled in -/
def cship (F : FN) (a e x sz : Nat) (t k1 k2 k3 k4 k5 : Int32) : FN := if F a 6 = 0 then F else if 6 ≤ sz then F else cfill_F (append_F F e x sz (t + F a 6)) x k1 k2 k3 k4 k5
theorem cship_0 {F : FN} {a e x sz : Nat} {t k1 k2 k3 k4 k5 : Int32} (h : F a 6 = 0) : cship F a e x sz t k1 k2 k3 k4 k5 = F := if_pos h
theorem cship_6 {F : FN} {a e x sz : Nat} {t k1 k2 k3 k4 k5 : Int32} (h : 6 ≤ sz) : cship F a e x sz t k1 k2 k3 k4 k5 = F := by
  unfold cship
  split
  · rfl
  · rfl
theorem cship_y {F : FN} {a e x sz : Nat} {t k1 k2 k3 k4 k5 : Int32} (h : ¬ F a 6 = 0) (h6 : sz < 6) : cship F a e x sz t k1 k2 k3 k4 k5 = cfill_F (append_F F e x sz (t + F a 6)) x k1 k2 k3 k4 k5 := by
  unfold cship
  rw [if_neg h, if_neg (by omega)]
/-- HostB_limit -/
def climit_r (F : FN) : Int32 := (F (92) (6)) + (F (92) (1))
theorem t_climit {L : Nat} {F G : FN} {R : RN} {Q : Option PV → PH → Prop} (k : Q (some (.inl (climit_r F))) (hb (sL L) F G R sO)) : pz pP mHostB_limit [.inr (some (92))] (hb (sL L) F G R sO) Q := by
  show pw pP mHostB_limit (0, [some (.inr (some (92)))], [], 0, 0, hb (sL L) F G R sO) _
  refine pw_aload_n rfl rfl ?_
  refine px_getv (x := F (92) (6)) rfl rfl rfl rfl (rfl) ?_
  refine pw_aload_n rfl rfl ?_
  refine px_getv (x := F (92) (1)) rfl rfl rfl rfl (rfl) ?_
  refine pw_iadd (z := (F (92) (6)) + (F (92) (1))) rfl rfl ?_
  exact pw_iret rfl rfl (Nat.zero_le _) (Nat.zero_le _) rfl k
theorem t_cans2 {L a e x sz : Nat} {t : Int32} {F G : FN} {R : RN} (hP : pathok L a R) (hA : arrok L e) (he : 95 ≤ e) (ha : a + 20 < 89) (hsz : F (a + 9) 1 = nI sz) (hs6 : sz ≤ 6) (hx : sz < 6 → R (a + 9 + 1) sz = some x ∧ (sL L)[x]? = some (2, 1, [0, 0, 0, 0, 0, 0], 0) ∧ a + 11 ≤ x ∧ x ≤ a + 16) {Q : Option PV → PH → Prop} (k : Q none (hb (sL L) (cship F a (a + 9) x sz t (nI 2) (nI 0) (F e 1) (F 92 5) (F 92 6 + F 92 1)) G R sO)) : pz pP mHostB_answer [.inr (some 92), .inr (some a), .inl (nI 2), .inr (some e), .inl t] (hb (sL L) F G R sO) Q := by
  show pw pP mHostB_answer (0, [some (.inr (some (92))), some (.inr (some (a))), some (.inl (nI (2))), some (.inr (some (e))), some (.inl (t)), none], [], 0, 0, hb (sL L) F G R sO) _
  by_cases hd : F a 6 = 0
  · rw [cship_0 hd] at k
    refine pw_aload_n rfl rfl ?_
    refine pw_iconst (v := nI (1)) rfl (by decide) ?_
    refine pw_iload rfl rfl ?_
    refine px_callv (as := [.inr (some (a)), .inl (nI (1)), .inl (t)]) (rest := []) rfl rfl (by decide) rfl (Nat.le_of_ble_eq_true rfl) (Nat.le_of_ble_eq_true rfl) (Nat.le_of_ble_eq_true rfl) (Nat.le_of_ble_eq_true rfl) rfl hP.1 rfl rfl ?_
    refine t_cdisp1_0 hP hd ?_
    show pw pP mHostB_answer (7, [some (.inr (some (92))), some (.inr (some (a))), some (.inl (nI (2))), some (.inr (some (e))), some (.inl (t)), none], [.inr none], 0, 0, hb (sL L) F G R sO) _
    refine pw_astore (ls1 := [some (.inr (some (92))), some (.inr (some (a))), some (.inl (nI (2))), some (.inr (some (e))), some (.inl (t)), some (.inr none)]) rfl (Nat.le_of_ble_eq_true rfl) rfl ?_
    refine pw_aload rfl rfl ?_
    refine pw_ifnonnullN (t := 15) rfl rfl ?_
    exact pw_vret rfl rfl (Nat.zero_le _) (Nat.zero_le _) k
  by_cases h6 : 6 ≤ sz
  · rw [cship_6 h6] at k
    have e6 : sz = 6 := by omega
    subst e6
    refine pw_aload_n rfl rfl ?_
    refine pw_iconst (v := nI (1)) rfl (by decide) ?_
    refine pw_iload rfl rfl ?_
    refine px_callv (as := [.inr (some (a)), .inl (nI (1)), .inl (t)]) (rest := []) rfl rfl (by decide) rfl (Nat.le_of_ble_eq_true rfl) (Nat.le_of_ble_eq_true rfl) (Nat.le_of_ble_eq_true rfl) (Nat.le_of_ble_eq_true rfl) rfl hP.1 rfl rfl ?_
    refine t_cdisp1_6 hP hd hsz ?_
    show pw pP mHostB_answer (7, [some (.inr (some (92))), some (.inr (some (a))), some (.inl (nI (2))), some (.inr (some (e))), some (.inl (t)), none], [.inr none], 0, 0, hb (sL L) F G R sO) _
    refine pw_astore (ls1 := [some (.inr (some (92))), some (.inr (some (a))), some (.inl (nI (2))), some (.inr (some (e))), some (.inl (t)), some (.inr none)]) rfl (Nat.le_of_ble_eq_true rfl) rfl ?_
    refine pw_aload rfl rfl ?_
    refine pw_ifnonnullN (t := 15) rfl rfl ?_
    exact pw_vret rfl rfl (Nat.zero_le _) (Nat.zero_le _) k
  obtain ⟨hx1, hsx, hxr⟩ := hx (by omega)
  rw [cship_y hd (by omega)] at k
  refine pw_aload_n rfl rfl ?_
  refine pw_iconst (v := nI (1)) rfl (by decide) ?_
  refine pw_iload rfl rfl ?_
  refine px_callv (as := [.inr (some (a)), .inl (nI (1)), .inl (t)]) (rest := []) rfl rfl (by decide) rfl (Nat.le_of_ble_eq_true rfl) (Nat.le_of_ble_eq_true rfl) (Nat.le_of_ble_eq_true rfl) (Nat.le_of_ble_eq_true rfl) rfl hP.1 rfl rfl ?_
  refine t_cdisp1 hP hd hsz (by omega) hx1 hsx ?_
  show pw pP mHostB_answer (7, [some (.inr (some (92))), some (.inr (some (a))), some (.inl (nI (2))), some (.inr (some (e))), some (.inl (t)), none], [.inr (some (x))], 0, 0, hb (sL L) (up2 (up2 F (x) (5) (t + F a 6)) (a + 9) (1) (nI (sz + 1))) G R sO) _
  refine pw_astore (ls1 := [some (.inr (some (92))), some (.inr (some (a))), some (.inl (nI (2))), some (.inr (some (e))), some (.inl (t)), some (.inr (some (x)))]) rfl (Nat.le_of_ble_eq_true rfl) rfl ?_
  refine pw_aload rfl rfl ?_
  refine pw_ifnonnull (t := 15) rfl rfl ?_
  refine pw_iload_n rfl rfl ?_
  refine pw_iconst (v := nI (3)) rfl (by decide) ?_
  refine pw_if2 (t := 33) rfl rfl (fun _ => ?_) (fun q => absurd q (by decide))
  refine pw_aload rfl rfl ?_
  refine pw_iconst (v := nI (2)) rfl (by decide) ?_
  refine pw_iconst (v := nI (0)) rfl (by decide) ?_
  refine pw_aload_n rfl rfl ?_
  refine px_getv (x := F (e) (1)) rfl rfl hA.1 rfl ((up2_ne (by omega)).trans (up2_ne (by omega))) ?_
  refine pw_aload_n rfl rfl ?_
  refine px_getv (x := F (92) (5)) rfl rfl rfl rfl ((up2_ne (by omega)).trans (up2_ne (by omega))) ?_
  refine pw_aload_n rfl rfl ?_
  refine px_callv (as := [.inr (some (92))]) (rest := [.inl (F (92) (5)), .inl (F (e) (1)), .inl (nI (0)), .inl (nI (2)), .inr (some (x))]) rfl rfl (by decide) rfl (Nat.le_of_ble_eq_true rfl) (Nat.le_of_ble_eq_true rfl) (Nat.le_of_ble_eq_true rfl) (Nat.le_of_ble_eq_true rfl) rfl rfl rfl rfl ?_
  refine t_climit ?_
  show pw pP mHostB_answer (49, [some (.inr (some (92))), some (.inr (some (a))), some (.inl (nI (2))), some (.inr (some (e))), some (.inl (t)), some (.inr (some (x)))], [.inl (up2 (up2 F (x) (5) (t + F a 6)) (a + 9) (1) (nI (sz + 1)) 92 6 + up2 (up2 F (x) (5) (t + F a 6)) (a + 9) (1) (nI (sz + 1)) 92 1), .inl (F (92) (5)), .inl (F (e) (1)), .inl (nI (0)), .inl (nI (2)), .inr (some (x))], 0, 0, hb (sL L) (up2 (up2 F (x) (5) (t + F a 6)) (a + 9) (1) (nI (sz + 1))) G R sO) _
  refine px_callv (as := [.inr (some (x)), .inl (nI (2)), .inl (nI (0)), .inl (F (e) (1)), .inl (F (92) (5)), .inl (up2 (up2 F (x) (5) (t + F a 6)) (a + 9) (1) (nI (sz + 1)) 92 6 + up2 (up2 F (x) (5) (t + F a 6)) (a + 9) (1) (nI (sz + 1)) 92 1)]) (rest := []) rfl rfl (by decide) rfl (Nat.le_of_ble_eq_true rfl) (Nat.le_of_ble_eq_true rfl) (Nat.le_of_ble_eq_true rfl) (Nat.le_of_ble_eq_true rfl) rfl hsx rfl rfl ?_
  refine t_cfill hsx ?_
  show pw pP mHostB_answer (52, [some (.inr (some (92))), some (.inr (some (a))), some (.inl (nI (2))), some (.inr (some (e))), some (.inl (t)), some (.inr (some (x)))], [], 0, 0, hb (sL L) (up2 (up2 (up2 (up2 (up2 (up2 (up2 F (x) (5) (t + F a 6)) (a + 9) (1) (nI (sz + 1))) (x) (0) (nI (2))) (x) (1) (nI (0))) (x) (2) (F (e) (1))) (x) (3) (F (92) (5))) (x) (4) (up2 (up2 F (x) (5) (t + F a 6)) (a + 9) (1) (nI (sz + 1)) 92 6 + up2 (up2 F (x) (5) (t + F a 6)) (a + 9) (1) (nI (sz + 1)) 92 1)) G R sO) _
  rw [up2_ne (show ¬ (92 = a + 9 ∧ 6 = 1) by omega), up2_ne (show ¬ (92 = x ∧ 6 = 5) by omega), up2_ne (show ¬ (92 = a + 9 ∧ 1 = 1) by omega), up2_ne (show ¬ (92 = x ∧ 1 = 5) by omega)]
  exact pw_vret rfl rfl (Nat.zero_le _) (Nat.zero_le _) k
theorem t_cans3 {L a e x sz : Nat} {t : Int32} {F G : FN} {R : RN} (hP : pathok L a R) (hA : arrok L e) (he : 95 ≤ e) (ha : a + 20 < 89) (hsz : F (a + 9) 1 = nI sz) (hs6 : sz ≤ 6) (hx : sz < 6 → R (a + 9 + 1) sz = some x ∧ (sL L)[x]? = some (2, 1, [0, 0, 0, 0, 0, 0], 0) ∧ a + 11 ≤ x ∧ x ≤ a + 16) {Q : Option PV → PH → Prop} (k : Q none (hb (sL L) (cship F a (a + 9) x sz t (nI 3) (nI 0) (nI 0) (nI 0) (nI 0)) G R sO)) : pz pP mHostB_answer [.inr (some 92), .inr (some a), .inl (nI 3), .inr (some e), .inl t] (hb (sL L) F G R sO) Q := by
  show pw pP mHostB_answer (0, [some (.inr (some (92))), some (.inr (some (a))), some (.inl (nI (3))), some (.inr (some (e))), some (.inl (t)), none], [], 0, 0, hb (sL L) F G R sO) _
  by_cases hd : F a 6 = 0
  · rw [cship_0 hd] at k
    refine pw_aload_n rfl rfl ?_
    refine pw_iconst (v := nI (1)) rfl (by decide) ?_
    refine pw_iload rfl rfl ?_
    refine px_callv (as := [.inr (some (a)), .inl (nI (1)), .inl (t)]) (rest := []) rfl rfl (by decide) rfl (Nat.le_of_ble_eq_true rfl) (Nat.le_of_ble_eq_true rfl) (Nat.le_of_ble_eq_true rfl) (Nat.le_of_ble_eq_true rfl) rfl hP.1 rfl rfl ?_
    refine t_cdisp1_0 hP hd ?_
    show pw pP mHostB_answer (7, [some (.inr (some (92))), some (.inr (some (a))), some (.inl (nI (3))), some (.inr (some (e))), some (.inl (t)), none], [.inr none], 0, 0, hb (sL L) F G R sO) _
    refine pw_astore (ls1 := [some (.inr (some (92))), some (.inr (some (a))), some (.inl (nI (3))), some (.inr (some (e))), some (.inl (t)), some (.inr none)]) rfl (Nat.le_of_ble_eq_true rfl) rfl ?_
    refine pw_aload rfl rfl ?_
    refine pw_ifnonnullN (t := 15) rfl rfl ?_
    exact pw_vret rfl rfl (Nat.zero_le _) (Nat.zero_le _) k
  by_cases h6 : 6 ≤ sz
  · rw [cship_6 h6] at k
    have e6 : sz = 6 := by omega
    subst e6
    refine pw_aload_n rfl rfl ?_
    refine pw_iconst (v := nI (1)) rfl (by decide) ?_
    refine pw_iload rfl rfl ?_
    refine px_callv (as := [.inr (some (a)), .inl (nI (1)), .inl (t)]) (rest := []) rfl rfl (by decide) rfl (Nat.le_of_ble_eq_true rfl) (Nat.le_of_ble_eq_true rfl) (Nat.le_of_ble_eq_true rfl) (Nat.le_of_ble_eq_true rfl) rfl hP.1 rfl rfl ?_
    refine t_cdisp1_6 hP hd hsz ?_
    show pw pP mHostB_answer (7, [some (.inr (some (92))), some (.inr (some (a))), some (.inl (nI (3))), some (.inr (some (e))), some (.inl (t)), none], [.inr none], 0, 0, hb (sL L) F G R sO) _
    refine pw_astore (ls1 := [some (.inr (some (92))), some (.inr (some (a))), some (.inl (nI (3))), some (.inr (some (e))), some (.inl (t)), some (.inr none)]) rfl (Nat.le_of_ble_eq_true rfl) rfl ?_
    refine pw_aload rfl rfl ?_
    refine pw_ifnonnullN (t := 15) rfl rfl ?_
    exact pw_vret rfl rfl (Nat.zero_le _) (Nat.zero_le _) k
  obtain ⟨hx1, hsx, hxr⟩ := hx (by omega)
  rw [cship_y hd (by omega)] at k
  refine pw_aload_n rfl rfl ?_
  refine pw_iconst (v := nI (1)) rfl (by decide) ?_
  refine pw_iload rfl rfl ?_
  refine px_callv (as := [.inr (some (a)), .inl (nI (1)), .inl (t)]) (rest := []) rfl rfl (by decide) rfl (Nat.le_of_ble_eq_true rfl) (Nat.le_of_ble_eq_true rfl) (Nat.le_of_ble_eq_true rfl) (Nat.le_of_ble_eq_true rfl) rfl hP.1 rfl rfl ?_
  refine t_cdisp1 hP hd hsz (by omega) hx1 hsx ?_
  show pw pP mHostB_answer (7, [some (.inr (some (92))), some (.inr (some (a))), some (.inl (nI (3))), some (.inr (some (e))), some (.inl (t)), none], [.inr (some (x))], 0, 0, hb (sL L) (up2 (up2 F (x) (5) (t + F a 6)) (a + 9) (1) (nI (sz + 1))) G R sO) _
  refine pw_astore (ls1 := [some (.inr (some (92))), some (.inr (some (a))), some (.inl (nI (3))), some (.inr (some (e))), some (.inl (t)), some (.inr (some (x)))]) rfl (Nat.le_of_ble_eq_true rfl) rfl ?_
  refine pw_aload rfl rfl ?_
  refine pw_ifnonnull (t := 15) rfl rfl ?_
  refine pw_iload_n rfl rfl ?_
  refine pw_iconst (v := nI (3)) rfl (by decide) ?_
  refine pw_if2 (t := 33) rfl rfl (fun q => absurd q (by decide)) (fun _ => ?_)
  refine pw_aload rfl rfl ?_
  refine pw_iconst (v := nI (3)) rfl (by decide) ?_
  refine pw_iconst (v := nI (0)) rfl (by decide) ?_
  refine pw_iconst (v := nI (0)) rfl (by decide) ?_
  refine pw_iconst (v := nI (0)) rfl (by decide) ?_
  refine pw_iconst (v := nI (0)) rfl (by decide) ?_
  refine px_callv (as := [.inr (some (x)), .inl (nI (3)), .inl (nI (0)), .inl (nI (0)), .inl (nI (0)), .inl (nI (0))]) (rest := []) rfl rfl (by decide) rfl (Nat.le_of_ble_eq_true rfl) (Nat.le_of_ble_eq_true rfl) (Nat.le_of_ble_eq_true rfl) (Nat.le_of_ble_eq_true rfl) rfl hsx rfl rfl ?_
  refine t_cfill hsx ?_
  show pw pP mHostB_answer (30, [some (.inr (some (92))), some (.inr (some (a))), some (.inl (nI (3))), some (.inr (some (e))), some (.inl (t)), some (.inr (some (x)))], [], 0, 0, hb (sL L) (up2 (up2 (up2 (up2 (up2 (up2 (up2 F (x) (5) (t + F a 6)) (a + 9) (1) (nI (sz + 1))) (x) (0) (nI (3))) (x) (1) (nI (0))) (x) (2) (nI (0))) (x) (3) (nI (0))) (x) (4) (nI (0))) G R sO) _
  refine pw_goto (t := 52) rfl rfl ?_
  exact pw_vret rfl rfl (Nat.zero_le _) (Nat.zero_le _) k
def chu : Nat → Nat → FN → FN
  | 0, _, G => G
  | n + 1, j, G => chu n (j + 1) (up2 G 94 j (nI 1))
theorem t_chd_1 {L e x b m : Nat} {F : FN} {R : RN} {Q : Option PV → PH → Prop} (hbm : b + m ≤ 401) : ∀ (n j : Nat) (G : FN), j + n = b + m → pw pP mHostB_hearData (76, [some (.inr (some (92))), some (.inr (some (x))), some (.inr (some (e))), some (.inl (nI (b + m))), some (.inl (nI (b + m)))], [], 0, 0, hb (sL L) F (chu n j G) R sO) Q → pw pP mHostB_hearData (48, [some (.inr (some (92))), some (.inr (some (x))), some (.inr (some (e))), some (.inl (nI (b + m))), some (.inl (nI (j)))], [], 0, 0, hb (sL L) F G R sO) Q := by
  intro n
  induction n with
  | zero =>
    intro j G hn k
    have e1 : j = b + m := by omega
    subst e1
    refine pw_iload rfl rfl ?_
    refine pw_iload_n rfl rfl ?_
    refine pw_if2p (cn_ge (by omega) (by omega)) rfl (t := 76) rfl (fun _ => ?_) (fun q => absurd (Nat.le_refl _) q)
    exact k
  | succ n ih =>
    intro j G hn k
    refine pw_iload rfl rfl ?_
    refine pw_iload_n rfl rfl ?_
    refine pw_if2p (cn_ge (by omega) (by omega)) rfl (t := 76) rfl (fun q => absurd q (by omega)) (fun _ => ?_)
    refine pw_iload rfl rfl ?_
    refine pw_sipush (v := nI (401)) rfl (by decide) ?_
    refine pw_if2p (cn_ge (by omega) (by omega)) rfl (t := 76) rfl (fun q => absurd q (by omega)) (fun _ => ?_)
    refine pw_aload_n rfl rfl ?_
    refine px_getr (r := some (94)) rfl rfl rfl rfl rfl ?_
    refine pw_iload rfl rfl ?_
    refine pw_iconst (v := nI (1)) rfl (by decide) ?_
    refine px_zastn (x1 := nI (1)) rfl rfl (by omega) (by decide) (by decide) ?_
    refine pw_iinc (v := nI (j + 1)) (ls1 := [some (.inr (some (92))), some (.inr (some (x))), some (.inr (some (e))), some (.inl (nI (b + m))), some (.inl (nI (j + 1)))]) rfl rfl (iinc_n _) rfl ?_
    refine pw_goto (t := 48) rfl rfl ?_
    exact ih (j + 1) _ (by omega) k
theorem up2_id {F : FN} {i k : Nat} {v : Int32} (h : F i k = v) : up2 F i k v = F := by
  funext i1 k1
  by_cases h1 : i1 = i ∧ k1 = k
  · rw [h1.1, h1.2, up2_eq, h]
  · rw [up2_ne h1]
theorem up2_up2 {F : FN} {i k : Nat} {v w : Int32} : up2 (up2 F i k v) i k w = up2 F i k w := by
  funext i1 k1
  by_cases h1 : i1 = i ∧ k1 = k
  · rw [h1.1, h1.2, up2_eq, up2_eq]
  · rw [up2_ne h1, up2_ne h1, up2_ne h1]
theorem t_chd_2 {L e x b m j : Nat} {G : FN} {R : RN} {Q : Option PV → PH → Prop} : ∀ (n y : Nat) (F : FN), y + n = 401 → F 92 5 = nI y → Q none (hb (sL L) (up2 F 92 5 (nI (lead (G 94) n y))) G R sO) → pw pP mHostB_hearData (76, [some (.inr (some (92))), some (.inr (some (x))), some (.inr (some (e))), some (.inl (nI (b + m))), some (.inl (nI (j)))], [], 0, 0, hb (sL L) F G R sO) Q := by
  intro n
  induction n with
  | zero =>
    intro y F hn hx k
    have e1 : y = 401 := by omega
    subst e1
    rw [show up2 F 92 5 (nI (lead (G 94) 0 401)) = F from up2_id hx] at k
    refine pw_aload_n rfl rfl ?_
    refine px_getv (x := nI (401)) rfl rfl rfl rfl (hx) ?_
    refine pw_sipush (v := nI (401)) rfl (by decide) ?_
    refine pw_if2 (t := 111) rfl rfl (fun _ => ?_) (fun q => absurd q (by decide))
    exact pw_vret rfl rfl (Nat.zero_le _) (Nat.zero_le _) k
  | succ n ih =>
    intro y F hn hx k
    refine pw_aload_n rfl rfl ?_
    refine px_getv (x := nI (y)) rfl rfl rfl rfl (hx) ?_
    refine pw_sipush (v := nI (401)) rfl (by decide) ?_
    refine pw_if2p (cn_ge (by omega) (by omega)) rfl (t := 111) rfl (fun q => absurd q (by omega)) (fun _ => ?_)
    refine pw_aload_n rfl rfl ?_
    refine px_getr (r := some (94)) rfl rfl rfl rfl rfl ?_
    refine pw_aload_n rfl rfl ?_
    refine px_getv (x := nI (y)) rfl rfl rfl rfl (hx) ?_
    refine px_zaldn (x := G (94) (y)) rfl rfl (by omega) (by decide) (rfl) ?_
    refine pw_if1p (A := G (94) (y) = 0) rfl rfl (t := 111) rfl (fun c1 => ?_) (fun c1 => ?_)
    · -- 111
      rw [lead_z c1, up2_id hx] at k
      exact pw_vret rfl rfl (Nat.zero_le _) (Nat.zero_le _) k
    · -- 98
      refine pw_aload_n rfl rfl ?_
      refine pw_dup rfl ?_
      refine px_getv (x := nI (y)) rfl rfl rfl rfl (hx) ?_
      refine pw_iconst (v := nI (1)) rfl (by decide) ?_
      refine pw_iadd (z := nI (y + 1)) rfl (nI_add _ _) ?_
      refine px_put rfl rfl rfl rfl rfl ?_
      refine pw_goto (t := 76) rfl rfl ?_
      refine ih (y + 1) _ (by omega) up2_eq ?_
      rw [lead_s c1] at k
      rw [up2_up2]
      exact k
def chd_G (G : FN) (e c b m nx bu : Nat) : FN := if G (e + 1) c = 0 then (if b + m ≤ nx + bu then chu m b (ctake_G G e c m) else G) else G
def chd_F (F G : FN) (e c b m nx bu ex rc : Nat) : FN := if G (e + 1) c = 0 then (if b + m ≤ nx + bu then up2 (ctake_F F G e c m ex) 92 5 (nI (lead (chu m b (ctake_G G e c m) 94) (401 - rc) rc)) else F) else F
theorem t_chd {L e x c b m nx bu ex rc : Nat} {F G : FN} {R : RN} (hA : arrok L e) (he : 95 ≤ e) (hsx : (sL L)[x]? = some (2, 1, [0, 0, 0, 0, 0, 0], 0)) (hx9 : x < 92) (hc : F x 2 = nI c) (hb1 : F x 3 = nI b) (hm : F x 1 = nI m) (hcm : c + m ≤ 402) (hc1 : c < 402) (hbm : b + m ≤ 401) (hnx : F 92 6 = nI nx) (hn4 : nx ≤ 401) (hbu : F 92 1 = nI bu) (hb5 : bu ≤ 56) (hex : F e 1 = nI ex) (he4 : ex ≤ 402) (hrc : F 92 5 = nI rc) (hr4 : rc ≤ 401) {Q : Option PV → PH → Prop} (k : Q none (hb (sL L) (chd_F F G e c b m nx bu ex rc) (chd_G G e c b m nx bu) R sO)) : pz pP mHostB_hearData [.inr (some 92), .inr (some x), .inr (some e)] (hb (sL L) F G R sO) Q := by
  show pw pP mHostB_hearData (0, [some (.inr (some (92))), some (.inr (some (x))), some (.inr (some (e))), none, none], [], 0, 0, hb (sL L) F G R sO) _
  by_cases h1 : G (e + 1) c = 0
  · by_cases h2 : b + m ≤ nx + bu
    · rw [show chd_F F G e c b m nx bu ex rc = up2 (ctake_F F G e c m ex) 92 5 (nI (lead (chu m b (ctake_G G e c m) 94) (401 - rc) rc)) by simp only [chd_F, h1, h2, if_true], show chd_G G e c b m nx bu = chu m b (ctake_G G e c m) by simp only [chd_G, h1, h2, if_true]] at k
      refine pw_aload_n rfl rfl ?_
      refine px_getv (x := nI (b)) rfl rfl hsx rfl (hb1) ?_
      refine pw_aload_n rfl rfl ?_
      refine px_getv (x := nI (m)) rfl rfl hsx rfl (hm) ?_
      refine pw_iadd (z := nI (b + m)) rfl (nI_add _ _) ?_
      refine pw_istore_n (ls1 := [some (.inr (some (92))), some (.inr (some (x))), some (.inr (some (e))), some (.inl (nI (b + m))), none]) rfl (Nat.le_of_ble_eq_true rfl) rfl ?_
      refine pw_aload_n rfl rfl ?_
      refine pw_aload_n rfl rfl ?_
      refine px_getv (x := nI (c)) rfl rfl hsx rfl (hc) ?_
      refine px_callv (as := [.inr (some (e)), .inl (nI (c))]) (rest := []) rfl rfl (by decide) rfl (Nat.le_of_ble_eq_true rfl) (Nat.le_of_ble_eq_true rfl) (Nat.le_of_ble_eq_true rfl) (Nat.le_of_ble_eq_true rfl) rfl hA.1 rfl rfl ?_
      refine t_ctook hA hc1 ?_
      simp only [ctook_r, h1, if_true, if_false]
      show pw pP mHostB_hearData (18, [some (.inr (some (92))), some (.inr (some (x))), some (.inr (some (e))), some (.inl (nI (b + m))), none], [.inl (nI (0))], 0, 0, hb (sL L) F G R sO) _
      refine pw_if1 (t := 29) rfl rfl (fun q => absurd q (by decide)) (fun _ => ?_)
      refine pw_iload_n rfl rfl ?_
      refine pw_aload_n rfl rfl ?_
      refine px_callv (as := [.inr (some (92))]) (rest := [.inl (nI (b + m))]) rfl rfl (by decide) rfl (Nat.le_of_ble_eq_true rfl) (Nat.le_of_ble_eq_true rfl) (Nat.le_of_ble_eq_true rfl) (Nat.le_of_ble_eq_true rfl) rfl rfl rfl rfl ?_
      refine t_climit ?_
      simp only [climit_r, hnx, hbu, nI_add]
      show pw pP mHostB_hearData (26, [some (.inr (some (92))), some (.inr (some (x))), some (.inr (some (e))), some (.inl (nI (b + m))), none], [.inl (nI (nx + bu)), .inl (nI (b + m))], 0, 0, hb (sL L) F G R sO) _
      refine pw_if2p (cn_le (by omega) (by omega)) rfl (t := 30) rfl (fun _ => ?_) (fun q => absurd h2 q)
      refine pw_aload_n rfl rfl ?_
      refine pw_aload_n rfl rfl ?_
      refine px_getv (x := nI (c)) rfl rfl hsx rfl (hc) ?_
      refine pw_aload_n rfl rfl ?_
      refine px_getv (x := nI (m)) rfl rfl hsx rfl (hm) ?_
      refine px_callv (as := [.inr (some (e)), .inl (nI (c)), .inl (nI (m))]) (rest := []) rfl rfl (by decide) rfl (Nat.le_of_ble_eq_true rfl) (Nat.le_of_ble_eq_true rfl) (Nat.le_of_ble_eq_true rfl) (Nat.le_of_ble_eq_true rfl) rfl hA.1 rfl rfl ?_
      refine t_ctake hA hcm hex he4 ?_
      show pw pP mHostB_hearData (42, [some (.inr (some (92))), some (.inr (some (x))), some (.inr (some (e))), some (.inl (nI (b + m))), none], [], 0, 0, hb (sL L) (up2 F (e) (1) (nI (lead (ctk e c m c G (e + 1)) (402 - ex) ex))) (ctake_G G e c m) R sO) _
      refine pw_aload_n rfl rfl ?_
      refine px_getv (x := nI (b)) rfl rfl hsx rfl ((up2_ne (by omega)).trans (hb1)) ?_
      refine pw_istore (ls1 := [some (.inr (some (92))), some (.inr (some (x))), some (.inr (some (e))), some (.inl (nI (b + m))), some (.inl (nI (b)))]) rfl (Nat.le_of_ble_eq_true rfl) rfl ?_
      refine t_chd_1 hbm m b _ (by omega) ?_
      exact t_chd_2 (401 - rc) rc _ (by omega) ((up2_ne (by omega)).trans hrc) k
    · rw [show chd_F F G e c b m nx bu ex rc = F by simp only [chd_F, h1, h2, if_true, if_false], show chd_G G e c b m nx bu = G by simp only [chd_G, h1, h2, if_true, if_false]] at k
      refine pw_aload_n rfl rfl ?_
      refine px_getv (x := nI (b)) rfl rfl hsx rfl (hb1) ?_
      refine pw_aload_n rfl rfl ?_
      refine px_getv (x := nI (m)) rfl rfl hsx rfl (hm) ?_
      refine pw_iadd (z := nI (b + m)) rfl (nI_add _ _) ?_
      refine pw_istore_n (ls1 := [some (.inr (some (92))), some (.inr (some (x))), some (.inr (some (e))), some (.inl (nI (b + m))), none]) rfl (Nat.le_of_ble_eq_true rfl) rfl ?_
      refine pw_aload_n rfl rfl ?_
      refine pw_aload_n rfl rfl ?_
      refine px_getv (x := nI (c)) rfl rfl hsx rfl (hc) ?_
      refine px_callv (as := [.inr (some (e)), .inl (nI (c))]) (rest := []) rfl rfl (by decide) rfl (Nat.le_of_ble_eq_true rfl) (Nat.le_of_ble_eq_true rfl) (Nat.le_of_ble_eq_true rfl) (Nat.le_of_ble_eq_true rfl) rfl hA.1 rfl rfl ?_
      refine t_ctook hA hc1 ?_
      simp only [ctook_r, h1, if_true, if_false]
      show pw pP mHostB_hearData (18, [some (.inr (some (92))), some (.inr (some (x))), some (.inr (some (e))), some (.inl (nI (b + m))), none], [.inl (nI (0))], 0, 0, hb (sL L) F G R sO) _
      refine pw_if1 (t := 29) rfl rfl (fun q => absurd q (by decide)) (fun _ => ?_)
      refine pw_iload_n rfl rfl ?_
      refine pw_aload_n rfl rfl ?_
      refine px_callv (as := [.inr (some (92))]) (rest := [.inl (nI (b + m))]) rfl rfl (by decide) rfl (Nat.le_of_ble_eq_true rfl) (Nat.le_of_ble_eq_true rfl) (Nat.le_of_ble_eq_true rfl) (Nat.le_of_ble_eq_true rfl) rfl rfl rfl rfl ?_
      refine t_climit ?_
      simp only [climit_r, hnx, hbu, nI_add]
      show pw pP mHostB_hearData (26, [some (.inr (some (92))), some (.inr (some (x))), some (.inr (some (e))), some (.inl (nI (b + m))), none], [.inl (nI (nx + bu)), .inl (nI (b + m))], 0, 0, hb (sL L) F G R sO) _
      refine pw_if2p (cn_le (by omega) (by omega)) rfl (t := 30) rfl (fun q => absurd q h2) (fun _ => ?_)
      exact pw_vret rfl rfl (Nat.zero_le _) (Nat.zero_le _) k
  · rw [show chd_F F G e c b m nx bu ex rc = F by simp only [chd_F, h1, if_false], show chd_G G e c b m nx bu = G by simp only [chd_G, h1, if_false]] at k
    refine pw_aload_n rfl rfl ?_
    refine px_getv (x := nI (b)) rfl rfl hsx rfl (hb1) ?_
    refine pw_aload_n rfl rfl ?_
    refine px_getv (x := nI (m)) rfl rfl hsx rfl (hm) ?_
    refine pw_iadd (z := nI (b + m)) rfl (nI_add _ _) ?_
    refine pw_istore_n (ls1 := [some (.inr (some (92))), some (.inr (some (x))), some (.inr (some (e))), some (.inl (nI (b + m))), none]) rfl (Nat.le_of_ble_eq_true rfl) rfl ?_
    refine pw_aload_n rfl rfl ?_
    refine pw_aload_n rfl rfl ?_
    refine px_getv (x := nI (c)) rfl rfl hsx rfl (hc) ?_
    refine px_callv (as := [.inr (some (e)), .inl (nI (c))]) (rest := []) rfl rfl (by decide) rfl (Nat.le_of_ble_eq_true rfl) (Nat.le_of_ble_eq_true rfl) (Nat.le_of_ble_eq_true rfl) (Nat.le_of_ble_eq_true rfl) rfl hA.1 rfl rfl ?_
    refine t_ctook hA hc1 ?_
    simp only [ctook_r, h1, if_true, if_false]
    show pw pP mHostB_hearData (18, [some (.inr (some (92))), some (.inr (some (x))), some (.inr (some (e))), some (.inl (nI (b + m))), none], [.inl (nI (1))], 0, 0, hb (sL L) F G R sO) _
    refine pw_if1 (t := 29) rfl rfl (fun _ => ?_) (fun q => absurd q (by decide))
    exact pw_vret rfl rfl (Nat.zero_le _) (Nat.zero_le _) k
theorem chd_F_ne {F G : FN} {e c b m nx bu ex rc i k : Nat} (h1 : ¬ (i = e ∧ k = 1)) (h2 : ¬ (i = 92 ∧ k = 5)) : chd_F F G e c b m nx bu ex rc i k = F i k := by
  unfold chd_F
  split
  · split
    · rw [up2_ne h2]; exact up2_ne h1
    · rfl
  · rfl
theorem t_chear1 {L p a e x x2 sz c b m nx bu ex rc : Nat} {t : Int32} {F G : FN} {R : RN} (hP : pathok L a R) (hA : arrok L e) (he : 95 ≤ e) (ha : a + 20 < 89) (hp : p < 4) (hR : R 93 p = some e) (hsx : (sL L)[x]? = some (2, 1, [0, 0, 0, 0, 0, 0], 0)) (hx9 : x < 92) (hsz : F (a + 9) 1 = nI sz) (hs6 : sz ≤ 6) (hx : sz < 6 → R (a + 9 + 1) sz = some x2 ∧ (sL L)[x2]? = some (2, 1, [0, 0, 0, 0, 0, 0], 0) ∧ a + 11 ≤ x2 ∧ x2 ≤ a + 16) (hk : F x 0 = nI 1) (hc : F x 2 = nI c) (hb1 : F x 3 = nI b) (hm : F x 1 = nI m) (hcm : c + m ≤ 402) (hc1 : c < 402) (hbm : b + m ≤ 401) (hnx : F 92 6 = nI nx) (hn4 : nx ≤ 401) (hbu : F 92 1 = nI bu) (hb5 : bu ≤ 56) (hex : F e 1 = nI ex) (he4 : ex ≤ 402) (hrc : F 92 5 = nI rc) (hr4 : rc ≤ 401) {Q : Option PV → PH → Prop} (k : Q none (hb (sL L) (cship (chd_F F G e c b m nx bu ex rc) a (a + 9) x2 sz t (nI 2) (nI 0) ((chd_F F G e c b m nx bu ex rc) e 1) ((chd_F F G e c b m nx bu ex rc) 92 5) ((chd_F F G e c b m nx bu ex rc) 92 6 + (chd_F F G e c b m nx bu ex rc) 92 1)) (chd_G G e c b m nx bu) R sO)) : pz pP mHostB_hear [.inr (some (92)), .inr (some (x)), .inl (nI (p)), .inr (some (a)), .inl (t)] (hb (sL L) F G R sO) Q := by
  show pw pP mHostB_hear (0, [some (.inr (some (92))), some (.inr (some (x))), some (.inl (nI (p))), some (.inr (some (a))), some (.inl (t)), none], [], 0, 0, hb (sL L) F G R sO) _
  refine pw_aload_n rfl rfl ?_
  refine px_getr (r := some (93)) rfl rfl rfl rfl rfl ?_
  refine pw_iload_n rfl rfl ?_
  refine px_aaldn (r := (some (e))) rfl rfl rfl (by omega) (by decide) (hR) ?_
  refine pw_astore (ls1 := [some (.inr (some (92))), some (.inr (some (x))), some (.inl (nI (p))), some (.inr (some (a))), some (.inl (t)), some (.inr (some (e)))]) rfl (Nat.le_of_ble_eq_true rfl) rfl ?_
  refine pw_aload_n rfl rfl ?_
  refine px_getv (x := nI (1)) rfl rfl hsx rfl (hk) ?_
  refine pw_iconst (v := nI (1)) rfl (by decide) ?_
  refine pw_if2 (t := 26) rfl rfl (fun q => absurd q (by decide)) (fun _ => ?_)
  refine pw_aload_n rfl rfl ?_
  refine pw_aload_n rfl rfl ?_
  refine pw_aload rfl rfl ?_
  refine px_callv (as := [.inr (some (92)), .inr (some (x)), .inr (some (e))]) (rest := []) rfl rfl (by decide) rfl (Nat.le_of_ble_eq_true rfl) (Nat.le_of_ble_eq_true rfl) (Nat.le_of_ble_eq_true rfl) (Nat.le_of_ble_eq_true rfl) rfl rfl rfl rfl ?_
  refine t_chd hA he hsx hx9 hc hb1 hm hcm hc1 hbm hnx hn4 hbu hb5 hex he4 hrc hr4 ?_
  show pw pP mHostB_hear (23, [some (.inr (some (92))), some (.inr (some (x))), some (.inl (nI (p))), some (.inr (some (a))), some (.inl (t)), some (.inr (some (e)))], [], 0, 0, hb (sL L) (chd_F F G e c b m nx bu ex rc) (chd_G G e c b m nx bu) R sO) _
  refine pw_goto (t := 75) rfl rfl ?_
  refine pw_aload_n rfl rfl ?_
  refine pw_aload_n rfl rfl ?_
  refine pw_iconst (v := nI (2)) rfl (by decide) ?_
  refine pw_aload rfl rfl ?_
  refine pw_iload rfl rfl ?_
  refine px_callv (as := [.inr (some (92)), .inr (some (a)), .inl (nI (2)), .inr (some (e)), .inl (t)]) (rest := []) rfl rfl (by decide) rfl (Nat.le_of_ble_eq_true rfl) (Nat.le_of_ble_eq_true rfl) (Nat.le_of_ble_eq_true rfl) (Nat.le_of_ble_eq_true rfl) rfl rfl rfl rfl ?_
  refine t_cans2 hP hA he ha ((chd_F_ne (by omega) (by omega)).trans hsz) hs6 hx ?_
  show pw pP mHostB_hear (85, [some (.inr (some (92))), some (.inr (some (x))), some (.inl (nI (p))), some (.inr (some (a))), some (.inl (t)), some (.inr (some (e)))], [], 0, 0, hb (sL L) (cship (chd_F F G e c b m nx bu ex rc) a (a + 9) x2 sz t (nI 2) (nI 0) ((chd_F F G e c b m nx bu ex rc) e 1) ((chd_F F G e c b m nx bu ex rc) 92 5) ((chd_F F G e c b m nx bu ex rc) 92 6 + (chd_F F G e c b m nx bu ex rc) 92 1)) (chd_G G e c b m nx bu) R sO) _
  exact pw_vret rfl rfl (Nat.zero_le _) (Nat.zero_le _) k
theorem t_chear0a {L p a e x x2 sz ex : Nat} {t : Int32} {F G : FN} {R : RN} (hP : pathok L a R) (hA : arrok L e) (he : 95 ≤ e) (ha : a + 20 < 89) (hp : p < 4) (hR : R 93 p = some e) (hsx : (sL L)[x]? = some (2, 1, [0, 0, 0, 0, 0, 0], 0)) (hx9 : x < 92) (hsz : F (a + 9) 1 = nI sz) (hs6 : sz ≤ 6) (hx : sz < 6 → R (a + 9 + 1) sz = some x2 ∧ (sL L)[x2]? = some (2, 1, [0, 0, 0, 0, 0, 0], 0) ∧ a + 11 ≤ x2 ∧ x2 ≤ a + 16) (hk : F x 0 = nI 0) (hex : F e 1 = nI ex) (he4 : ex ≤ 402) (hne : ¬ ex = 0) {Q : Option PV → PH → Prop} (k : Q none (hb (sL L) (cship F a (a + 9) x2 sz t (nI 2) (nI 0) (F e 1) (F 92 5) (F 92 6 + F 92 1)) G R sO)) : pz pP mHostB_hear [.inr (some (92)), .inr (some (x)), .inl (nI (p)), .inr (some (a)), .inl (t)] (hb (sL L) F G R sO) Q := by
  show pw pP mHostB_hear (0, [some (.inr (some (92))), some (.inr (some (x))), some (.inl (nI (p))), some (.inr (some (a))), some (.inl (t)), none], [], 0, 0, hb (sL L) F G R sO) _
  refine pw_aload_n rfl rfl ?_
  refine px_getr (r := some (93)) rfl rfl rfl rfl rfl ?_
  refine pw_iload_n rfl rfl ?_
  refine px_aaldn (r := (some (e))) rfl rfl rfl (by omega) (by decide) (hR) ?_
  refine pw_astore (ls1 := [some (.inr (some (92))), some (.inr (some (x))), some (.inl (nI (p))), some (.inr (some (a))), some (.inl (t)), some (.inr (some (e)))]) rfl (Nat.le_of_ble_eq_true rfl) rfl ?_
  refine pw_aload_n rfl rfl ?_
  refine px_getv (x := nI (0)) rfl rfl hsx rfl (hk) ?_
  refine pw_iconst (v := nI (1)) rfl (by decide) ?_
  refine pw_if2 (t := 26) rfl rfl (fun _ => ?_) (fun q => absurd q (by decide))
  refine pw_aload rfl rfl ?_
  refine px_getv (x := nI (ex)) rfl rfl hA.1 rfl (hex) ?_
  refine pw_if1p (cz_ne (by omega)) rfl (t := 75) rfl (fun _ => ?_) (fun q => absurd hne q)
  refine pw_aload_n rfl rfl ?_
  refine pw_aload_n rfl rfl ?_
  refine pw_iconst (v := nI (2)) rfl (by decide) ?_
  refine pw_aload rfl rfl ?_
  refine pw_iload rfl rfl ?_
  refine px_callv (as := [.inr (some (92)), .inr (some (a)), .inl (nI (2)), .inr (some (e)), .inl (t)]) (rest := []) rfl rfl (by decide) rfl (Nat.le_of_ble_eq_true rfl) (Nat.le_of_ble_eq_true rfl) (Nat.le_of_ble_eq_true rfl) (Nat.le_of_ble_eq_true rfl) rfl rfl rfl rfl ?_
  refine t_cans2 hP hA he ha hsz hs6 hx ?_
  show pw pP mHostB_hear (85, [some (.inr (some (92))), some (.inr (some (x))), some (.inl (nI (p))), some (.inr (some (a))), some (.inl (t)), some (.inr (some (e)))], [], 0, 0, hb (sL L) (cship F a (a + 9) x2 sz t (nI 2) (nI 0) (F e 1) (F 92 5) (F 92 6 + F 92 1)) G R sO) _
  exact pw_vret rfl rfl (Nat.zero_le _) (Nat.zero_le _) k
theorem t_chear0b {L p a e x x2 sz : Nat} {t : Int32} {F G : FN} {R : RN} (hP : pathok L a R) (hA : arrok L e) (he : 95 ≤ e) (ha : a + 20 < 89) (hp : p < 4) (hR : R 93 p = some e) (hsx : (sL L)[x]? = some (2, 1, [0, 0, 0, 0, 0, 0], 0)) (hx9 : x < 92) (hsz : F (a + 9) 1 = nI sz) (hs6 : sz ≤ 6) (hx : sz < 6 → R (a + 9 + 1) sz = some x2 ∧ (sL L)[x2]? = some (2, 1, [0, 0, 0, 0, 0, 0], 0) ∧ a + 11 ≤ x2 ∧ x2 ≤ a + 16) (hk : F x 0 = nI 0) (hex : F e 1 = nI 0) (hok : F 92 7 = 0 ∨ F x 3 = F 92 2) {Q : Option PV → PH → Prop} (k : Q none (hb (sL L) (cship (up2 (up2 F 92 7 (nI 1)) e 1 (nI (lead (ctk e 0 1 0 G (e + 1)) 402 0))) a (a + 9) x2 sz t (nI 2) (nI 0) ((up2 (up2 F 92 7 (nI 1)) e 1 (nI (lead (ctk e 0 1 0 G (e + 1)) 402 0))) e 1) ((up2 (up2 F 92 7 (nI 1)) e 1 (nI (lead (ctk e 0 1 0 G (e + 1)) 402 0))) 92 5) ((up2 (up2 F 92 7 (nI 1)) e 1 (nI (lead (ctk e 0 1 0 G (e + 1)) 402 0))) 92 6 + (up2 (up2 F 92 7 (nI 1)) e 1 (nI (lead (ctk e 0 1 0 G (e + 1)) 402 0))) 92 1)) (ctake_G G e 0 1) R sO)) : pz pP mHostB_hear [.inr (some (92)), .inr (some (x)), .inl (nI (p)), .inr (some (a)), .inl (t)] (hb (sL L) F G R sO) Q := by
  show pw pP mHostB_hear (0, [some (.inr (some (92))), some (.inr (some (x))), some (.inl (nI (p))), some (.inr (some (a))), some (.inl (t)), none], [], 0, 0, hb (sL L) F G R sO) _
  refine pw_aload_n rfl rfl ?_
  refine px_getr (r := some (93)) rfl rfl rfl rfl rfl ?_
  refine pw_iload_n rfl rfl ?_
  refine px_aaldn (r := (some (e))) rfl rfl rfl (by omega) (by decide) (hR) ?_
  refine pw_astore (ls1 := [some (.inr (some (92))), some (.inr (some (x))), some (.inl (nI (p))), some (.inr (some (a))), some (.inl (t)), some (.inr (some (e)))]) rfl (Nat.le_of_ble_eq_true rfl) rfl ?_
  refine pw_aload_n rfl rfl ?_
  refine px_getv (x := nI (0)) rfl rfl hsx rfl (hk) ?_
  refine pw_iconst (v := nI (1)) rfl (by decide) ?_
  refine pw_if2 (t := 26) rfl rfl (fun _ => ?_) (fun q => absurd q (by decide))
  refine pw_aload rfl rfl ?_
  refine px_getv (x := nI (0)) rfl rfl hA.1 rfl (hex) ?_
  refine pw_if1 (t := 75) rfl rfl (fun q => absurd q (by decide)) (fun _ => ?_)
  refine pw_aload_n rfl rfl ?_
  refine px_getv (x := F (92) (7)) rfl rfl rfl rfl (rfl) ?_
  refine pw_if1p (A := F (92) (7) = 0) rfl rfl (t := 63) rfl (fun c1 => ?_) (fun c1 => ?_)
  · -- 63
    refine pw_aload_n rfl rfl ?_
    refine pw_iconst (v := nI (1)) rfl (by decide) ?_
    refine px_put rfl rfl rfl rfl rfl ?_
    refine pw_aload rfl rfl ?_
    refine pw_iconst (v := nI (0)) rfl (by decide) ?_
    refine pw_iconst (v := nI (1)) rfl (by decide) ?_
    refine px_callv (as := [.inr (some (e)), .inl (nI (0)), .inl (nI (1))]) (rest := []) rfl rfl (by decide) rfl (Nat.le_of_ble_eq_true rfl) (Nat.le_of_ble_eq_true rfl) (Nat.le_of_ble_eq_true rfl) (Nat.le_of_ble_eq_true rfl) rfl hA.1 rfl rfl ?_
    refine t_ctake hA (by omega) ((up2_ne (by omega)).trans hex) (by omega) ?_
    show pw pP mHostB_hear (75, [some (.inr (some (92))), some (.inr (some (x))), some (.inl (nI (p))), some (.inr (some (a))), some (.inl (t)), some (.inr (some (e)))], [], 0, 0, hb (sL L) (up2 (up2 F 92 7 (nI 1)) e 1 (nI (lead (ctk e 0 1 0 G (e + 1)) 402 0))) (ctake_G G e 0 1) R sO) _
    refine pw_aload_n rfl rfl ?_
    refine pw_aload_n rfl rfl ?_
    refine pw_iconst (v := nI (2)) rfl (by decide) ?_
    refine pw_aload rfl rfl ?_
    refine pw_iload rfl rfl ?_
    refine px_callv (as := [.inr (some (92)), .inr (some (a)), .inl (nI (2)), .inr (some (e)), .inl (t)]) (rest := []) rfl rfl (by decide) rfl (Nat.le_of_ble_eq_true rfl) (Nat.le_of_ble_eq_true rfl) (Nat.le_of_ble_eq_true rfl) (Nat.le_of_ble_eq_true rfl) rfl rfl rfl rfl ?_
    refine t_cans2 hP hA he ha ((up2_ne (by omega)).trans ((up2_ne (by omega)).trans hsz)) hs6 hx ?_
    show pw pP mHostB_hear (85, [some (.inr (some (92))), some (.inr (some (x))), some (.inl (nI (p))), some (.inr (some (a))), some (.inl (t)), some (.inr (some (e)))], [], 0, 0, hb (sL L) (cship (up2 (up2 F 92 7 (nI 1)) e 1 (nI (lead (ctk e 0 1 0 G (e + 1)) 402 0))) a (a + 9) x2 sz t (nI 2) (nI 0) ((up2 (up2 F 92 7 (nI 1)) e 1 (nI (lead (ctk e 0 1 0 G (e + 1)) 402 0))) e 1) ((up2 (up2 F 92 7 (nI 1)) e 1 (nI (lead (ctk e 0 1 0 G (e + 1)) 402 0))) 92 5) ((up2 (up2 F 92 7 (nI 1)) e 1 (nI (lead (ctk e 0 1 0 G (e + 1)) 402 0))) 92 6 + (up2 (up2 F 92 7 (nI 1)) e 1 (nI (lead (ctk e 0 1 0 G (e + 1)) 402 0))) 92 1)) (ctake_G G e 0 1) R sO) _
    exact pw_vret rfl rfl (Nat.zero_le _) (Nat.zero_le _) k
  · -- 41
    refine pw_aload_n rfl rfl ?_
    refine px_getv (x := F (x) (3)) rfl rfl hsx rfl (rfl) ?_
    refine pw_aload_n rfl rfl ?_
    refine px_getv (x := F (92) (2)) rfl rfl rfl rfl (rfl) ?_
    refine pw_if2p (A := F (x) (3) = F (92) (2)) rfl rfl (t := 63) rfl (fun c2 => ?_) (fun c2 => ?_)
    · -- 63
      refine pw_aload_n rfl rfl ?_
      refine pw_iconst (v := nI (1)) rfl (by decide) ?_
      refine px_put rfl rfl rfl rfl rfl ?_
      refine pw_aload rfl rfl ?_
      refine pw_iconst (v := nI (0)) rfl (by decide) ?_
      refine pw_iconst (v := nI (1)) rfl (by decide) ?_
      refine px_callv (as := [.inr (some (e)), .inl (nI (0)), .inl (nI (1))]) (rest := []) rfl rfl (by decide) rfl (Nat.le_of_ble_eq_true rfl) (Nat.le_of_ble_eq_true rfl) (Nat.le_of_ble_eq_true rfl) (Nat.le_of_ble_eq_true rfl) rfl hA.1 rfl rfl ?_
      refine t_ctake hA (by omega) ((up2_ne (by omega)).trans hex) (by omega) ?_
      show pw pP mHostB_hear (75, [some (.inr (some (92))), some (.inr (some (x))), some (.inl (nI (p))), some (.inr (some (a))), some (.inl (t)), some (.inr (some (e)))], [], 0, 0, hb (sL L) (up2 (up2 F 92 7 (nI 1)) e 1 (nI (lead (ctk e 0 1 0 G (e + 1)) 402 0))) (ctake_G G e 0 1) R sO) _
      refine pw_aload_n rfl rfl ?_
      refine pw_aload_n rfl rfl ?_
      refine pw_iconst (v := nI (2)) rfl (by decide) ?_
      refine pw_aload rfl rfl ?_
      refine pw_iload rfl rfl ?_
      refine px_callv (as := [.inr (some (92)), .inr (some (a)), .inl (nI (2)), .inr (some (e)), .inl (t)]) (rest := []) rfl rfl (by decide) rfl (Nat.le_of_ble_eq_true rfl) (Nat.le_of_ble_eq_true rfl) (Nat.le_of_ble_eq_true rfl) (Nat.le_of_ble_eq_true rfl) rfl rfl rfl rfl ?_
      refine t_cans2 hP hA he ha ((up2_ne (by omega)).trans ((up2_ne (by omega)).trans hsz)) hs6 hx ?_
      show pw pP mHostB_hear (85, [some (.inr (some (92))), some (.inr (some (x))), some (.inl (nI (p))), some (.inr (some (a))), some (.inl (t)), some (.inr (some (e)))], [], 0, 0, hb (sL L) (cship (up2 (up2 F 92 7 (nI 1)) e 1 (nI (lead (ctk e 0 1 0 G (e + 1)) 402 0))) a (a + 9) x2 sz t (nI 2) (nI 0) ((up2 (up2 F 92 7 (nI 1)) e 1 (nI (lead (ctk e 0 1 0 G (e + 1)) 402 0))) e 1) ((up2 (up2 F 92 7 (nI 1)) e 1 (nI (lead (ctk e 0 1 0 G (e + 1)) 402 0))) 92 5) ((up2 (up2 F 92 7 (nI 1)) e 1 (nI (lead (ctk e 0 1 0 G (e + 1)) 402 0))) 92 6 + (up2 (up2 F 92 7 (nI 1)) e 1 (nI (lead (ctk e 0 1 0 G (e + 1)) 402 0))) 92 1)) (ctake_G G e 0 1) R sO) _
      exact pw_vret rfl rfl (Nat.zero_le _) (Nat.zero_le _) k
    · -- 52
      exact absurd hok (by intro h; cases h with | inl h => exact c1 h | inr h => exact c2 h)
theorem t_chear0c {L p a e x x2 sz : Nat} {t : Int32} {F G : FN} {R : RN} (hP : pathok L a R) (hA : arrok L e) (he : 95 ≤ e) (ha : a + 20 < 89) (hp : p < 4) (hR : R 93 p = some e) (hsx : (sL L)[x]? = some (2, 1, [0, 0, 0, 0, 0, 0], 0)) (hx9 : x < 92) (hsz : F (a + 9) 1 = nI sz) (hs6 : sz ≤ 6) (hx : sz < 6 → R (a + 9 + 1) sz = some x2 ∧ (sL L)[x2]? = some (2, 1, [0, 0, 0, 0, 0, 0], 0) ∧ a + 11 ≤ x2 ∧ x2 ≤ a + 16) (hk : F x 0 = nI 0) (hex : F e 1 = nI 0) (h7 : ¬ F 92 7 = 0) (h3 : ¬ F x 3 = F 92 2) {Q : Option PV → PH → Prop} (k : Q none (hb (sL L) (cship F a (a + 9) x2 sz t (nI 3) (nI 0) (nI 0) (nI 0) (nI 0)) G R sO)) : pz pP mHostB_hear [.inr (some (92)), .inr (some (x)), .inl (nI (p)), .inr (some (a)), .inl (t)] (hb (sL L) F G R sO) Q := by
  show pw pP mHostB_hear (0, [some (.inr (some (92))), some (.inr (some (x))), some (.inl (nI (p))), some (.inr (some (a))), some (.inl (t)), none], [], 0, 0, hb (sL L) F G R sO) _
  refine pw_aload_n rfl rfl ?_
  refine px_getr (r := some (93)) rfl rfl rfl rfl rfl ?_
  refine pw_iload_n rfl rfl ?_
  refine px_aaldn (r := (some (e))) rfl rfl rfl (by omega) (by decide) (hR) ?_
  refine pw_astore (ls1 := [some (.inr (some (92))), some (.inr (some (x))), some (.inl (nI (p))), some (.inr (some (a))), some (.inl (t)), some (.inr (some (e)))]) rfl (Nat.le_of_ble_eq_true rfl) rfl ?_
  refine pw_aload_n rfl rfl ?_
  refine px_getv (x := nI (0)) rfl rfl hsx rfl (hk) ?_
  refine pw_iconst (v := nI (1)) rfl (by decide) ?_
  refine pw_if2 (t := 26) rfl rfl (fun _ => ?_) (fun q => absurd q (by decide))
  refine pw_aload rfl rfl ?_
  refine px_getv (x := nI (0)) rfl rfl hA.1 rfl (hex) ?_
  refine pw_if1 (t := 75) rfl rfl (fun q => absurd q (by decide)) (fun _ => ?_)
  refine pw_aload_n rfl rfl ?_
  refine px_getv (x := F (92) (7)) rfl rfl rfl rfl (rfl) ?_
  refine pw_if1p (A := F (92) (7) = 0) rfl rfl (t := 63) rfl (fun q => absurd q h7) (fun _ => ?_)
  refine pw_aload_n rfl rfl ?_
  refine px_getv (x := F (x) (3)) rfl rfl hsx rfl (rfl) ?_
  refine pw_aload_n rfl rfl ?_
  refine px_getv (x := F (92) (2)) rfl rfl rfl rfl (rfl) ?_
  refine pw_if2p (A := F (x) (3) = F (92) (2)) rfl rfl (t := 63) rfl (fun q => absurd q h3) (fun _ => ?_)
  refine pw_aload_n rfl rfl ?_
  refine pw_aload_n rfl rfl ?_
  refine pw_iconst (v := nI (3)) rfl (by decide) ?_
  refine pw_aload rfl rfl ?_
  refine pw_iload rfl rfl ?_
  refine px_callv (as := [.inr (some (92)), .inr (some (a)), .inl (nI (3)), .inr (some (e)), .inl (t)]) (rest := []) rfl rfl (by decide) rfl (Nat.le_of_ble_eq_true rfl) (Nat.le_of_ble_eq_true rfl) (Nat.le_of_ble_eq_true rfl) (Nat.le_of_ble_eq_true rfl) rfl rfl rfl rfl ?_
  refine t_cans3 hP hA he ha hsz hs6 hx ?_
  show pw pP mHostB_hear (62, [some (.inr (some (92))), some (.inr (some (x))), some (.inl (nI (p))), some (.inr (some (a))), some (.inl (t)), some (.inr (some (e)))], [], 0, 0, hb (sL L) (cship F a (a + 9) x2 sz t (nI 3) (nI 0) (nI 0) (nI 0) (nI 0)) G R sO) _
  exact pw_vret rfl rfl (Nat.zero_le _) (Nat.zero_le _) k
/-- HostB_takeNext -/
def cnext_r (F G : FN) (nx rc ln : Nat) : Int32 := (if nx < rc then (if ¬ cval_r G nx ln = nI (256) then cval_r G nx ln else (-2)) else (-1))
/-- HostB_takeNext -/
def cnext_F (F G : FN) (nx rc ln : Nat) : FN := (if nx < rc then (if ¬ cval_r G nx ln = nI (256) then (up2 F (92) (6) (nI (nx + 1))) else F) else F)
theorem t_cnext {L nx rc ln : Nat} {F G : FN} {R : RN} (hnx : F 92 6 = nI nx) (hn4 : nx ≤ 401) (hrc : F 92 5 = nI rc) (hr4 : rc ≤ 401) (hln : F 2 1 = nI ln) (hl : ln ≤ 401) {Q : Option PV → PH → Prop} (k : Q (some (.inl (cnext_r F G nx rc ln))) (hb (sL L) (cnext_F F G nx rc ln) G R sO)) : pz pP mHostB_takeNext [.inr (some (92))] (hb (sL L) F G R sO) Q := by
  show pw pP mHostB_takeNext (0, [some (.inr (some (92))), none], [], 0, 0, hb (sL L) F G R sO) _
  refine pw_aload_n rfl rfl ?_
  refine px_getv (x := nI (nx)) rfl rfl rfl rfl (hnx) ?_
  refine pw_aload_n rfl rfl ?_
  refine px_getv (x := nI (rc)) rfl rfl rfl rfl (hrc) ?_
  refine pw_if2p (cn_lt (by omega) (by omega)) rfl (t := 13) rfl (fun c1 => ?_) (fun c1 => ?_)
  · -- 13
    refine pw_aload_n rfl rfl ?_
    refine px_getr (r := some (2)) rfl rfl rfl rfl rfl ?_
    refine pw_aload_n rfl rfl ?_
    refine px_getv (x := nI (nx)) rfl rfl rfl rfl (hnx) ?_
    refine px_callv (as := [.inr (some (2)), .inl (nI (nx))]) (rest := []) rfl rfl (by decide) rfl (Nat.le_of_ble_eq_true rfl) (Nat.le_of_ble_eq_true rfl) (Nat.le_of_ble_eq_true rfl) (Nat.le_of_ble_eq_true rfl) rfl rfl rfl rfl ?_
    refine t_cval hln hl (by omega) ?_
    show pw pP mHostB_takeNext (24, [some (.inr (some (92))), none], [.inl (cval_r G nx ln)], 0, 0, hb (sL L) F G R sO) _
    refine pw_istore_n (ls1 := [some (.inr (some (92))), some (.inl (cval_r G nx ln))]) rfl (Nat.le_of_ble_eq_true rfl) rfl ?_
    refine pw_iload_n rfl rfl ?_
    refine pw_sipush (v := nI (256)) rfl (by decide) ?_
    refine pw_if2p (A := ¬ cval_r G nx ln = nI (256)) rfl rfl (t := 35) rfl (fun c2 => ?_) (fun c2 => ?_)
    · -- 35
      refine pw_aload_n rfl rfl ?_
      refine pw_dup rfl ?_
      refine px_getv (x := nI (nx)) rfl rfl rfl rfl (hnx) ?_
      refine pw_iconst (v := nI (1)) rfl (by decide) ?_
      refine pw_iadd (z := nI (nx + 1)) rfl (nI_add _ _) ?_
      refine px_put rfl rfl rfl rfl rfl ?_
      refine pw_iload_n rfl rfl ?_
      exact pw_iret rfl rfl (Nat.zero_le _) (Nat.zero_le _) rfl (by simp only [cnext_r, cnext_F, c1, c2, if_true, if_false] at k; exact k)
    · -- 32
      refine pw_bipush (v := (-2)) rfl (by decide) ?_
      exact pw_iret rfl rfl (Nat.zero_le _) (Nat.zero_le _) rfl (by simp only [cnext_r, cnext_F, c1, c2, if_true, if_false] at k; exact k)
  · -- 11
    refine pw_iconst (v := (-1)) rfl (by decide) ?_
    exact pw_iret rfl rfl (Nat.zero_le _) (Nat.zero_le _) rfl (by simp only [cnext_r, cnext_F, c1, if_true, if_false] at k; exact k)
end
section
/-! THE CLASS, fourth part: host A sends. Rows laid by a program (wip/whole/gen/class4.py). -/
/-- the counts of a sending -/
def ctr (F : FN) (a s : Nat) (t : Int32) : FN := up2 (up2 (up2 F s 5 (F s 5 + nI 1)) s 4 t) a 13 (F a 13 + nI 1)
theorem ctr_ne {F : FN} {a s i k : Nat} {t : Int32} (h1 : ¬ (i = s ∧ k = 5)) (h2 : ¬ (i = s ∧ k = 4)) (h3 : ¬ (i = a ∧ k = 13)) : ctr F a s t i k = F i k := by
  unfold ctr
  rw [up2_ne h3, up2_ne h2, up2_ne h1]
def ctr0_F (F : FN) (a s x sz : Nat) (t : Int32) : FN := cship (ctr F a s t) a (a + 1) x sz t (nI 0) (nI 0) (nI 0) (F a 7) (nI 0)
def clast (G : FN) (v ln : Nat) : Int32 := if ¬ cval_r G v ln = nI 256 then nI 0 else nI 1
def ctr1_F (F G : FN) (a s x sz : Nat) (t : Int32) (c u m ln : Nat) : FN := cship (ctr F a s t) a (a + 1) x sz t (nI 1) (nI m) (nI c) (nI u) (clast G (u + m - 1) ln)
theorem t_ctr0 {L a s x sz : Nat} {t : Int32} {F G : FN} {R : RN} (hP : pathok L a R) (ha : 4 < a ∧ a + 20 < 89) (hss : (sL L)[s]? = some (2, 6, [0, 0, 0, 0, 0, 0], 0)) (hsr : a + 18 ≤ s ∧ s ≤ a + 20) (hsz : F (a + 1) 1 = nI sz) (hs6 : sz ≤ 6) (hx : sz < 6 → R (a + 1 + 1) sz = some x ∧ (sL L)[x]? = some (2, 1, [0, 0, 0, 0, 0, 0], 0) ∧ a + 3 ≤ x ∧ x ≤ a + 8) (hun : F s 3 = nI 0) {Q : Option PV → PH → Prop} (k : Q none (hb (sL L) (ctr0_F F a s x sz t) G R sO)) : pz pP mHostA_transmit [.inr (some (89)), .inr (some (a)), .inr (some (s)), .inl (t)] (hb (sL L) F G R sO) Q := by
  show pw pP mHostA_transmit (0, [some (.inr (some (89))), some (.inr (some (a))), some (.inr (some (s))), some (.inl (t)), none, none], [], 0, 0, hb (sL L) F G R sO) _
  have h6 : (ctr F a s t) a 6 = F a 6 := ctr_ne (by omega) (by omega) (by omega)
  have hz : (ctr F a s t) (a + 1) 1 = nI sz := (ctr_ne (by omega) (by omega) (by omega)).trans hsz
  by_cases hd : (ctr F a s t) a 6 = 0
  · rw [ctr0_F, cship_0 hd] at k
    refine pw_aload_n rfl rfl ?_
    refine pw_dup rfl ?_
    refine px_getv (x := F (s) (5)) rfl rfl hss rfl (rfl) ?_
    refine pw_iconst (v := nI (1)) rfl (by decide) ?_
    refine pw_iadd (z := (F (s) (5)) + (nI (1))) rfl rfl ?_
    refine px_put rfl rfl hss rfl rfl ?_
    refine pw_aload_n rfl rfl ?_
    refine pw_iload_n rfl rfl ?_
    refine px_put rfl rfl hss rfl rfl ?_
    refine pw_aload_n rfl rfl ?_
    refine pw_dup rfl ?_
    refine px_getv (x := F (a) (13)) rfl rfl hP.1 rfl ((up2_ne (by omega)).trans (up2_ne (by omega))) ?_
    refine pw_iconst (v := nI (1)) rfl (by decide) ?_
    refine pw_iadd (z := (F (a) (13)) + (nI (1))) rfl rfl ?_
    refine px_put rfl rfl hP.1 rfl rfl ?_
    refine pw_aload_n rfl rfl ?_
    refine pw_iconst (v := nI (0)) rfl (by decide) ?_
    refine pw_iload_n rfl rfl ?_
    refine px_callv (as := [.inr (some (a)), .inl (nI (0)), .inl (t)]) (rest := []) rfl rfl (by decide) rfl (Nat.le_of_ble_eq_true rfl) (Nat.le_of_ble_eq_true rfl) (Nat.le_of_ble_eq_true rfl) (Nat.le_of_ble_eq_true rfl) rfl hP.1 rfl rfl ?_
    refine t_cdisp0_0 hP hd ?_
    show pw pP mHostA_transmit (31, [some (.inr (some (89))), some (.inr (some (a))), some (.inr (some (s))), some (.inl (t)), none, none], [.inr none], 0, 0, hb (sL L) (up2 (up2 (up2 F (s) (5) ((F (s) (5)) + (nI (1)))) (s) (4) (t)) (a) (13) ((F (a) (13)) + (nI (1)))) G R sO) _
    refine pw_astore (ls1 := [some (.inr (some (89))), some (.inr (some (a))), some (.inr (some (s))), some (.inl (t)), some (.inr none), none]) rfl (Nat.le_of_ble_eq_true rfl) rfl ?_
    refine pw_aload rfl rfl ?_
    refine pw_ifnonnullN (t := 39) rfl rfl ?_
    exact pw_vret rfl rfl (Nat.zero_le _) (Nat.zero_le _) k
  by_cases h66 : 6 ≤ sz
  · rw [ctr0_F, cship_6 h66] at k
    have e6 : sz = 6 := by omega
    subst e6
    refine pw_aload_n rfl rfl ?_
    refine pw_dup rfl ?_
    refine px_getv (x := F (s) (5)) rfl rfl hss rfl (rfl) ?_
    refine pw_iconst (v := nI (1)) rfl (by decide) ?_
    refine pw_iadd (z := (F (s) (5)) + (nI (1))) rfl rfl ?_
    refine px_put rfl rfl hss rfl rfl ?_
    refine pw_aload_n rfl rfl ?_
    refine pw_iload_n rfl rfl ?_
    refine px_put rfl rfl hss rfl rfl ?_
    refine pw_aload_n rfl rfl ?_
    refine pw_dup rfl ?_
    refine px_getv (x := F (a) (13)) rfl rfl hP.1 rfl ((up2_ne (by omega)).trans (up2_ne (by omega))) ?_
    refine pw_iconst (v := nI (1)) rfl (by decide) ?_
    refine pw_iadd (z := (F (a) (13)) + (nI (1))) rfl rfl ?_
    refine px_put rfl rfl hP.1 rfl rfl ?_
    refine pw_aload_n rfl rfl ?_
    refine pw_iconst (v := nI (0)) rfl (by decide) ?_
    refine pw_iload_n rfl rfl ?_
    refine px_callv (as := [.inr (some (a)), .inl (nI (0)), .inl (t)]) (rest := []) rfl rfl (by decide) rfl (Nat.le_of_ble_eq_true rfl) (Nat.le_of_ble_eq_true rfl) (Nat.le_of_ble_eq_true rfl) (Nat.le_of_ble_eq_true rfl) rfl hP.1 rfl rfl ?_
    refine t_cdisp0_6 hP hd hz ?_
    show pw pP mHostA_transmit (31, [some (.inr (some (89))), some (.inr (some (a))), some (.inr (some (s))), some (.inl (t)), none, none], [.inr none], 0, 0, hb (sL L) (up2 (up2 (up2 F (s) (5) ((F (s) (5)) + (nI (1)))) (s) (4) (t)) (a) (13) ((F (a) (13)) + (nI (1)))) G R sO) _
    refine pw_astore (ls1 := [some (.inr (some (89))), some (.inr (some (a))), some (.inr (some (s))), some (.inl (t)), some (.inr none), none]) rfl (Nat.le_of_ble_eq_true rfl) rfl ?_
    refine pw_aload rfl rfl ?_
    refine pw_ifnonnullN (t := 39) rfl rfl ?_
    exact pw_vret rfl rfl (Nat.zero_le _) (Nat.zero_le _) k
  obtain ⟨hx1, hsx, hxr⟩ := hx (by omega)
  rw [ctr0_F, cship_y hd (by omega)] at k
  refine pw_aload_n rfl rfl ?_
  refine pw_dup rfl ?_
  refine px_getv (x := F (s) (5)) rfl rfl hss rfl (rfl) ?_
  refine pw_iconst (v := nI (1)) rfl (by decide) ?_
  refine pw_iadd (z := (F (s) (5)) + (nI (1))) rfl rfl ?_
  refine px_put rfl rfl hss rfl rfl ?_
  refine pw_aload_n rfl rfl ?_
  refine pw_iload_n rfl rfl ?_
  refine px_put rfl rfl hss rfl rfl ?_
  refine pw_aload_n rfl rfl ?_
  refine pw_dup rfl ?_
  refine px_getv (x := F (a) (13)) rfl rfl hP.1 rfl ((up2_ne (by omega)).trans (up2_ne (by omega))) ?_
  refine pw_iconst (v := nI (1)) rfl (by decide) ?_
  refine pw_iadd (z := (F (a) (13)) + (nI (1))) rfl rfl ?_
  refine px_put rfl rfl hP.1 rfl rfl ?_
  refine pw_aload_n rfl rfl ?_
  refine pw_iconst (v := nI (0)) rfl (by decide) ?_
  refine pw_iload_n rfl rfl ?_
  refine px_callv (as := [.inr (some (a)), .inl (nI (0)), .inl (t)]) (rest := []) rfl rfl (by decide) rfl (Nat.le_of_ble_eq_true rfl) (Nat.le_of_ble_eq_true rfl) (Nat.le_of_ble_eq_true rfl) (Nat.le_of_ble_eq_true rfl) rfl hP.1 rfl rfl ?_
  refine t_cdisp0 hP hd hz (by omega) hx1 hsx ?_
  show pw pP mHostA_transmit (31, [some (.inr (some (89))), some (.inr (some (a))), some (.inr (some (s))), some (.inl (t)), none, none], [.inr (some (x))], 0, 0, hb (sL L) (up2 (up2 (up2 (up2 (up2 F (s) (5) ((F (s) (5)) + (nI (1)))) (s) (4) (t)) (a) (13) ((F (a) (13)) + (nI (1)))) (x) (5) (t + (ctr F a s t) a 6)) (a + 1) (1) (nI (sz + 1))) G R sO) _
  refine pw_astore (ls1 := [some (.inr (some (89))), some (.inr (some (a))), some (.inr (some (s))), some (.inl (t)), some (.inr (some (x))), none]) rfl (Nat.le_of_ble_eq_true rfl) rfl ?_
  refine pw_aload rfl rfl ?_
  refine pw_ifnonnull (t := 39) rfl rfl ?_
  refine pw_aload_n rfl rfl ?_
  refine px_getv (x := nI (0)) rfl rfl hss rfl (((up2_ne (by omega)).trans ((up2_ne (by omega)).trans ((up2_ne (by omega)).trans ((up2_ne2 (by decide)).trans (up2_ne2 (by decide)))))).trans (hun)) ?_
  refine pw_if1 (t := 62) rfl rfl (fun q => absurd q (by decide)) (fun _ => ?_)
  refine pw_aload rfl rfl ?_
  refine pw_iconst (v := nI (0)) rfl (by decide) ?_
  refine pw_iconst (v := nI (0)) rfl (by decide) ?_
  refine pw_iconst (v := nI (0)) rfl (by decide) ?_
  refine pw_aload_n rfl rfl ?_
  refine px_getv (x := F (a) (7)) rfl rfl hP.1 rfl ((up2_ne (by omega)).trans ((up2_ne (by omega)).trans ((up2_ne2 (by decide)).trans ((up2_ne (by omega)).trans (up2_ne (by omega)))))) ?_
  refine pw_iconst (v := nI (0)) rfl (by decide) ?_
  refine px_callv (as := [.inr (some (x)), .inl (nI (0)), .inl (nI (0)), .inl (nI (0)), .inl (F (a) (7)), .inl (nI (0))]) (rest := []) rfl rfl (by decide) rfl (Nat.le_of_ble_eq_true rfl) (Nat.le_of_ble_eq_true rfl) (Nat.le_of_ble_eq_true rfl) (Nat.le_of_ble_eq_true rfl) rfl hsx rfl rfl ?_
  refine t_cfill hsx ?_
  show pw pP mHostA_transmit (59, [some (.inr (some (89))), some (.inr (some (a))), some (.inr (some (s))), some (.inl (t)), some (.inr (some (x))), none], [], 0, 0, hb (sL L) (up2 (up2 (up2 (up2 (up2 (up2 (up2 (up2 (up2 (up2 F (s) (5) ((F (s) (5)) + (nI (1)))) (s) (4) (t)) (a) (13) ((F (a) (13)) + (nI (1)))) (x) (5) (t + (ctr F a s t) a 6)) (a + 1) (1) (nI (sz + 1))) (x) (0) (nI (0))) (x) (1) (nI (0))) (x) (2) (nI (0))) (x) (3) (F (a) (7))) (x) (4) (nI (0))) G R sO) _
  refine pw_goto (t := 113) rfl rfl ?_
  exact pw_vret rfl rfl (Nat.zero_le _) (Nat.zero_le _) k
theorem t_ctr1 {L a s x sz c u m ln : Nat} {t : Int32} {F G : FN} {R : RN} (hP : pathok L a R) (ha : 4 < a ∧ a + 20 < 89) (hss : (sL L)[s]? = some (2, 6, [0, 0, 0, 0, 0, 0], 0)) (hsr : a + 18 ≤ s ∧ s ≤ a + 20) (hsz : F (a + 1) 1 = nI sz) (hs6 : sz ≤ 6) (hx : sz < 6 → R (a + 1 + 1) sz = some x ∧ (sL L)[x]? = some (2, 1, [0, 0, 0, 0, 0, 0], 0) ∧ a + 3 ≤ x ∧ x ≤ a + 8) (hc : F s 0 = nI c) (hu : F s 2 = nI u) (hm : F s 3 = nI m) (hm0 : ¬ m = 0) (hum : u + m ≤ 500) (hln : F 2 1 = nI ln) (hl : ln ≤ 401) {Q : Option PV → PH → Prop} (k : Q none (hb (sL L) (ctr1_F F G a s x sz t c u m ln) G R sO)) : pz pP mHostA_transmit [.inr (some (89)), .inr (some (a)), .inr (some (s)), .inl (t)] (hb (sL L) F G R sO) Q := by
  show pw pP mHostA_transmit (0, [some (.inr (some (89))), some (.inr (some (a))), some (.inr (some (s))), some (.inl (t)), none, none], [], 0, 0, hb (sL L) F G R sO) _
  have h6 : (ctr F a s t) a 6 = F a 6 := ctr_ne (by omega) (by omega) (by omega)
  have hz : (ctr F a s t) (a + 1) 1 = nI sz := (ctr_ne (by omega) (by omega) (by omega)).trans hsz
  by_cases hd : (ctr F a s t) a 6 = 0
  · rw [ctr1_F, cship_0 hd] at k
    refine pw_aload_n rfl rfl ?_
    refine pw_dup rfl ?_
    refine px_getv (x := F (s) (5)) rfl rfl hss rfl (rfl) ?_
    refine pw_iconst (v := nI (1)) rfl (by decide) ?_
    refine pw_iadd (z := (F (s) (5)) + (nI (1))) rfl rfl ?_
    refine px_put rfl rfl hss rfl rfl ?_
    refine pw_aload_n rfl rfl ?_
    refine pw_iload_n rfl rfl ?_
    refine px_put rfl rfl hss rfl rfl ?_
    refine pw_aload_n rfl rfl ?_
    refine pw_dup rfl ?_
    refine px_getv (x := F (a) (13)) rfl rfl hP.1 rfl ((up2_ne (by omega)).trans (up2_ne (by omega))) ?_
    refine pw_iconst (v := nI (1)) rfl (by decide) ?_
    refine pw_iadd (z := (F (a) (13)) + (nI (1))) rfl rfl ?_
    refine px_put rfl rfl hP.1 rfl rfl ?_
    refine pw_aload_n rfl rfl ?_
    refine pw_iconst (v := nI (0)) rfl (by decide) ?_
    refine pw_iload_n rfl rfl ?_
    refine px_callv (as := [.inr (some (a)), .inl (nI (0)), .inl (t)]) (rest := []) rfl rfl (by decide) rfl (Nat.le_of_ble_eq_true rfl) (Nat.le_of_ble_eq_true rfl) (Nat.le_of_ble_eq_true rfl) (Nat.le_of_ble_eq_true rfl) rfl hP.1 rfl rfl ?_
    refine t_cdisp0_0 hP hd ?_
    show pw pP mHostA_transmit (31, [some (.inr (some (89))), some (.inr (some (a))), some (.inr (some (s))), some (.inl (t)), none, none], [.inr none], 0, 0, hb (sL L) (up2 (up2 (up2 F (s) (5) ((F (s) (5)) + (nI (1)))) (s) (4) (t)) (a) (13) ((F (a) (13)) + (nI (1)))) G R sO) _
    refine pw_astore (ls1 := [some (.inr (some (89))), some (.inr (some (a))), some (.inr (some (s))), some (.inl (t)), some (.inr none), none]) rfl (Nat.le_of_ble_eq_true rfl) rfl ?_
    refine pw_aload rfl rfl ?_
    refine pw_ifnonnullN (t := 39) rfl rfl ?_
    exact pw_vret rfl rfl (Nat.zero_le _) (Nat.zero_le _) k
  by_cases h66 : 6 ≤ sz
  · rw [ctr1_F, cship_6 h66] at k
    have e6 : sz = 6 := by omega
    subst e6
    refine pw_aload_n rfl rfl ?_
    refine pw_dup rfl ?_
    refine px_getv (x := F (s) (5)) rfl rfl hss rfl (rfl) ?_
    refine pw_iconst (v := nI (1)) rfl (by decide) ?_
    refine pw_iadd (z := (F (s) (5)) + (nI (1))) rfl rfl ?_
    refine px_put rfl rfl hss rfl rfl ?_
    refine pw_aload_n rfl rfl ?_
    refine pw_iload_n rfl rfl ?_
    refine px_put rfl rfl hss rfl rfl ?_
    refine pw_aload_n rfl rfl ?_
    refine pw_dup rfl ?_
    refine px_getv (x := F (a) (13)) rfl rfl hP.1 rfl ((up2_ne (by omega)).trans (up2_ne (by omega))) ?_
    refine pw_iconst (v := nI (1)) rfl (by decide) ?_
    refine pw_iadd (z := (F (a) (13)) + (nI (1))) rfl rfl ?_
    refine px_put rfl rfl hP.1 rfl rfl ?_
    refine pw_aload_n rfl rfl ?_
    refine pw_iconst (v := nI (0)) rfl (by decide) ?_
    refine pw_iload_n rfl rfl ?_
    refine px_callv (as := [.inr (some (a)), .inl (nI (0)), .inl (t)]) (rest := []) rfl rfl (by decide) rfl (Nat.le_of_ble_eq_true rfl) (Nat.le_of_ble_eq_true rfl) (Nat.le_of_ble_eq_true rfl) (Nat.le_of_ble_eq_true rfl) rfl hP.1 rfl rfl ?_
    refine t_cdisp0_6 hP hd hz ?_
    show pw pP mHostA_transmit (31, [some (.inr (some (89))), some (.inr (some (a))), some (.inr (some (s))), some (.inl (t)), none, none], [.inr none], 0, 0, hb (sL L) (up2 (up2 (up2 F (s) (5) ((F (s) (5)) + (nI (1)))) (s) (4) (t)) (a) (13) ((F (a) (13)) + (nI (1)))) G R sO) _
    refine pw_astore (ls1 := [some (.inr (some (89))), some (.inr (some (a))), some (.inr (some (s))), some (.inl (t)), some (.inr none), none]) rfl (Nat.le_of_ble_eq_true rfl) rfl ?_
    refine pw_aload rfl rfl ?_
    refine pw_ifnonnullN (t := 39) rfl rfl ?_
    exact pw_vret rfl rfl (Nat.zero_le _) (Nat.zero_le _) k
  obtain ⟨hx1, hsx, hxr⟩ := hx (by omega)
  rw [ctr1_F, cship_y hd (by omega)] at k
  refine pw_aload_n rfl rfl ?_
  refine pw_dup rfl ?_
  refine px_getv (x := F (s) (5)) rfl rfl hss rfl (rfl) ?_
  refine pw_iconst (v := nI (1)) rfl (by decide) ?_
  refine pw_iadd (z := (F (s) (5)) + (nI (1))) rfl rfl ?_
  refine px_put rfl rfl hss rfl rfl ?_
  refine pw_aload_n rfl rfl ?_
  refine pw_iload_n rfl rfl ?_
  refine px_put rfl rfl hss rfl rfl ?_
  refine pw_aload_n rfl rfl ?_
  refine pw_dup rfl ?_
  refine px_getv (x := F (a) (13)) rfl rfl hP.1 rfl ((up2_ne (by omega)).trans (up2_ne (by omega))) ?_
  refine pw_iconst (v := nI (1)) rfl (by decide) ?_
  refine pw_iadd (z := (F (a) (13)) + (nI (1))) rfl rfl ?_
  refine px_put rfl rfl hP.1 rfl rfl ?_
  refine pw_aload_n rfl rfl ?_
  refine pw_iconst (v := nI (0)) rfl (by decide) ?_
  refine pw_iload_n rfl rfl ?_
  refine px_callv (as := [.inr (some (a)), .inl (nI (0)), .inl (t)]) (rest := []) rfl rfl (by decide) rfl (Nat.le_of_ble_eq_true rfl) (Nat.le_of_ble_eq_true rfl) (Nat.le_of_ble_eq_true rfl) (Nat.le_of_ble_eq_true rfl) rfl hP.1 rfl rfl ?_
  refine t_cdisp0 hP hd hz (by omega) hx1 hsx ?_
  show pw pP mHostA_transmit (31, [some (.inr (some (89))), some (.inr (some (a))), some (.inr (some (s))), some (.inl (t)), none, none], [.inr (some (x))], 0, 0, hb (sL L) (up2 (up2 (up2 (up2 (up2 F (s) (5) ((F (s) (5)) + (nI (1)))) (s) (4) (t)) (a) (13) ((F (a) (13)) + (nI (1)))) (x) (5) (t + (ctr F a s t) a 6)) (a + 1) (1) (nI (sz + 1))) G R sO) _
  refine pw_astore (ls1 := [some (.inr (some (89))), some (.inr (some (a))), some (.inr (some (s))), some (.inl (t)), some (.inr (some (x))), none]) rfl (Nat.le_of_ble_eq_true rfl) rfl ?_
  refine pw_aload rfl rfl ?_
  refine pw_ifnonnull (t := 39) rfl rfl ?_
  refine pw_aload_n rfl rfl ?_
  refine px_getv (x := nI (m)) rfl rfl hss rfl (((up2_ne (by omega)).trans ((up2_ne (by omega)).trans ((up2_ne (by omega)).trans ((up2_ne2 (by decide)).trans (up2_ne2 (by decide)))))).trans (hm)) ?_
  refine pw_if1p (cz_ne (by omega)) rfl (t := 62) rfl (fun _ => ?_) (fun q => absurd hm0 q)
  refine pw_aload_n rfl rfl ?_
  refine px_getr (r := some (2)) rfl rfl rfl rfl rfl ?_
  refine pw_aload_n rfl rfl ?_
  refine px_getv (x := nI (u)) rfl rfl hss rfl (((up2_ne (by omega)).trans ((up2_ne (by omega)).trans ((up2_ne (by omega)).trans ((up2_ne2 (by decide)).trans (up2_ne2 (by decide)))))).trans (hu)) ?_
  refine pw_aload_n rfl rfl ?_
  refine px_getv (x := nI (m)) rfl rfl hss rfl (((up2_ne (by omega)).trans ((up2_ne (by omega)).trans ((up2_ne (by omega)).trans ((up2_ne2 (by decide)).trans (up2_ne2 (by decide)))))).trans (hm)) ?_
  refine pw_iadd (z := nI (u + m)) rfl (nI_add _ _) ?_
  refine pw_iconst (v := nI (1)) rfl (by decide) ?_
  refine pw_isub (z := nI (u + m - 1)) rfl (pk_sub (by omega)) ?_
  refine px_callv (as := [.inr (some (2)), .inl (nI (u + m - 1))]) (rest := []) rfl rfl (by decide) rfl (Nat.le_of_ble_eq_true rfl) (Nat.le_of_ble_eq_true rfl) (Nat.le_of_ble_eq_true rfl) (Nat.le_of_ble_eq_true rfl) rfl rfl rfl rfl ?_
  refine t_cval (u := u + m - 1) ((up2_ne (by omega)).trans ((up2_ne (by omega)).trans ((ctr_ne (by omega) (by omega) (by omega)).trans hln))) hl (by omega) ?_
  show pw pP mHostA_transmit (80, [some (.inr (some (89))), some (.inr (some (a))), some (.inr (some (s))), some (.inl (t)), some (.inr (some (x))), none], [.inl (cval_r G (u + m - 1) ln)], 0, 0, hb (sL L) (up2 (up2 (up2 (up2 (up2 F (s) (5) ((F (s) (5)) + (nI (1)))) (s) (4) (t)) (a) (13) ((F (a) (13)) + (nI (1)))) (x) (5) (t + (ctr F a s t) a 6)) (a + 1) (1) (nI (sz + 1))) G R sO) _
  refine pw_istore (ls1 := [some (.inr (some (89))), some (.inr (some (a))), some (.inr (some (s))), some (.inl (t)), some (.inr (some (x))), some (.inl (cval_r G (u + m - 1) ln))]) rfl (Nat.le_of_ble_eq_true rfl) rfl ?_
  refine pw_aload rfl rfl ?_
  refine pw_iconst (v := nI (1)) rfl (by decide) ?_
  refine pw_aload_n rfl rfl ?_
  refine px_getv (x := nI (m)) rfl rfl hss rfl (((up2_ne (by omega)).trans ((up2_ne (by omega)).trans ((up2_ne (by omega)).trans ((up2_ne2 (by decide)).trans (up2_ne2 (by decide)))))).trans (hm)) ?_
  refine pw_aload_n rfl rfl ?_
  refine px_getv (x := nI (c)) rfl rfl hss rfl (((up2_ne (by omega)).trans ((up2_ne (by omega)).trans ((up2_ne (by omega)).trans ((up2_ne2 (by decide)).trans (up2_ne2 (by decide)))))).trans (hc)) ?_
  refine pw_aload_n rfl rfl ?_
  refine px_getv (x := nI (u)) rfl rfl hss rfl (((up2_ne (by omega)).trans ((up2_ne (by omega)).trans ((up2_ne (by omega)).trans ((up2_ne2 (by decide)).trans (up2_ne2 (by decide)))))).trans (hu)) ?_
  refine pw_iload rfl rfl ?_
  refine pw_sipush (v := nI (256)) rfl (by decide) ?_
  refine pw_if2p (A := ¬ cval_r G (u + m - 1) ln = nI (256)) rfl rfl (t := 109) rfl (fun c1 => ?_) (fun c1 => ?_)
  · -- 109
    refine pw_iconst (v := nI (0)) rfl (by decide) ?_
    refine px_callv (as := [.inr (some (x)), .inl (nI (1)), .inl (nI (m)), .inl (nI (c)), .inl (nI (u)), .inl (nI (0))]) (rest := []) rfl rfl (by decide) rfl (Nat.le_of_ble_eq_true rfl) (Nat.le_of_ble_eq_true rfl) (Nat.le_of_ble_eq_true rfl) (Nat.le_of_ble_eq_true rfl) rfl hsx rfl rfl ?_
    refine t_cfill hsx ?_
    show pw pP mHostA_transmit (113, [some (.inr (some (89))), some (.inr (some (a))), some (.inr (some (s))), some (.inl (t)), some (.inr (some (x))), some (.inl (cval_r G (u + m - 1) ln))], [], 0, 0, hb (sL L) (up2 (up2 (up2 (up2 (up2 (up2 (up2 (up2 (up2 (up2 F (s) (5) ((F (s) (5)) + (nI (1)))) (s) (4) (t)) (a) (13) ((F (a) (13)) + (nI (1)))) (x) (5) (t + (ctr F a s t) a 6)) (a + 1) (1) (nI (sz + 1))) (x) (0) (nI (1))) (x) (1) (nI (m))) (x) (2) (nI (c))) (x) (3) (nI (u))) (x) (4) (nI (0))) G R sO) _
    simp only [clast, eq_false c1, if_true, if_false] at k
    exact pw_vret rfl rfl (Nat.zero_le _) (Nat.zero_le _) k
  · -- 105
    refine pw_iconst (v := nI (1)) rfl (by decide) ?_
    refine pw_goto (t := 110) rfl rfl ?_
    refine px_callv (as := [.inr (some (x)), .inl (nI (1)), .inl (nI (m)), .inl (nI (c)), .inl (nI (u)), .inl (nI (1))]) (rest := []) rfl rfl (by decide) rfl (Nat.le_of_ble_eq_true rfl) (Nat.le_of_ble_eq_true rfl) (Nat.le_of_ble_eq_true rfl) (Nat.le_of_ble_eq_true rfl) rfl hsx rfl rfl ?_
    refine t_cfill hsx ?_
    show pw pP mHostA_transmit (113, [some (.inr (some (89))), some (.inr (some (a))), some (.inr (some (s))), some (.inl (t)), some (.inr (some (x))), some (.inl (cval_r G (u + m - 1) ln))], [], 0, 0, hb (sL L) (up2 (up2 (up2 (up2 (up2 (up2 (up2 (up2 (up2 (up2 F (s) (5) ((F (s) (5)) + (nI (1)))) (s) (4) (t)) (a) (13) ((F (a) (13)) + (nI (1)))) (x) (5) (t + (ctr F a s t) a 6)) (a + 1) (1) (nI (sz + 1))) (x) (0) (nI (1))) (x) (1) (nI (m))) (x) (2) (nI (c))) (x) (3) (nI (u))) (x) (4) (nI (1))) G R sO) _
    simp only [clast, eq_true (Decidable.of_not_not c1), if_true, if_false] at k
    exact pw_vret rfl rfl (Nat.zero_le _) (Nat.zero_le _) k
def csf (F : FN) (a : Nat) (t : Int32) : FN := if F a 9 = -1 then up2 F a 9 (t + F a 8) else F
theorem csf_ne {F : FN} {a i k : Nat} {t : Int32} (h : ¬ (i = a ∧ k = 9)) : csf F a t i k = F i k := by
  unfold csf
  split
  · exact up2_ne h
  · rfl
theorem t_csf0 {L a s x sz : Nat} {t : Int32} {F G : FN} {R : RN} (hP : pathok L a R) (ha : 4 < a ∧ a + 20 < 89) (hss : (sL L)[s]? = some (2, 6, [0, 0, 0, 0, 0, 0], 0)) (hsr : a + 18 ≤ s ∧ s ≤ a + 20) (hsz : F (a + 1) 1 = nI sz) (hs6 : sz ≤ 6) (hx : sz < 6 → R (a + 1 + 1) sz = some x ∧ (sL L)[x]? = some (2, 1, [0, 0, 0, 0, 0, 0], 0) ∧ a + 3 ≤ x ∧ x ≤ a + 8) (hun : F s 3 = nI 0) {Q : Option PV → PH → Prop} (k : Q none (hb (sL L) (ctr0_F (csf F a t) a s x sz t) G R sO)) : pz pP mHostA_sendFirst [.inr (some (89)), .inr (some (a)), .inr (some (s)), .inl (t)] (hb (sL L) F G R sO) Q := by
  show pw pP mHostA_sendFirst (0, [some (.inr (some (89))), some (.inr (some (a))), some (.inr (some (s))), some (.inl (t))], [], 0, 0, hb (sL L) F G R sO) _
  refine pw_aload_n rfl rfl ?_
  refine pw_ifnonnull (t := 5) rfl rfl ?_
  refine pw_aload_n rfl rfl ?_
  refine px_getv (x := F (a) (9)) rfl rfl hP.1 rfl (rfl) ?_
  refine pw_iconst (v := (-1)) rfl (by decide) ?_
  refine pw_if2p (A := ¬ F (a) (9) = (-1)) rfl rfl (t := 23) rfl (fun c1 => ?_) (fun c1 => ?_)
  · -- 23
    have ef : csf F a t = F := by simp only [csf, eq_false c1, if_true, if_false]
    rw [← ef]
    refine pw_aload_n rfl rfl ?_
    refine pw_aload_n rfl rfl ?_
    refine pw_aload_n rfl rfl ?_
    refine pw_iload_n rfl rfl ?_
    refine px_callv (as := [.inr (some (89)), .inr (some (a)), .inr (some (s)), .inl (t)]) (rest := []) rfl rfl (by decide) rfl (Nat.le_of_ble_eq_true rfl) (Nat.le_of_ble_eq_true rfl) (Nat.le_of_ble_eq_true rfl) (Nat.le_of_ble_eq_true rfl) rfl rfl rfl rfl ?_
    refine t_ctr0 (F := csf F a t) hP ha hss hsr ((csf_ne (F := F) (a := a) (t := t) (by omega)).trans hsz) hs6 hx ((csf_ne (F := F) (a := a) (t := t) (by omega)).trans hun) ?_
    show pw pP mHostA_sendFirst (30, [some (.inr (some (89))), some (.inr (some (a))), some (.inr (some (s))), some (.inl (t))], [], 0, 0, hb (sL L) (ctr0_F (csf F a t) a s x sz t) G R sO) _
    exact pw_vret rfl rfl (Nat.zero_le _) (Nat.zero_le _) k
  · -- 13
    refine pw_aload_n rfl rfl ?_
    refine pw_iload_n rfl rfl ?_
    refine pw_aload_n rfl rfl ?_
    refine px_getv (x := F (a) (8)) rfl rfl hP.1 rfl (rfl) ?_
    refine pw_iadd (z := t + (F (a) (8))) rfl rfl ?_
    refine px_put rfl rfl hP.1 rfl rfl ?_
    have ef : csf F a t = (up2 F (a) (9) (t + (F (a) (8)))) := by simp only [csf, eq_true (Decidable.of_not_not c1), if_true, if_false]
    rw [← ef]
    refine pw_aload_n rfl rfl ?_
    refine pw_aload_n rfl rfl ?_
    refine pw_aload_n rfl rfl ?_
    refine pw_iload_n rfl rfl ?_
    refine px_callv (as := [.inr (some (89)), .inr (some (a)), .inr (some (s)), .inl (t)]) (rest := []) rfl rfl (by decide) rfl (Nat.le_of_ble_eq_true rfl) (Nat.le_of_ble_eq_true rfl) (Nat.le_of_ble_eq_true rfl) (Nat.le_of_ble_eq_true rfl) rfl rfl rfl rfl ?_
    refine t_ctr0 (F := csf F a t) hP ha hss hsr ((csf_ne (F := F) (a := a) (t := t) (by omega)).trans hsz) hs6 hx ((csf_ne (F := F) (a := a) (t := t) (by omega)).trans hun) ?_
    show pw pP mHostA_sendFirst (30, [some (.inr (some (89))), some (.inr (some (a))), some (.inr (some (s))), some (.inl (t))], [], 0, 0, hb (sL L) (ctr0_F (csf F a t) a s x sz t) G R sO) _
    exact pw_vret rfl rfl (Nat.zero_le _) (Nat.zero_le _) k
theorem t_csf1 {L a s x sz c u m ln : Nat} {t : Int32} {F G : FN} {R : RN} (hP : pathok L a R) (ha : 4 < a ∧ a + 20 < 89) (hss : (sL L)[s]? = some (2, 6, [0, 0, 0, 0, 0, 0], 0)) (hsr : a + 18 ≤ s ∧ s ≤ a + 20) (hsz : F (a + 1) 1 = nI sz) (hs6 : sz ≤ 6) (hx : sz < 6 → R (a + 1 + 1) sz = some x ∧ (sL L)[x]? = some (2, 1, [0, 0, 0, 0, 0, 0], 0) ∧ a + 3 ≤ x ∧ x ≤ a + 8) (hc : F s 0 = nI c) (hu : F s 2 = nI u) (hm : F s 3 = nI m) (hm0 : ¬ m = 0) (hum : u + m ≤ 500) (hln : F 2 1 = nI ln) (hl : ln ≤ 401) {Q : Option PV → PH → Prop} (k : Q none (hb (sL L) (ctr1_F (csf F a t) G a s x sz t c u m ln) G R sO)) : pz pP mHostA_sendFirst [.inr (some (89)), .inr (some (a)), .inr (some (s)), .inl (t)] (hb (sL L) F G R sO) Q := by
  show pw pP mHostA_sendFirst (0, [some (.inr (some (89))), some (.inr (some (a))), some (.inr (some (s))), some (.inl (t))], [], 0, 0, hb (sL L) F G R sO) _
  refine pw_aload_n rfl rfl ?_
  refine pw_ifnonnull (t := 5) rfl rfl ?_
  refine pw_aload_n rfl rfl ?_
  refine px_getv (x := F (a) (9)) rfl rfl hP.1 rfl (rfl) ?_
  refine pw_iconst (v := (-1)) rfl (by decide) ?_
  refine pw_if2p (A := ¬ F (a) (9) = (-1)) rfl rfl (t := 23) rfl (fun c1 => ?_) (fun c1 => ?_)
  · -- 23
    have ef : csf F a t = F := by simp only [csf, eq_false c1, if_true, if_false]
    rw [← ef]
    refine pw_aload_n rfl rfl ?_
    refine pw_aload_n rfl rfl ?_
    refine pw_aload_n rfl rfl ?_
    refine pw_iload_n rfl rfl ?_
    refine px_callv (as := [.inr (some (89)), .inr (some (a)), .inr (some (s)), .inl (t)]) (rest := []) rfl rfl (by decide) rfl (Nat.le_of_ble_eq_true rfl) (Nat.le_of_ble_eq_true rfl) (Nat.le_of_ble_eq_true rfl) (Nat.le_of_ble_eq_true rfl) rfl rfl rfl rfl ?_
    refine t_ctr1 (F := csf F a t) hP ha hss hsr ((csf_ne (F := F) (a := a) (t := t) (by omega)).trans hsz) hs6 hx ((csf_ne (F := F) (a := a) (t := t) (by omega)).trans hc) ((csf_ne (F := F) (a := a) (t := t) (by omega)).trans hu) ((csf_ne (F := F) (a := a) (t := t) (by omega)).trans hm) hm0 hum ((csf_ne (F := F) (a := a) (t := t) (by omega)).trans hln) hl ?_
    show pw pP mHostA_sendFirst (30, [some (.inr (some (89))), some (.inr (some (a))), some (.inr (some (s))), some (.inl (t))], [], 0, 0, hb (sL L) (ctr1_F (csf F a t) G a s x sz t c u m ln) G R sO) _
    exact pw_vret rfl rfl (Nat.zero_le _) (Nat.zero_le _) k
  · -- 13
    refine pw_aload_n rfl rfl ?_
    refine pw_iload_n rfl rfl ?_
    refine pw_aload_n rfl rfl ?_
    refine px_getv (x := F (a) (8)) rfl rfl hP.1 rfl (rfl) ?_
    refine pw_iadd (z := t + (F (a) (8))) rfl rfl ?_
    refine px_put rfl rfl hP.1 rfl rfl ?_
    have ef : csf F a t = (up2 F (a) (9) (t + (F (a) (8)))) := by simp only [csf, eq_true (Decidable.of_not_not c1), if_true, if_false]
    rw [← ef]
    refine pw_aload_n rfl rfl ?_
    refine pw_aload_n rfl rfl ?_
    refine pw_aload_n rfl rfl ?_
    refine pw_iload_n rfl rfl ?_
    refine px_callv (as := [.inr (some (89)), .inr (some (a)), .inr (some (s)), .inl (t)]) (rest := []) rfl rfl (by decide) rfl (Nat.le_of_ble_eq_true rfl) (Nat.le_of_ble_eq_true rfl) (Nat.le_of_ble_eq_true rfl) (Nat.le_of_ble_eq_true rfl) rfl rfl rfl rfl ?_
    refine t_ctr1 (F := csf F a t) hP ha hss hsr ((csf_ne (F := F) (a := a) (t := t) (by omega)).trans hsz) hs6 hx ((csf_ne (F := F) (a := a) (t := t) (by omega)).trans hc) ((csf_ne (F := F) (a := a) (t := t) (by omega)).trans hu) ((csf_ne (F := F) (a := a) (t := t) (by omega)).trans hm) hm0 hum ((csf_ne (F := F) (a := a) (t := t) (by omega)).trans hln) hl ?_
    show pw pP mHostA_sendFirst (30, [some (.inr (some (89))), some (.inr (some (a))), some (.inr (some (s))), some (.inl (t))], [], 0, 0, hb (sL L) (ctr1_F (csf F a t) G a s x sz t c u m ln) G R sO) _
    exact pw_vret rfl rfl (Nat.zero_le _) (Nat.zero_le _) k
def csyn (F : FN) (a s sc hi : Nat) (tk : Int32) : FN := cadd_F (up2 (up2 F a 5 (nI 1)) a 7 tk) a s sc hi 1 0 0
theorem t_csyn {L a s x sz sc hi : Nat} {t tk : Int32} {F G : FN} {R : RN} (hP : pathok L a R) (ha : 4 < a ∧ a + 20 < 89) (hss : (sL L)[s]? = some (2, 6, [0, 0, 0, 0, 0, 0], 0)) (hsr : a + 18 ≤ s ∧ s ≤ a + 20) (hsz : F (a + 1) 1 = nI sz) (hs6 : sz ≤ 6) (hx : sz < 6 → R (a + 1 + 1) sz = some x ∧ (sL L)[x]? = some (2, 1, [0, 0, 0, 0, 0, 0], 0) ∧ a + 3 ≤ x ∧ x ≤ a + 8) (hsc : F a 3 = nI sc) (hs3 : sc < 3) (hhi : F a 4 = nI hi) (hR : R (a + 17) sc = some s) {Q : Option PV → PH → Prop} (k : Q none (hb (sL L) (ctr0_F (csf (csyn F a s sc hi tk) a t) a s x sz t) G R sO)) : pz pP mHostA_sendSyn [.inr (some 89), .inr (some a), .inl tk, .inl t] (hb (sL L) F G R sO) Q := by
  show pw pP mHostA_sendSyn (0, [some (.inr (some (89))), some (.inr (some (a))), some (.inl (tk)), some (.inl (t))], [], 0, 0, hb (sL L) F G R sO) _
  refine pw_aload_n rfl rfl ?_
  refine pw_iconst (v := nI (1)) rfl (by decide) ?_
  refine px_put rfl rfl hP.1 rfl rfl ?_
  refine pw_aload_n rfl rfl ?_
  refine pw_iload_n rfl rfl ?_
  refine px_put rfl rfl hP.1 rfl rfl ?_
  refine pw_aload_n rfl rfl ?_
  refine pw_aload_n rfl rfl ?_
  refine pw_aload_n rfl rfl ?_
  refine pw_iconst (v := nI (1)) rfl (by decide) ?_
  refine pw_iconst (v := nI (0)) rfl (by decide) ?_
  refine pw_iconst (v := nI (0)) rfl (by decide) ?_
  refine px_callv (as := [.inr (some (a)), .inl (nI (1)), .inl (nI (0)), .inl (nI (0))]) (rest := [.inr (some (a)), .inr (some (89))]) rfl rfl (by decide) rfl (Nat.le_of_ble_eq_true rfl) (Nat.le_of_ble_eq_true rfl) (Nat.le_of_ble_eq_true rfl) (Nat.le_of_ble_eq_true rfl) rfl hP.1 rfl rfl ?_
  refine t_cadd (m := 1) (u := 0) (un := 0) hP ((up2_ne (by omega)).trans ((up2_ne (by omega)).trans hsc)) hs3 ((up2_ne (by omega)).trans ((up2_ne (by omega)).trans hhi)) hR hss hsr ?_
  show pw pP mHostA_sendSyn (19, [some (.inr (some (89))), some (.inr (some (a))), some (.inl (tk)), some (.inl (t))], [.inr (some (s)), .inr (some (a)), .inr (some (89))], 0, 0, hb (sL L) (csyn F a s sc hi tk) G R sO) _
  refine pw_iload_n rfl rfl ?_
  refine px_callv (as := [.inr (some (89)), .inr (some (a)), .inr (some (s)), .inl (t)]) (rest := []) rfl rfl (by decide) rfl (Nat.le_of_ble_eq_true rfl) (Nat.le_of_ble_eq_true rfl) (Nat.le_of_ble_eq_true rfl) (Nat.le_of_ble_eq_true rfl) rfl rfl rfl rfl ?_
  refine t_csf0 hP ha hss hsr (by unfold csyn cadd_F; rw [up2_ne (by omega), up2_ne (by omega), up2_ne (by omega), up2_ne (by omega), up2_ne (by omega), up2_ne (by omega), up2_ne (by omega), up2_ne (by omega), up2_ne (by omega)]; exact hsz) hs6 hx (by unfold csyn cadd_F; rw [up2_ne (by omega), up2_ne (by omega), up2_ne (by omega)]; exact up2_eq) ?_
  show pw pP mHostA_sendSyn (23, [some (.inr (some (89))), some (.inr (some (a))), some (.inl (tk)), some (.inl (t))], [], 0, 0, hb (sL L) (ctr0_F (csf (csyn F a s sc hi tk) a t) a s x sz t) G R sO) _
  exact pw_vret rfl rfl (Nat.zero_le _) (Nat.zero_le _) k
def cri (F : FN) (a : Nat) (t : Int32) : FN := (fun F1 : FN => if F a 5 = nI 2 then up2 F1 a 5 (nI 3) else F1) (up2 (up2 F a 8 (if nI 120 < nI 2 * F a 8 then nI 120 else nI 2 * F a 8)) a 9 (t + (if nI 120 < nI 2 * F a 8 then nI 120 else nI 2 * F a 8)))
theorem cri_ne {F : FN} {a i k : Nat} {t : Int32} (h1 : ¬ (i = a ∧ k = 8)) (h2 : ¬ (i = a ∧ k = 9)) (h3 : ¬ (i = a ∧ k = 5)) : cri F a t i k = F i k := by
  unfold cri
  show (if F a 5 = nI 2 then _ else _ : FN) i k = _
  split
  · rw [up2_ne h3, up2_ne h2, up2_ne h1]
  · rw [up2_ne h2, up2_ne h1]
theorem t_cri0 {L a s x sz sc : Nat} {t : Int32} {F G : FN} {R : RN} (hP : pathok L a R) (ha : 4 < a ∧ a + 20 < 89) (hss : (sL L)[s]? = some (2, 6, [0, 0, 0, 0, 0, 0], 0)) (hsr : a + 18 ≤ s ∧ s ≤ a + 20) (hsz : F (a + 1) 1 = nI sz) (hs6 : sz ≤ 6) (hx : sz < 6 → R (a + 1 + 1) sz = some x ∧ (sL L)[x]? = some (2, 1, [0, 0, 0, 0, 0, 0], 0) ∧ a + 3 ≤ x ∧ x ≤ a + 8) (hsc : F a 3 = nI sc) (hs3 : sc ≤ 3) (hs1 : 0 < sc) (hR : R (a + 17) 0 = some s) (hun : F s 3 = nI 0) {Q : Option PV → PH → Prop} (k : Q none (hb (sL L) (ctr0_F (cri F a t) a s x sz t) G R sO)) : pz pP mHostA_ring [.inr (some 89), .inr (some a), .inl t] (hb (sL L) F G R sO) Q := by
  show pw pP mHostA_ring (0, [some (.inr (some (89))), some (.inr (some (a))), some (.inl (t))], [], 0, 0, hb (sL L) F G R sO) _
  refine pw_aload_n rfl rfl ?_
  refine pw_iconst (v := nI (2)) rfl (by decide) ?_
  refine pw_aload_n rfl rfl ?_
  refine px_getv (x := F (a) (8)) rfl rfl hP.1 rfl (rfl) ?_
  refine pw_imul (z := (nI (2)) * (F (a) (8))) rfl rfl ?_
  refine pw_bipush (v := nI (120)) rfl (by decide) ?_
  refine pw_math (st1 := [.inl ((if (nI (120)) < ((nI (2)) * (F (a) (8))) then (nI (120)) else ((nI (2)) * (F (a) (8))))), .inr (some (a))]) rfl rfl (by decide) (Nat.zero_le _) (Nat.zero_le _) rfl (Nat.le_of_ble_eq_true rfl) ?_
  refine px_put rfl rfl hP.1 rfl rfl ?_
  refine pw_aload_n rfl rfl ?_
  refine pw_iload_n rfl rfl ?_
  refine pw_aload_n rfl rfl ?_
  refine px_getv (x := (if (nI (120)) < ((nI (2)) * (F (a) (8))) then (nI (120)) else ((nI (2)) * (F (a) (8))))) rfl rfl hP.1 rfl (up2_eq) ?_
  refine pw_iadd (z := t + (if (nI (120)) < ((nI (2)) * (F (a) (8))) then (nI (120)) else ((nI (2)) * (F (a) (8))))) rfl rfl ?_
  refine px_put rfl rfl hP.1 rfl rfl ?_
  refine pw_aload_n rfl rfl ?_
  refine px_getv (x := F (a) (5)) rfl rfl hP.1 rfl ((up2_ne2 (by decide)).trans (up2_ne2 (by decide))) ?_
  refine pw_iconst (v := nI (2)) rfl (by decide) ?_
  refine pw_if2p (A := ¬ F (a) (5) = nI (2)) rfl rfl (t := 38) rfl (fun c1 => ?_) (fun c1 => ?_)
  · -- 38
    have ef : cri F a t = (up2 (up2 F (a) (8) ((if (nI (120)) < ((nI (2)) * (F (a) (8))) then (nI (120)) else ((nI (2)) * (F (a) (8)))))) (a) (9) (t + (if (nI (120)) < ((nI (2)) * (F (a) (8))) then (nI (120)) else ((nI (2)) * (F (a) (8)))))) := by simp only [cri, eq_false c1, if_true, if_false]
    rw [← ef]
    refine pw_aload_n rfl rfl ?_
    refine px_getv (x := nI (sc)) rfl rfl hP.1 rfl (((cri_ne (by omega) (by omega) (by omega)).trans hsc)) ?_
    refine pw_if1p (cz_le (by omega)) rfl (t := 57) rfl (fun q => absurd q (by omega)) (fun _ => ?_)
    refine pw_aload_n rfl rfl ?_
    refine pw_aload_n rfl rfl ?_
    refine pw_aload_n rfl rfl ?_
    refine px_getr (r := some (a + 17)) rfl rfl hP.1 rfl hP.2.1.2.2 ?_
    refine pw_iconst (v := nI (0)) rfl (by decide) ?_
    refine px_aaldn (r := (some (s))) rfl hP.2.2.2.2.1 rfl (by omega) (by decide) (hR) ?_
    refine pw_iload_n rfl rfl ?_
    refine px_callv (as := [.inr (some (89)), .inr (some (a)), .inr (some (s)), .inl (t)]) (rest := []) rfl rfl (by decide) rfl (Nat.le_of_ble_eq_true rfl) (Nat.le_of_ble_eq_true rfl) (Nat.le_of_ble_eq_true rfl) (Nat.le_of_ble_eq_true rfl) rfl rfl rfl rfl ?_
    refine t_ctr0 (F := cri F a t) hP ha hss hsr ((cri_ne (F := F) (a := a) (t := t) (by omega) (by omega) (by omega)).trans hsz) hs6 hx ((cri_ne (F := F) (a := a) (t := t) (by omega) (by omega) (by omega)).trans hun) ?_
    show pw pP mHostA_ring (57, [some (.inr (some (89))), some (.inr (some (a))), some (.inl (t))], [], 0, 0, hb (sL L) (ctr0_F (cri F a t) a s x sz t) G R sO) _
    exact pw_vret rfl rfl (Nat.zero_le _) (Nat.zero_le _) k
  · -- 33
    refine pw_aload_n rfl rfl ?_
    refine pw_iconst (v := nI (3)) rfl (by decide) ?_
    refine px_put rfl rfl hP.1 rfl rfl ?_
    have ef : cri F a t = (up2 (up2 (up2 F (a) (8) ((if (nI (120)) < ((nI (2)) * (F (a) (8))) then (nI (120)) else ((nI (2)) * (F (a) (8)))))) (a) (9) (t + (if (nI (120)) < ((nI (2)) * (F (a) (8))) then (nI (120)) else ((nI (2)) * (F (a) (8)))))) (a) (5) (nI (3))) := by simp only [cri, eq_true (Decidable.of_not_not c1), if_true, if_false]
    rw [← ef]
    refine pw_aload_n rfl rfl ?_
    refine px_getv (x := nI (sc)) rfl rfl hP.1 rfl (((cri_ne (by omega) (by omega) (by omega)).trans hsc)) ?_
    refine pw_if1p (cz_le (by omega)) rfl (t := 57) rfl (fun q => absurd q (by omega)) (fun _ => ?_)
    refine pw_aload_n rfl rfl ?_
    refine pw_aload_n rfl rfl ?_
    refine pw_aload_n rfl rfl ?_
    refine px_getr (r := some (a + 17)) rfl rfl hP.1 rfl hP.2.1.2.2 ?_
    refine pw_iconst (v := nI (0)) rfl (by decide) ?_
    refine px_aaldn (r := (some (s))) rfl hP.2.2.2.2.1 rfl (by omega) (by decide) (hR) ?_
    refine pw_iload_n rfl rfl ?_
    refine px_callv (as := [.inr (some (89)), .inr (some (a)), .inr (some (s)), .inl (t)]) (rest := []) rfl rfl (by decide) rfl (Nat.le_of_ble_eq_true rfl) (Nat.le_of_ble_eq_true rfl) (Nat.le_of_ble_eq_true rfl) (Nat.le_of_ble_eq_true rfl) rfl rfl rfl rfl ?_
    refine t_ctr0 (F := cri F a t) hP ha hss hsr ((cri_ne (F := F) (a := a) (t := t) (by omega) (by omega) (by omega)).trans hsz) hs6 hx ((cri_ne (F := F) (a := a) (t := t) (by omega) (by omega) (by omega)).trans hun) ?_
    show pw pP mHostA_ring (57, [some (.inr (some (89))), some (.inr (some (a))), some (.inl (t))], [], 0, 0, hb (sL L) (ctr0_F (cri F a t) a s x sz t) G R sO) _
    exact pw_vret rfl rfl (Nat.zero_le _) (Nat.zero_le _) k
theorem t_cri1 {L a s x sz sc c u m ln : Nat} {t : Int32} {F G : FN} {R : RN} (hP : pathok L a R) (ha : 4 < a ∧ a + 20 < 89) (hss : (sL L)[s]? = some (2, 6, [0, 0, 0, 0, 0, 0], 0)) (hsr : a + 18 ≤ s ∧ s ≤ a + 20) (hsz : F (a + 1) 1 = nI sz) (hs6 : sz ≤ 6) (hx : sz < 6 → R (a + 1 + 1) sz = some x ∧ (sL L)[x]? = some (2, 1, [0, 0, 0, 0, 0, 0], 0) ∧ a + 3 ≤ x ∧ x ≤ a + 8) (hsc : F a 3 = nI sc) (hs3 : sc ≤ 3) (hs1 : 0 < sc) (hR : R (a + 17) 0 = some s) (hc : F s 0 = nI c) (hu : F s 2 = nI u) (hm : F s 3 = nI m) (hm0 : ¬ m = 0) (hum : u + m ≤ 500) (hln : F 2 1 = nI ln) (hl : ln ≤ 401) {Q : Option PV → PH → Prop} (k : Q none (hb (sL L) (ctr1_F (cri F a t) G a s x sz t c u m ln) G R sO)) : pz pP mHostA_ring [.inr (some 89), .inr (some a), .inl t] (hb (sL L) F G R sO) Q := by
  show pw pP mHostA_ring (0, [some (.inr (some (89))), some (.inr (some (a))), some (.inl (t))], [], 0, 0, hb (sL L) F G R sO) _
  refine pw_aload_n rfl rfl ?_
  refine pw_iconst (v := nI (2)) rfl (by decide) ?_
  refine pw_aload_n rfl rfl ?_
  refine px_getv (x := F (a) (8)) rfl rfl hP.1 rfl (rfl) ?_
  refine pw_imul (z := (nI (2)) * (F (a) (8))) rfl rfl ?_
  refine pw_bipush (v := nI (120)) rfl (by decide) ?_
  refine pw_math (st1 := [.inl ((if (nI (120)) < ((nI (2)) * (F (a) (8))) then (nI (120)) else ((nI (2)) * (F (a) (8))))), .inr (some (a))]) rfl rfl (by decide) (Nat.zero_le _) (Nat.zero_le _) rfl (Nat.le_of_ble_eq_true rfl) ?_
  refine px_put rfl rfl hP.1 rfl rfl ?_
  refine pw_aload_n rfl rfl ?_
  refine pw_iload_n rfl rfl ?_
  refine pw_aload_n rfl rfl ?_
  refine px_getv (x := (if (nI (120)) < ((nI (2)) * (F (a) (8))) then (nI (120)) else ((nI (2)) * (F (a) (8))))) rfl rfl hP.1 rfl (up2_eq) ?_
  refine pw_iadd (z := t + (if (nI (120)) < ((nI (2)) * (F (a) (8))) then (nI (120)) else ((nI (2)) * (F (a) (8))))) rfl rfl ?_
  refine px_put rfl rfl hP.1 rfl rfl ?_
  refine pw_aload_n rfl rfl ?_
  refine px_getv (x := F (a) (5)) rfl rfl hP.1 rfl ((up2_ne2 (by decide)).trans (up2_ne2 (by decide))) ?_
  refine pw_iconst (v := nI (2)) rfl (by decide) ?_
  refine pw_if2p (A := ¬ F (a) (5) = nI (2)) rfl rfl (t := 38) rfl (fun c1 => ?_) (fun c1 => ?_)
  · -- 38
    have ef : cri F a t = (up2 (up2 F (a) (8) ((if (nI (120)) < ((nI (2)) * (F (a) (8))) then (nI (120)) else ((nI (2)) * (F (a) (8)))))) (a) (9) (t + (if (nI (120)) < ((nI (2)) * (F (a) (8))) then (nI (120)) else ((nI (2)) * (F (a) (8)))))) := by simp only [cri, eq_false c1, if_true, if_false]
    rw [← ef]
    refine pw_aload_n rfl rfl ?_
    refine px_getv (x := nI (sc)) rfl rfl hP.1 rfl (((cri_ne (by omega) (by omega) (by omega)).trans hsc)) ?_
    refine pw_if1p (cz_le (by omega)) rfl (t := 57) rfl (fun q => absurd q (by omega)) (fun _ => ?_)
    refine pw_aload_n rfl rfl ?_
    refine pw_aload_n rfl rfl ?_
    refine pw_aload_n rfl rfl ?_
    refine px_getr (r := some (a + 17)) rfl rfl hP.1 rfl hP.2.1.2.2 ?_
    refine pw_iconst (v := nI (0)) rfl (by decide) ?_
    refine px_aaldn (r := (some (s))) rfl hP.2.2.2.2.1 rfl (by omega) (by decide) (hR) ?_
    refine pw_iload_n rfl rfl ?_
    refine px_callv (as := [.inr (some (89)), .inr (some (a)), .inr (some (s)), .inl (t)]) (rest := []) rfl rfl (by decide) rfl (Nat.le_of_ble_eq_true rfl) (Nat.le_of_ble_eq_true rfl) (Nat.le_of_ble_eq_true rfl) (Nat.le_of_ble_eq_true rfl) rfl rfl rfl rfl ?_
    refine t_ctr1 (F := cri F a t) hP ha hss hsr ((cri_ne (F := F) (a := a) (t := t) (by omega) (by omega) (by omega)).trans hsz) hs6 hx ((cri_ne (F := F) (a := a) (t := t) (by omega) (by omega) (by omega)).trans hc) ((cri_ne (F := F) (a := a) (t := t) (by omega) (by omega) (by omega)).trans hu) ((cri_ne (F := F) (a := a) (t := t) (by omega) (by omega) (by omega)).trans hm) hm0 hum ((cri_ne (F := F) (a := a) (t := t) (by omega) (by omega) (by omega)).trans hln) hl ?_
    show pw pP mHostA_ring (57, [some (.inr (some (89))), some (.inr (some (a))), some (.inl (t))], [], 0, 0, hb (sL L) (ctr1_F (cri F a t) G a s x sz t c u m ln) G R sO) _
    exact pw_vret rfl rfl (Nat.zero_le _) (Nat.zero_le _) k
  · -- 33
    refine pw_aload_n rfl rfl ?_
    refine pw_iconst (v := nI (3)) rfl (by decide) ?_
    refine px_put rfl rfl hP.1 rfl rfl ?_
    have ef : cri F a t = (up2 (up2 (up2 F (a) (8) ((if (nI (120)) < ((nI (2)) * (F (a) (8))) then (nI (120)) else ((nI (2)) * (F (a) (8)))))) (a) (9) (t + (if (nI (120)) < ((nI (2)) * (F (a) (8))) then (nI (120)) else ((nI (2)) * (F (a) (8)))))) (a) (5) (nI (3))) := by simp only [cri, eq_true (Decidable.of_not_not c1), if_true, if_false]
    rw [← ef]
    refine pw_aload_n rfl rfl ?_
    refine px_getv (x := nI (sc)) rfl rfl hP.1 rfl (((cri_ne (by omega) (by omega) (by omega)).trans hsc)) ?_
    refine pw_if1p (cz_le (by omega)) rfl (t := 57) rfl (fun q => absurd q (by omega)) (fun _ => ?_)
    refine pw_aload_n rfl rfl ?_
    refine pw_aload_n rfl rfl ?_
    refine pw_aload_n rfl rfl ?_
    refine px_getr (r := some (a + 17)) rfl rfl hP.1 rfl hP.2.1.2.2 ?_
    refine pw_iconst (v := nI (0)) rfl (by decide) ?_
    refine px_aaldn (r := (some (s))) rfl hP.2.2.2.2.1 rfl (by omega) (by decide) (hR) ?_
    refine pw_iload_n rfl rfl ?_
    refine px_callv (as := [.inr (some (89)), .inr (some (a)), .inr (some (s)), .inl (t)]) (rest := []) rfl rfl (by decide) rfl (Nat.le_of_ble_eq_true rfl) (Nat.le_of_ble_eq_true rfl) (Nat.le_of_ble_eq_true rfl) (Nat.le_of_ble_eq_true rfl) rfl rfl rfl rfl ?_
    refine t_ctr1 (F := cri F a t) hP ha hss hsr ((cri_ne (F := F) (a := a) (t := t) (by omega) (by omega) (by omega)).trans hsz) hs6 hx ((cri_ne (F := F) (a := a) (t := t) (by omega) (by omega) (by omega)).trans hc) ((cri_ne (F := F) (a := a) (t := t) (by omega) (by omega) (by omega)).trans hu) ((cri_ne (F := F) (a := a) (t := t) (by omega) (by omega) (by omega)).trans hm) hm0 hum ((cri_ne (F := F) (a := a) (t := t) (by omega) (by omega) (by omega)).trans hln) hl ?_
    show pw pP mHostA_ring (57, [some (.inr (some (89))), some (.inr (some (a))), some (.inl (t))], [], 0, 0, hb (sL L) (ctr1_F (cri F a t) G a s x sz t c u m ln) G R sO) _
    exact pw_vret rfl rfl (Nat.zero_le _) (Nat.zero_le _) k
def cany (F : FN) : Nat → Nat → Nat
  | 0, _ => 0
  | n + 1, p => if F (5 + 21 * p) 5 = nI 2 then 1 else cany F n (p + 1)
theorem t_cany_lp {L : Nat} {F G : FN} {R : RN} (hR4 : ∀ q, q < 4 → R 4 q = some (5 + 21 * q)) (hPa : ∀ q, q < 4 → pathok L (5 + 21 * q) R) {Q : Option PV → PH → Prop} : ∀ (n p : Nat), p + n = 4 → Q (some (.inl (nI (cany F n p)))) (hb (sL L) F G R sO) → pw pP mHostA_isAnyOpen (2, [some (.inr (some (89))), some (.inl (nI (p)))], [], 0, 0, hb (sL L) F G R sO) Q := by
  intro n
  induction n with
  | zero =>
    intro p hn k
    have e : p = 4 := by omega
    subst e
    refine pw_iload_n rfl rfl ?_
    refine pw_iconst (v := nI (4)) rfl (by decide) ?_
    refine pw_if2 (t := 28) rfl rfl (fun _ => ?_) (fun q => absurd q (by decide))
    refine pw_iconst (v := nI (0)) rfl (by decide) ?_
    exact pw_iret rfl rfl (Nat.zero_le _) (Nat.zero_le _) rfl k
  | succ n ih =>
    intro p hn k
    refine pw_iload_n rfl rfl ?_
    refine pw_iconst (v := nI (4)) rfl (by decide) ?_
    refine pw_if2p (cn_ge (by omega) (by omega)) rfl (t := 28) rfl (fun q => absurd q (by omega)) (fun _ => ?_)
    refine pw_aload_n rfl rfl ?_
    refine px_getr (r := some (4)) rfl rfl rfl rfl rfl ?_
    refine pw_iload_n rfl rfl ?_
    refine px_aaldn (r := (some (5 + 21 * p))) rfl rfl rfl (by omega) (by decide) (hR4 p (by omega)) ?_
    refine px_getv (x := F (5 + 21 * p) (5)) rfl rfl (hPa p (by omega)).1 rfl (rfl) ?_
    refine pw_iconst (v := nI (2)) rfl (by decide) ?_
    refine pw_if2p (A := ¬ F (5 + 21 * p) (5) = nI (2)) rfl rfl (t := 22) rfl (fun c1 => ?_) (fun c1 => ?_)
    · -- 22
      refine pw_iinc (v := nI (p + 1)) (ls1 := [some (.inr (some (89))), some (.inl (nI (p + 1)))]) rfl rfl (iinc_n _) rfl ?_
      refine pw_goto (t := 2) rfl rfl ?_
      simp only [cany, eq_false c1, if_true, if_false] at k
      exact ih (p + 1) (by omega) k
    · -- 20
      refine pw_iconst (v := nI (1)) rfl (by decide) ?_
      simp only [cany, eq_true (Decidable.of_not_not c1), if_true, if_false] at k
      exact pw_iret rfl rfl (Nat.zero_le _) (Nat.zero_le _) rfl k
theorem t_cany {L : Nat} {F G : FN} {R : RN} (hR4 : ∀ q, q < 4 → R 4 q = some (5 + 21 * q)) (hPa : ∀ q, q < 4 → pathok L (5 + 21 * q) R) {Q : Option PV → PH → Prop} (k : Q (some (.inl (nI (cany F 4 0)))) (hb (sL L) F G R sO)) : pz pP mHostA_isAnyOpen [.inr (some 89)] (hb (sL L) F G R sO) Q := by
  show pw pP mHostA_isAnyOpen (0, [some (.inr (some (89))), none], [], 0, 0, hb (sL L) F G R sO) _
  refine pw_iconst (v := nI (0)) rfl (by decide) ?_
  refine pw_istore_n (ls1 := [some (.inr (some (89))), some (.inl (nI (0)))]) rfl (Nat.le_of_ble_eq_true rfl) rfl ?_
  exact t_cany_lp hR4 hPa 4 0 (by omega) k
/-- what the segments of the paths are -/
def segv (F : FN) (R : RN) (sc : Nat → Nat) (su sn : Nat → Nat → Nat) : Prop := ∀ q, q < 4 → F (5 + 21 * q) 3 = nI (sc q) ∧ sc q ≤ 3 ∧ ∀ j, j < sc q → F (rx R (5 + 21 * q + 17) j) 2 = nI (su q j) ∧ F (rx R (5 + 21 * q + 17) j) 3 = nI (sn q j) ∧ su q j + sn q j < 2 ^ 30
def clq (F : FN) (sc : Nat → Nat) (su sn : Nat → Nat → Nat) (p u : Nat) : Nat → Nat → Bool
  | 0, _ => true
  | n + 1, q => if (q = p ∨ F (5 + 21 * q) 5 = nI 2) then (if cov (su q) (sn q) u (sc q) 0 = true then false else clq F sc su sn p u n (q + 1)) else clq F sc su sn p u n (q + 1)
def clo (F G : FN) (sc : Nat → Nat) (su sn : Nat → Nat → Nat) (p u kn ln : Nat) : Bool := if u < kn then false else if ln ≤ u then false else if G 90 u = 0 then clq F sc su sn p u 4 0 else false
theorem pa_inj {p q : Nat} : some (5 + 21 * q) = some (5 + 21 * p) ↔ q = p := by
  constructor
  · intro h
    have := Option.some.inj h
    omega
  · intro h
    rw [h]
theorem t_cloose_lp {L p u : Nat} {F G : FN} {R : RN} (hR4 : ∀ q, q < 4 → R 4 q = some (5 + 21 * q)) (hPa : ∀ q, q < 4 → pathok L (5 + 21 * q) R) {sc : Nat → Nat} {su sn : Nat → Nat → Nat} (hS : segv F R sc su sn) (hp : p < 4) (hu : u < 2 ^ 30) {Q : Option PV → PH → Prop} : ∀ (n q : Nat) (o4 : Option PV), q + n = 4 → Q (some (.inl (bI (clq F sc su sn p u n q = true)))) (hb (sL L) F G R sO) → pw pP mHostA_isLoose (32, [some (.inr (some (89))), some (.inl (nI (u))), some (.inr (some (5 + 21 * p))), some (.inl (nI (q))), o4], [], 0, 0, hb (sL L) F G R sO) Q := by
  intro n
  induction n with
  | zero =>
    intro q o4 hn k
    have e : q = 4 := by omega
    subst e
    rw [bI_t (show clq F sc su sn p u 0 4 = true from rfl)] at k
    refine pw_iload_n rfl rfl ?_
    refine pw_iconst (v := nI (4)) rfl (by decide) ?_
    refine pw_if2 (t := 77) rfl rfl (fun _ => ?_) (fun q => absurd q (by decide))
    refine pw_iconst (v := nI (1)) rfl (by decide) ?_
    exact pw_iret rfl rfl (Nat.zero_le _) (Nat.zero_le _) rfl k
  | succ n ih =>
    intro q o4 hn k
    refine pw_iload_n rfl rfl ?_
    refine pw_iconst (v := nI (4)) rfl (by decide) ?_
    refine pw_if2p (cn_ge (by omega) (by omega)) rfl (t := 77) rfl (fun q => absurd q (by omega)) (fun _ => ?_)
    refine pw_aload_n rfl rfl ?_
    refine px_getr (r := some (4)) rfl rfl rfl rfl rfl ?_
    refine pw_iload_n rfl rfl ?_
    refine px_aaldn (r := (some (5 + 21 * q))) rfl rfl rfl (by omega) (by decide) (hR4 q (by omega)) ?_
    refine pw_astore (ls1 := [some (.inr (some (89))), some (.inl (nI (u))), some (.inr (some (5 + 21 * p))), some (.inl (nI (q))), some (.inr (some (5 + 21 * q)))]) rfl (Nat.le_of_ble_eq_true rfl) rfl ?_
    refine pw_aload rfl rfl ?_
    refine pw_aload_n rfl rfl ?_
    refine pw_aeq (t := 60) rfl rfl (fun c1 => ?_) (fun c1 => ?_)
    · -- 60
      refine pw_aload rfl rfl ?_
      refine pw_iload_n rfl rfl ?_
      refine px_callv (as := [.inr (some (5 + 21 * q)), .inl (nI (u))]) (rest := []) rfl rfl (by decide) rfl (Nat.le_of_ble_eq_true rfl) (Nat.le_of_ble_eq_true rfl) (Nat.le_of_ble_eq_true rfl) (Nat.le_of_ble_eq_true rfl) rfl (hPa q (by omega)).1 rfl rfl ?_
      refine t_cbears (hPa q (by omega)) (hS q (by omega)).1 (hS q (by omega)).2.1 (fun j hj => ((hS q (by omega)).2.2 j hj).1) (fun j hj => ((hS q (by omega)).2.2 j hj).2.1) (fun j hj => ((hS q (by omega)).2.2 j hj).2.2) hu ?_
      show pw pP mHostA_isLoose (66, [some (.inr (some (89))), some (.inl (nI (u))), some (.inr (some (5 + 21 * p))), some (.inl (nI (q))), some (.inr (some (5 + 21 * q)))], [.inl (bI (cov (su q) (sn q) u (sc q) 0 = true))], 0, 0, hb (sL L) F G R sO) _
      refine pw_if1p cb_eq rfl (t := 71) rfl (fun c2 => ?_) (fun c2 => ?_)
      · -- 71
        refine pw_iinc (v := nI (q + 1)) (ls1 := [some (.inr (some (89))), some (.inl (nI (u))), some (.inr (some (5 + 21 * p))), some (.inl (nI (q + 1))), some (.inr (some (5 + 21 * q)))]) rfl rfl (iinc_n _) rfl ?_
        refine pw_goto (t := 32) rfl rfl ?_
        simp only [clq, eq_true (show q = p ∨ F (5 + 21 * q) 5 = nI 2 from Or.inl (pa_inj.mp c1)), eq_false c2, if_true, if_false] at k
        exact ih (q + 1) _ (by omega) k
      · -- 69
        refine pw_iconst (v := nI (0)) rfl (by decide) ?_
        simp only [clq, eq_true (show q = p ∨ F (5 + 21 * q) 5 = nI 2 from Or.inl (pa_inj.mp c1)), eq_true (Decidable.of_not_not c2), if_true, if_false] at k
        rw [bI_f (by decide)] at k
        exact pw_iret rfl rfl (Nat.zero_le _) (Nat.zero_le _) rfl k
    · -- 51
      refine pw_aload rfl rfl ?_
      refine px_getv (x := F (5 + 21 * q) (5)) rfl rfl (hPa q (by omega)).1 rfl (rfl) ?_
      refine pw_iconst (v := nI (2)) rfl (by decide) ?_
      refine pw_if2p (A := ¬ F (5 + 21 * q) (5) = nI (2)) rfl rfl (t := 71) rfl (fun c3 => ?_) (fun c3 => ?_)
      · -- 71
        refine pw_iinc (v := nI (q + 1)) (ls1 := [some (.inr (some (89))), some (.inl (nI (u))), some (.inr (some (5 + 21 * p))), some (.inl (nI (q + 1))), some (.inr (some (5 + 21 * q)))]) rfl rfl (iinc_n _) rfl ?_
        refine pw_goto (t := 32) rfl rfl ?_
        simp only [clq, eq_false (show ¬ (q = p ∨ F (5 + 21 * q) 5 = nI 2) from fun h => h.elim (fun h => c1 (pa_inj.mpr h)) (fun h => c3 h)), if_true, if_false] at k
        exact ih (q + 1) _ (by omega) k
      · -- 60
        refine pw_aload rfl rfl ?_
        refine pw_iload_n rfl rfl ?_
        refine px_callv (as := [.inr (some (5 + 21 * q)), .inl (nI (u))]) (rest := []) rfl rfl (by decide) rfl (Nat.le_of_ble_eq_true rfl) (Nat.le_of_ble_eq_true rfl) (Nat.le_of_ble_eq_true rfl) (Nat.le_of_ble_eq_true rfl) rfl (hPa q (by omega)).1 rfl rfl ?_
        refine t_cbears (hPa q (by omega)) (hS q (by omega)).1 (hS q (by omega)).2.1 (fun j hj => ((hS q (by omega)).2.2 j hj).1) (fun j hj => ((hS q (by omega)).2.2 j hj).2.1) (fun j hj => ((hS q (by omega)).2.2 j hj).2.2) hu ?_
        show pw pP mHostA_isLoose (66, [some (.inr (some (89))), some (.inl (nI (u))), some (.inr (some (5 + 21 * p))), some (.inl (nI (q))), some (.inr (some (5 + 21 * q)))], [.inl (bI (cov (su q) (sn q) u (sc q) 0 = true))], 0, 0, hb (sL L) F G R sO) _
        refine pw_if1p cb_eq rfl (t := 71) rfl (fun c4 => ?_) (fun c4 => ?_)
        · -- 71
          refine pw_iinc (v := nI (q + 1)) (ls1 := [some (.inr (some (89))), some (.inl (nI (u))), some (.inr (some (5 + 21 * p))), some (.inl (nI (q + 1))), some (.inr (some (5 + 21 * q)))]) rfl rfl (iinc_n _) rfl ?_
          refine pw_goto (t := 32) rfl rfl ?_
          simp only [clq, eq_true (show q = p ∨ F (5 + 21 * q) 5 = nI 2 from Or.inr (Decidable.of_not_not c3)), eq_false c4, if_true, if_false] at k
          exact ih (q + 1) _ (by omega) k
        · -- 69
          refine pw_iconst (v := nI (0)) rfl (by decide) ?_
          simp only [clq, eq_true (show q = p ∨ F (5 + 21 * q) 5 = nI 2 from Or.inr (Decidable.of_not_not c3)), eq_true (Decidable.of_not_not c4), if_true, if_false] at k
          rw [bI_f (by decide)] at k
          exact pw_iret rfl rfl (Nat.zero_le _) (Nat.zero_le _) rfl k
theorem t_cloose {L p u kn ln : Nat} {F G : FN} {R : RN} (hR4 : ∀ q, q < 4 → R 4 q = some (5 + 21 * q)) (hPa : ∀ q, q < 4 → pathok L (5 + 21 * q) R) {sc : Nat → Nat} {su sn : Nat → Nat → Nat} (hS : segv F R sc su sn) (hp : p < 4) (hu : u < 2 ^ 30) (hkn : F 89 5 = nI kn) (hk : kn < 2 ^ 30) (hln : F 2 1 = nI ln) (hl : ln ≤ 401) {Q : Option PV → PH → Prop} (k : Q (some (.inl (bI (clo F G sc su sn p u kn ln = true)))) (hb (sL L) F G R sO)) : pz pP mHostA_isLoose [.inr (some 89), .inl (nI u), .inr (some (5 + 21 * p))] (hb (sL L) F G R sO) Q := by
  show pw pP mHostA_isLoose (0, [some (.inr (some (89))), some (.inl (nI (u))), some (.inr (some (5 + 21 * p))), none, none], [], 0, 0, hb (sL L) F G R sO) _
  refine pw_iload_n rfl rfl ?_
  refine pw_aload_n rfl rfl ?_
  refine px_getv (x := nI (kn)) rfl rfl rfl rfl (hkn) ?_
  refine pw_if2p (cn_lt (by omega) (by omega)) rfl (t := 28) rfl (fun c1 => ?_) (fun c1 => ?_)
  · -- 28
    refine pw_iconst (v := nI (0)) rfl (by decide) ?_
    simp only [clo, eq_true c1, if_true, if_false] at k
    rw [bI_f (by decide)] at k
    exact pw_iret rfl rfl (Nat.zero_le _) (Nat.zero_le _) rfl k
  · -- 8
    refine pw_iload_n rfl rfl ?_
    refine pw_aload_n rfl rfl ?_
    refine px_getr (r := some (2)) rfl rfl rfl rfl rfl ?_
    refine px_getv (x := nI (ln)) rfl rfl rfl rfl (hln) ?_
    refine pw_if2p (cn_ge (by omega) (by omega)) rfl (t := 28) rfl (fun c2 => ?_) (fun c2 => ?_)
    · -- 28
      refine pw_iconst (v := nI (0)) rfl (by decide) ?_
      simp only [clo, eq_false c1, eq_true c2, if_true, if_false] at k
      rw [bI_f (by decide)] at k
      exact pw_iret rfl rfl (Nat.zero_le _) (Nat.zero_le _) rfl k
    · -- 19
      refine pw_aload_n rfl rfl ?_
      refine px_getr (r := some (90)) rfl rfl rfl rfl rfl ?_
      refine pw_iload_n rfl rfl ?_
      refine px_zaldn (x := G (90) (u)) rfl rfl (by omega) (by decide) (rfl) ?_
      refine pw_if1p (A := G (90) (u) = 0) rfl rfl (t := 30) rfl (fun c3 => ?_) (fun c3 => ?_)
      · -- 30
        refine pw_iconst (v := nI (0)) rfl (by decide) ?_
        refine pw_istore_n (ls1 := [some (.inr (some (89))), some (.inl (nI (u))), some (.inr (some (5 + 21 * p))), some (.inl (nI (0))), none]) rfl (Nat.le_of_ble_eq_true rfl) rfl ?_
        simp only [clo, eq_false c1, eq_false c2, eq_true c3, if_true, if_false] at k
        exact t_cloose_lp hR4 hPa hS hp hu 4 0 _ (by omega) k
      · -- 28
        refine pw_iconst (v := nI (0)) rfl (by decide) ?_
        simp only [clo, eq_false c1, eq_false c2, eq_false c3, if_true, if_false] at k
        rw [bI_f (by decide)] at k
        exact pw_iret rfl rfl (Nat.zero_le _) (Nat.zero_le _) rfl k
end
