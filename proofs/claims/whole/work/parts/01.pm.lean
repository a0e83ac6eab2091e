/-! THE PURE MACHINE. A heap is a list of cells, a reference is a place in that list (0: the script). One step of one frame is a
function (pm_i); a run with fuel is a function (pm_run). Nothing here speaks of the model's states: parts 02 to 04 tie it to them, once for all. -/
/-- a value: an int, or a reference (none: null) -/
abbrev PV : Type := Int32 ⊕ Option Nat
/-- a cell: ints (kind 0), booleans (kind 1), the script (kind 2) | references to objects of one kind | an object -/
abbrev PC : Type := (Nat × Nat × (Nat → Int32)) ⊕ ((Nat × Nat × (Nat → Option Nat)) ⊕ (Nat × List PV))
abbrev PH : Type := List PC
/-- pc, locals, stack, cells made, slots made, heap -/
abbrev PX : Type := Nat × List (Option PV) × List PV × Nat × Nat × PH
/-- what a step gives: the next state | a call (who, with what, what stays on the stack) | the end -/
abbrev PO : Type := PX ⊕ ((Nat × List PV × List PV) ⊕ Option PV)
/-- a program: instructions; pools (fields, methods, kinds, constants); of a method its pool, its room, what it returns, its locals, its name, its bytes; the kinds -/
abbrev PP : Type := (Nat → Nat → Option Instr) × (Nat → Nat → Option (Nat × Nat)) × (Nat → Nat → Option (Nat × Nat × Nat × Nat)) × (Nat → Nat → Option Nat) × (Nat → Nat → Option Int32) ×
  (Nat → Nat) × (Nat → Room) × (Nat → Option FieldType) × (Nat → Nat) × (Nat → MethodName) × (Nat → ByteArray) × List (vw_C × List FieldType × Bool)
abbrev pp_code (P : PP) : Nat → Nat → Option Instr := P.1
abbrev pp_fld (P : PP) : Nat → Nat → Option (Nat × Nat) := P.2.1
abbrev pp_mth (P : PP) : Nat → Nat → Option (Nat × Nat × Nat × Nat) := P.2.2.1
abbrev pp_cls (P : PP) : Nat → Nat → Option Nat := P.2.2.2.1
abbrev pp_cst (P : PP) : Nat → Nat → Option Int32 := P.2.2.2.2.1
abbrev pp_own (P : PP) : Nat → Nat := P.2.2.2.2.2.1
abbrev pp_rm (P : PP) : Nat → Room := P.2.2.2.2.2.2.1
abbrev pp_ret (P : PP) : Nat → Option FieldType := P.2.2.2.2.2.2.2.1
abbrev pp_ml (P : PP) : Nat → Nat := P.2.2.2.2.2.2.2.2.1
abbrev pp_nm (P : PP) : Nat → MethodName := P.2.2.2.2.2.2.2.2.2.1
abbrev pp_by (P : PP) : Nat → ByteArray := P.2.2.2.2.2.2.2.2.2.2.1
abbrev pp_cl (P : PP) : List (vw_C × List FieldType × Bool) := P.2.2.2.2.2.2.2.2.2.2.2
def pm_fit (ty : FieldType) (v : PV) : Bool := match ty, v with
  | .int, .inl _ => true
  | .boolean, .inl x => x == 0 || x == 1
  | .object _, .inr _ => true
  | .array _, .inr _ => true
  | _, _ => false
def pm_dfl (ty : FieldType) : PV := match ty with
  | .object _ => .inr none
  | .array _ => .inr none
  | _ => .inl 0
def pm_plain (ty : FieldType) : Bool := match ty with
  | .int => true
  | .boolean => true
  | .object _ => true
  | .array _ => true
  | _ => false
def pm_cnd (c : Jvm.ClassFile.Cond) (x y : Int32) : Bool := match c with
  | .eq => decide (x = y)
  | .ne => decide (¬ x = y)
  | .lt => decide (x < y)
  | .ge => decide (y ≤ x)
  | .gt => decide (y < x)
  | .le => decide (x ≤ y)
def pm_tg (pc : Nat) (off : Int) : Option Nat := match (pc : Int) + off with
  | .ofNat t => some t
  | .negSucc _ => none
def pm_ac (c : ACond) (x z : Option Nat) : Bool := match c with
  | .eq => decide (x = z)
  | .ne => decide (¬ x = z)
/-- a jump that is taken or not -/
def pm_br (b : Bool) (t pc : Nat) : Nat := match b with
  | true => t
  | false => pc + 3
def pm_in (j : Int32) (n : Nat) : Bool := decide (¬ j < 0) && decide (j.toNatClampNeg < n)
def pm_bin (ins : Instr) (x y : Int32) : Option Int32 := match ins with
  | .iadd => some (x + y)
  | .isub => some (x - y)
  | .imul => some (x * y)
  | .idiv => if y = 0 then none else some (x / y)
  | .irem => if y = 0 then none else some (x - x / y * y)
  | .iand => some (x &&& y)
  | .ior => some (x ||| y)
  | .ixor => some (x ^^^ y)
  | .ishl => some (x <<< (y &&& 31))
  | .ishr => some (x >>> (y &&& 31))
  | .iushr => some ((x.toUInt32 >>> (y.toUInt32 &&& Int32.toUInt32 31)).toInt32)
  | _ => none
def pm_nx (pc : Nat) (ls : List (Option PV)) (st : List PV) (kc ks : Nat) (h : PH) : Option PX := some (pc, ls, st, kc, ks, h)
def pm_iload (i n pc : Nat) (ls : List (Option PV)) (st : List PV) (kc ks : Nat) (h : PH) : Option PX := match ls[i]? with
  | some (some (.inl x)) => pm_nx (pc + n) ls (.inl x :: st) kc ks h
  | _ => none
def pm_aload (i n pc : Nat) (ls : List (Option PV)) (st : List PV) (kc ks : Nat) (h : PH) : Option PX := match ls[i]? with
  | some (some (.inr x)) => pm_nx (pc + n) ls (.inr x :: st) kc ks h
  | _ => none
def pm_istore (i n pc : Nat) (ls : List (Option PV)) (st : List PV) (kc ks : Nat) (h : PH) : Option PX := match st with
  | .inl x :: r => if i < ls.length then pm_nx (pc + n) (ls.set i (some (.inl x))) r kc ks h else none
  | _ => none
def pm_astore (i n pc : Nat) (ls : List (Option PV)) (st : List PV) (kc ks : Nat) (h : PH) : Option PX := match st with
  | .inr x :: r => if i < ls.length then pm_nx (pc + n) (ls.set i (some (.inr x))) r kc ks h else none
  | _ => none
def pm_iinc (i : Nat) (d : Int) (pc : Nat) (ls : List (Option PV)) (st : List PV) (kc ks : Nat) (h : PH) : Option PX := match ls[i]? with
  | some (some (.inl x)) => pm_nx (pc + 3) (ls.set i (some (.inl (x + Int32.ofInt d)))) st kc ks h
  | _ => none
def pm_op2 (ins : Instr) (pc : Nat) (ls : List (Option PV)) (st : List PV) (kc ks : Nat) (h : PH) : Option PX := match st with
  | .inl y :: .inl x :: r => match pm_bin ins x y with
    | some z => pm_nx (pc + 1) ls (.inl z :: r) kc ks h
    | none => none
  | _ => none
def pm_if1 (c : Jvm.ClassFile.Cond) (off : Int) (pc : Nat) (ls : List (Option PV)) (st : List PV) (kc ks : Nat) (h : PH) : Option PX := match st with
  | .inl x :: r => match pm_tg pc off with
    | some t => pm_nx (pm_br (pm_cnd c x 0) t pc) ls r kc ks h
    | none => none
  | _ => none
def pm_if2 (c : Jvm.ClassFile.Cond) (off : Int) (pc : Nat) (ls : List (Option PV)) (st : List PV) (kc ks : Nat) (h : PH) : Option PX := match st with
  | .inl y :: .inl x :: r => match pm_tg pc off with
    | some t => pm_nx (pm_br (pm_cnd c x y) t pc) ls r kc ks h
    | none => none
  | _ => none
def pm_ifa (c : ACond) (off : Int) (pc : Nat) (ls : List (Option PV)) (st : List PV) (kc ks : Nat) (h : PH) : Option PX := match st with
  | .inr y :: .inr x :: r => match pm_tg pc off with
    | some t => pm_nx (pm_br (pm_ac c x y) t pc) ls r kc ks h
    | none => none
  | _ => none
def pm_ifn (nn : Bool) (off : Int) (pc : Nat) (ls : List (Option PV)) (st : List PV) (kc ks : Nat) (h : PH) : Option PX := match st with
  | .inr x :: r => match pm_tg pc off with
    | some t => pm_nx (pm_br (match x with | none => !nn | some _ => nn) t pc) ls r kc ks h
    | none => none
  | _ => none
def pm_goto (off : Int) (pc : Nat) (ls : List (Option PV)) (st : List PV) (kc ks : Nat) (h : PH) : Option PX := match pm_tg pc off with
  | some t => pm_nx t ls st kc ks h
  | none => none
def pm_stk (ins : Instr) (pc : Nat) (ls : List (Option PV)) (st : List PV) (kc ks : Nat) (h : PH) : Option PX := match ins, st with
  | .dup, v :: r => pm_nx (pc + 1) ls (v :: v :: r) kc ks h
  | .pop, _ :: r => pm_nx (pc + 1) ls r kc ks h
  | .dup_x1, v :: w :: r => pm_nx (pc + 1) ls (v :: w :: v :: r) kc ks h
  | .dup_x2, v :: w :: u :: r => pm_nx (pc + 1) ls (v :: w :: u :: v :: r) kc ks h
  | .dup2, v :: w :: r => pm_nx (pc + 1) ls (v :: w :: v :: w :: r) kc ks h
  | _, _ => none
def pm_get (P : PP) (y idx pc : Nat) (ls : List (Option PV)) (st : List PV) (kc ks : Nat) (h : PH) : Option PX := match pp_fld P (pp_own P y) idx, st with
  | some (ci, k), .inr (some i) :: r => match h[i]? with
    | some (.inr (.inr (cj, fs))) => if cj = ci then match fs[k]? with
      | some v => pm_nx (pc + 3) ls (v :: r) kc ks h
      | none => none else none
    | _ => none
  | _, _ => none
/-- the type of a field -/
def pm_fty (P : PP) (ci k : Nat) : FieldType := match (pp_cl P)[ci]? with
  | some r => r.2.1.getD k .long
  | none => .long
def pm_put (P : PP) (y idx pc : Nat) (ls : List (Option PV)) (st : List PV) (kc ks : Nat) (h : PH) : Option PX := match pp_fld P (pp_own P y) idx, st with
  | some (ci, k), v :: .inr (some i) :: r => match h[i]? with
    | some (.inr (.inr (cj, fs))) => if cj = ci ∧ k < fs.length ∧ pm_fit (pm_fty P ci k) v = true then pm_nx (pc + 3) ls r kc ks (h.set i (.inr (.inr (ci, fs.set k v)))) else none
    | _ => none
  | _, _ => none
def pm_iald (pc : Nat) (ls : List (Option PV)) (st : List PV) (kc ks : Nat) (h : PH) : Option PX := match st with
  | .inl j :: .inr (some i) :: r => match h[i]? with
    | some (.inl (k, n, f)) => if (k = 0 ∨ k = 2) ∧ pm_in j n = true then pm_nx (pc + 1) ls (.inl (f j.toNatClampNeg) :: r) kc ks h else none
    | _ => none
  | _ => none
def pm_zald (pc : Nat) (ls : List (Option PV)) (st : List PV) (kc ks : Nat) (h : PH) : Option PX := match st with
  | .inl j :: .inr (some i) :: r => match h[i]? with
    | some (.inl (k, n, f)) => if k = 1 ∧ pm_in j n = true then pm_nx (pc + 1) ls (.inl (f j.toNatClampNeg) :: r) kc ks h else none
    | _ => none
  | _ => none
def pm_aald (P : PP) (pc : Nat) (ls : List (Option PV)) (st : List PV) (kc ks : Nat) (h : PH) : Option PX := match st with
  | .inl j :: .inr (some i) :: r => match h[i]? with
    | some (.inr (.inl (ci, n, f))) => if ((pp_cl P)[ci]?.map (fun q => q.2.2)) = some true ∧ pm_in j n = true then pm_nx (pc + 1) ls (.inr (f j.toNatClampNeg) :: r) kc ks h else none
    | _ => none
  | _ => none
def pm_iast (pc : Nat) (ls : List (Option PV)) (st : List PV) (kc ks : Nat) (h : PH) : Option PX := match st with
  | .inl x :: .inl j :: .inr (some i) :: r => match h[i]? with
    | some (.inl (k, n, f)) => if k = 0 ∧ pm_in j n = true then pm_nx (pc + 1) ls r kc ks (h.set i (.inl (k, n, upd f j.toNatClampNeg x))) else none
    | _ => none
  | _ => none
def pm_zast (pc : Nat) (ls : List (Option PV)) (st : List PV) (kc ks : Nat) (h : PH) : Option PX := match st with
  | .inl x :: .inl j :: .inr (some i) :: r => match h[i]? with
    | some (.inl (k, n, f)) => if k = 1 ∧ pm_in j n = true then pm_nx (pc + 1) ls r kc ks (h.set i (.inl (k, n, upd f j.toNatClampNeg (x &&& 1)))) else none
    | _ => none
  | _ => none
def pm_aast (P : PP) (pc : Nat) (ls : List (Option PV)) (st : List PV) (kc ks : Nat) (h : PH) : Option PX := match st with
  | .inr (some v) :: .inl j :: .inr (some i) :: r => match h[i]?, h[v]? with
    | some (.inr (.inl (ci, n, f))), some (.inr (.inr (cj, _))) => if cj = ci ∧ ((pp_cl P)[ci]?.map (fun q => q.2.2)) = some true ∧ pm_in j n = true then pm_nx (pc + 1) ls r kc ks (h.set i (.inr (.inl (ci, n, va_up f j.toNatClampNeg (some v))))) else none
    | _, _ => none
  | _ => none
def pm_alen (pc : Nat) (ls : List (Option PV)) (st : List PV) (kc ks : Nat) (h : PH) : Option PX := match st with
  | .inr (some i) :: r => match h[i]? with
    | some (.inl (k, n, _)) => if k < 3 then pm_nx (pc + 1) ls (.inl (Int32.ofNat n) :: r) kc ks h else none
    | _ => none
  | _ => none
def pm_new (P : PP) (y idx pc : Nat) (ls : List (Option PV)) (st : List PV) (kc ks : Nat) (h : PH) : Option PX := match pp_cls P (pp_own P y) idx with
  | some ci => match (pp_cl P)[ci]? with
    | some r => if kc + 1 ≤ (pp_rm P y).cells ∧ ks + r.1.2.2 ≤ (pp_rm P y).slots then pm_nx (pc + 3) ls (.inr (some h.length) :: st) (kc + 1) (ks + r.1.2.2) (h ++ [.inr (.inr (ci, r.2.1.map pm_dfl))]) else none
    | none => none
  | none => none
/-- the kind of a new array of numbers -/
def pm_ak (t : ArrayType) : Option Nat := match t with
  | .int => some 0
  | .boolean => some 1
  | _ => none
def pm_newa (P : PP) (y : Nat) (t : ArrayType) (pc : Nat) (ls : List (Option PV)) (st : List PV) (kc ks : Nat) (h : PH) : Option PX := match pm_ak t, st with
  | some k, .inl n :: r => if ¬ n < 0 ∧ n.toNatClampNeg ≤ 100000 ∧ kc + 1 ≤ (pp_rm P y).cells ∧ ks + n.toNatClampNeg ≤ (pp_rm P y).slots then pm_nx (pc + 2) ls (.inr (some h.length) :: r) (kc + 1) (ks + n.toNatClampNeg) (h ++ [.inl (k, n.toNatClampNeg, fun _ => 0)]) else none
  | _, _ => none
def pm_newq (P : PP) (y idx pc : Nat) (ls : List (Option PV)) (st : List PV) (kc ks : Nat) (h : PH) : Option PX := match pp_cls P (pp_own P y) idx, st with
  | some ci, .inl n :: r => if ((pp_cl P)[ci]?.map (fun q => q.2.2)) = some true ∧ ¬ n < 0 ∧ n.toNatClampNeg ≤ 100000 ∧ kc + 1 ≤ (pp_rm P y).cells ∧ ks + n.toNatClampNeg ≤ (pp_rm P y).slots then pm_nx (pc + 3) ls (.inr (some h.length) :: r) (kc + 1) (ks + n.toNatClampNeg) (h ++ [.inr (.inl (ci, n.toNatClampNeg, fun _ => none))]) else none
  | _, _ => none
/-- is the receiver an object of that kind -/
def pm_rcv (kd ci : Nat) (st : List PV) (n : Nat) (h : PH) : Bool := match kd with
  | 0 => true
  | 1 => true
  | 2 => match st[n - 1]? with
    | some (.inr (some i)) => match h[i]? with
      | some (.inr (.inr (cj, _))) => cj == ci
      | _ => false
    | _ => false
  | 3 => match st[n - 1]? with
    | some (.inr (some i)) => match h[i]? with
      | some (.inr (.inr (cj, _))) => cj == ci
      | _ => false
    | _ => false
  | _ => match st[n - 1]? with
    | some (.inr (some _)) => true
    | _ => false
/-- Math.max, min, abs: no method here, a step -/
def pm_math (kd : Nat) (st : List PV) : Option (List PV) := match kd, st with
  | 7, .inl y :: .inl x :: r => some (.inl (if x < y then y else x) :: r)
  | 8, .inl y :: .inl x :: r => some (.inl (if y < x then y else x) :: r)
  | 9, .inl x :: r => some (.inl (if 0 ≤ x then x else 0 - x) :: r)
  | _, _ => none
/-- w: 0 static, 1 virtual, 2 special; the kind of a link: 0 static, 1 its nest mate's, 2 virtual, 3 nest mate's, 4 a constructor, 5 nest mate's, 6 Object's constructor, 7 Math.max, 8 Math.min, 9 Math.abs -/
def pm_call (P : PP) (y w idx pc : Nat) (ls : List (Option PV)) (st : List PV) (kc ks : Nat) (h : PH) : Option PO := match pp_mth P (pp_own P y) idx with
  | some (z, n, kd, ci) =>
    if kd = 6 then (if w = 2 ∧ (st.drop 1).length ≤ 8 then (match st with
      | .inr (some _) :: r => some (.inl (pc + 3, ls, r, kc, ks, h))
      | _ => none) else none)
    else if 6 < kd then (if w = 0 ∧ kc ≤ (pp_rm P y).cells ∧ ks ≤ (pp_rm P y).slots then (match pm_math kd st with
      | some st1 => if st1.length ≤ 9 then some (.inl (pc + 3, ls, st1, kc, ks, h)) else none
      | none => none) else none)
    else if kd / 2 = w ∧ n ≤ st.length ∧ (st.drop n).length ≤ 8 ∧ kc + (pp_rm P z).cells ≤ (pp_rm P y).cells ∧ ks + (pp_rm P z).slots ≤ (pp_rm P y).slots ∧ pm_rcv kd ci st n h = true then some (.inr (.inl (z, (st.take n).reverse, st.drop n)))
    else none
  | none => none
def pm_ldc (P : PP) (y idx pc : Nat) (ls : List (Option PV)) (st : List PV) (kc ks : Nat) (h : PH) : Option PX := match pp_cst P (pp_own P y) idx with
  | some v => pm_nx (pc + 2) ls (.inl v :: st) kc ks h
  | none => none
def pm_sw (d lo hi : Int) (offs : Array Int) (pc : Nat) (ls : List (Option PV)) (st : List PV) (kc ks : Nat) (h : PH) : Option PX := match st with
  | .inl x :: r => match (if x.toInt < lo ∨ hi < x.toInt then some d else offs[(x.toInt - lo).toNat]?) with
    | some off => match pm_tg pc off with
      | some t => pm_nx t ls r kc ks h
      | none => none
    | none => none
  | _ => none
def pm_ret (P : PP) (y : Nat) (ins : Instr) (st : List PV) (kc ks : Nat) : Option PO :=
  if kc ≤ (pp_rm P y).cells ∧ ks ≤ (pp_rm P y).slots then (match ins, st, pp_ret P y with
    | .ireturn, [.inl x], some ty => if pm_fit ty (.inl x) = true then some (.inr (.inr (some (.inl x)))) else none
    | .areturn, [.inr x], some ty => if pm_fit ty (.inr x) = true then some (.inr (.inr (some (.inr x)))) else none
    | .return_, [], none => some (.inr (.inr none))
    | _, _, _ => none) else none
/-- an instruction that neither calls nor returns -/
def pm_j (P : PP) (y : Nat) (ins : Instr) (pc : Nat) (ls : List (Option PV)) (st : List PV) (kc ks : Nat) (h : PH) : Option PX := match ins with
  | .iconst n => pm_nx (pc + 1) ls (.inl (Int32.ofInt n) :: st) kc ks h
  | .bipush n => pm_nx (pc + 2) ls (.inl (Int8.ofInt n).toInt32 :: st) kc ks h
  | .sipush n => pm_nx (pc + 3) ls (.inl (Int16.ofInt n).toInt32 :: st) kc ks h
  | .ldc idx => pm_ldc P y idx pc ls st kc ks h
  | .aconst_null => pm_nx (pc + 1) ls (.inr none :: st) kc ks h
  | .iload_n k => pm_iload k.val 1 pc ls st kc ks h
  | .iload i => pm_iload i 2 pc ls st kc ks h
  | .aload_n k => pm_aload k.val 1 pc ls st kc ks h
  | .aload i => pm_aload i 2 pc ls st kc ks h
  | .istore_n k => pm_istore k.val 1 pc ls st kc ks h
  | .istore i => pm_istore i 2 pc ls st kc ks h
  | .astore_n k => pm_astore k.val 1 pc ls st kc ks h
  | .astore i => pm_astore i 2 pc ls st kc ks h
  | .iinc i d => pm_iinc i d pc ls st kc ks h
  | .iadd => pm_op2 .iadd pc ls st kc ks h
  | .isub => pm_op2 .isub pc ls st kc ks h
  | .imul => pm_op2 .imul pc ls st kc ks h
  | .idiv => pm_op2 .idiv pc ls st kc ks h
  | .irem => pm_op2 .irem pc ls st kc ks h
  | .iand => pm_op2 .iand pc ls st kc ks h
  | .ior => pm_op2 .ior pc ls st kc ks h
  | .ixor => pm_op2 .ixor pc ls st kc ks h
  | .ishl => pm_op2 .ishl pc ls st kc ks h
  | .ishr => pm_op2 .ishr pc ls st kc ks h
  | .iushr => pm_op2 .iushr pc ls st kc ks h
  | .ineg => match st with
    | .inl x :: r => pm_nx (pc + 1) ls (.inl (-x) :: r) kc ks h
    | _ => none
  | .dup => pm_stk .dup pc ls st kc ks h
  | .pop => pm_stk .pop pc ls st kc ks h
  | .dup_x1 => pm_stk .dup_x1 pc ls st kc ks h
  | .dup_x2 => pm_stk .dup_x2 pc ls st kc ks h
  | .dup2 => pm_stk .dup2 pc ls st kc ks h
  | .goto off => pm_goto off pc ls st kc ks h
  | .ifCond c off => pm_if1 c off pc ls st kc ks h
  | .if_icmp c off => pm_if2 c off pc ls st kc ks h
  | .if_acmp c off => pm_ifa c off pc ls st kc ks h
  | .ifnull off => pm_ifn false off pc ls st kc ks h
  | .ifnonnull off => pm_ifn true off pc ls st kc ks h
  | .getfield idx => pm_get P y idx pc ls st kc ks h
  | .putfield idx => pm_put P y idx pc ls st kc ks h
  | .iaload => pm_iald pc ls st kc ks h
  | .baload => pm_zald pc ls st kc ks h
  | .aaload => pm_aald P pc ls st kc ks h
  | .iastore => pm_iast pc ls st kc ks h
  | .bastore => pm_zast pc ls st kc ks h
  | .aastore => pm_aast P pc ls st kc ks h
  | .arraylength => pm_alen pc ls st kc ks h
  | .new idx => pm_new P y idx pc ls st kc ks h
  | .newarray t => pm_newa P y t pc ls st kc ks h
  | .anewarray idx => pm_newq P y idx pc ls st kc ks h
  | .tableswitch d lo hi offs => pm_sw d lo hi offs pc ls st kc ks h
  | _ => none
def pm_i (P : PP) (y : Nat) (ins : Instr) (pc : Nat) (ls : List (Option PV)) (st : List PV) (kc ks : Nat) (h : PH) : Option PO := match ins with
  | .invokestatic idx => pm_call P y 0 idx pc ls st kc ks h
  | .invokevirtual idx => pm_call P y 1 idx pc ls st kc ks h
  | .invokespecial idx => pm_call P y 2 idx pc ls st kc ks h
  | .ireturn => pm_ret P y .ireturn st kc ks
  | .areturn => pm_ret P y .areturn st kc ks
  | .return_ => pm_ret P y .return_ st kc ks
  | i => (pm_j P y i pc ls st kc ks h).map Sum.inl
def pm_s (P : PP) (y : Nat) (X : PX) : Option PO := match pp_code P y X.1 with
  | some ins => pm_i P y ins X.1 X.2.1 X.2.2.1 X.2.2.2.1 X.2.2.2.2.1 X.2.2.2.2.2
  | none => none
/-- a method's first state -/
def pm_en (P : PP) (z : Nat) (as : List PV) (h : PH) : PX := (0, as.map some ++ List.replicate (pp_ml P z - as.length) none, [], 0, 0, h)
def pm_run (P : PP) : Nat → Nat → PX → Option (Option PV × PH)
  | 0, _, _ => none
  | n + 1, y, X => match pm_s P y X with
    | none => none
    | some (.inl X1) => pm_run P n y X1
    | some (.inr (.inl (z, as, rest))) => match pm_run P n z (pm_en P z as X.2.2.2.2.2) with
      | none => none
      | some (r, h1) => pm_run P n y (X.1 + 3, X.2.1, r.toList ++ rest, X.2.2.2.1 + (pp_rm P z).cells, X.2.2.2.2.1 + (pp_rm P z).slots, h1)
    | some (.inr (.inr r)) => some (r, X.2.2.2.2.2)
/-- how long an instruction is (a switch: any) -/
def pm_len (ins : Instr) : Option Nat := match ins with
  | .tableswitch _ _ _ _ => none
  | .bipush _ => some 2
  | .ldc _ => some 2
  | .iload _ => some 2
  | .aload _ => some 2
  | .istore _ => some 2
  | .astore _ => some 2
  | .newarray _ => some 2
  | .sipush _ => some 3
  | .iinc _ _ => some 3
  | .goto _ => some 3
  | .ifCond _ _ => some 3
  | .if_icmp _ _ => some 3
  | .if_acmp _ _ => some 3
  | .ifnull _ => some 3
  | .ifnonnull _ => some 3
  | .getfield _ => some 3
  | .putfield _ => some 3
  | .new _ => some 3
  | .anewarray _ => some 3
  | .invokestatic _ => some 3
  | .invokevirtual _ => some 3
  | .invokespecial _ => some 3
  | _ => some 1
