/-! the tables of 12.nm are what the bytes decode to: made by a program (wip/whole/gen/valid.py) -/
def pdk1 (bs : ByteArray) (pc : Nat) (ins : Instr) : Bool := match decode bs pc with
  | .ok (i, len) => decide (i = ins) && (match pm_len ins with
    | some n => decide (len = n)
    | none => true)
  | _ => false
def pdk (bs : ByteArray) : Nat → List (Option Instr) → Bool
  | _, [] => true
  | pc, some ins :: t => pdk1 bs pc ins && pdk bs (pc + 1) t
  | pc, none :: t => pdk bs (pc + 1) t
theorem pdk1_use {bs : ByteArray} {pc : Nat} {ins : Instr} (h : pdk1 bs pc ins = true) : ∃ len, decode bs pc = .ok (ins, len) ∧ ∀ n, pm_len ins = some n → len = n := by
  unfold pdk1 at h
  split at h
  · rename_i i len e
    rw [Bool.and_eq_true, decide_eq_true_eq] at h
    obtain ⟨h1, h2⟩ := h
    subst h1
    refine ⟨len, e, fun n hn => ?_⟩
    rw [hn] at h2
    exact of_decide_eq_true h2
  · cases h
theorem pdk_use {bs : ByteArray} {ins : Instr} : ∀ (t : List (Option Instr)) (k pc : Nat), pdk bs k t = true → t[pc]? = some (some ins) → pdk1 bs (k + pc) ins = true
  | [], _, _, _, h => by simp at h
  | some i :: t, k, 0, h, e => by
    unfold pdk at h
    rw [Bool.and_eq_true] at h
    cases e
    exact h.1
  | some i :: t, k, pc + 1, h, e => by
    unfold pdk at h
    rw [Bool.and_eq_true] at h
    have := pdk_use t (k + 1) pc h.2 e
    rw [show k + (pc + 1) = k + 1 + pc by omega]
    exact this
  | none :: t, k, 0, h, e => by cases e
  | none :: t, k, pc + 1, h, e => by
    unfold pdk at h
    have := pdk_use t (k + 1) pc h e
    rw [show k + (pc + 1) = k + 1 + pc by omega]
    exact this
theorem pD0 : pdk prog_1_method_1_code 0 pT0 = true := by decide +kernel
theorem pD1 : pdk prog_1_method_22_code 0 pT1 = true := by decide +kernel
theorem pD2 : pdk prog_1_method_23_code 0 pT2 = true := by decide +kernel
theorem pD3 : pdk prog_12_method_50_code 0 pT3 = true := by decide +kernel
theorem pD4 : pdk prog_9_method_1_code 0 pT4 = true := by decide +kernel
theorem pD5 : pdk prog_6_method_1_code 0 pT5 = true := by decide +kernel
theorem pD6 : pdk prog_7_method_1_code 0 pT6 = true := by decide +kernel
theorem pD7 : pdk prog_3_method_1_code 0 pT7 = true := by decide +kernel
theorem pD8 : pdk prog_8_method_1_code 0 pT8 = true := by decide +kernel
theorem pD9 : pdk prog_4_method_1_code 0 pT9 = true := by decide +kernel
theorem pD10 : pdk prog_5_method_1_code 0 pT10 = true := by decide +kernel
theorem pD11 : pdk prog_2_method_1_code 0 pT11 = true := by decide +kernel
theorem pD12 : pdk prog_1_method_2_code 0 pT12 = true := by decide +kernel
theorem pD13 : pdk prog_1_method_24_code 0 pT13 = true := by decide +kernel
theorem pD14 : pdk prog_1_method_26_code 0 pT14 = true := by decide +kernel
theorem pD15 : pdk prog_4_method_2_code 0 pT15 = true := by decide +kernel
theorem pD16 : pdk prog_6_method_5_code 0 pT16 = true := by decide +kernel
theorem pD17 : pdk prog_6_method_4_code 0 pT17 = true := by decide +kernel
theorem pD18 : pdk prog_8_method_2_code 0 pT18 = true := by decide +kernel
theorem pD19 : pdk prog_4_method_13_code 0 pT19 = true := by decide +kernel
theorem pD20 : pdk prog_4_method_14_code 0 pT20 = true := by decide +kernel
theorem pD21 : pdk prog_6_method_3_code 0 pT21 = true := by decide +kernel
theorem pD22 : pdk prog_6_method_2_code 0 pT22 = true := by decide +kernel
theorem pD23 : pdk prog_7_method_3_code 0 pT23 = true := by decide +kernel
theorem pD24 : pdk prog_3_method_2_code 0 pT24 = true := by decide +kernel
theorem pD25 : pdk prog_9_method_4_code 0 pT25 = true := by decide +kernel
theorem pD26 : pdk prog_1_method_3_code 0 pT26 = true := by decide +kernel
theorem pD27 : pdk prog_1_method_25_code 0 pT27 = true := by decide +kernel
theorem pD28 : pdk prog_6_method_11_code 0 pT28 = true := by decide +kernel
theorem pD29 : pdk prog_7_method_6_code 0 pT29 = true := by decide +kernel
theorem pD30 : pdk prog_1_method_4_code 0 pT30 = true := by decide +kernel
theorem pD31 : pdk prog_9_method_2_code 0 pT31 = true := by decide +kernel
theorem pD32 : pdk prog_1_method_5_code 0 pT32 = true := by decide +kernel
theorem pD33 : pdk prog_9_method_3_code 0 pT33 = true := by decide +kernel
theorem pD34 : pdk prog_1_method_6_code 0 pT34 = true := by decide +kernel
theorem pD35 : pdk prog_5_method_6_code 0 pT35 = true := by decide +kernel
theorem pD36 : pdk prog_1_method_7_code 0 pT36 = true := by decide +kernel
theorem pD37 : pdk prog_1_method_27_code 0 pT37 = true := by decide +kernel
theorem pD38 : pdk prog_1_method_28_code 0 pT38 = true := by decide +kernel
theorem pD39 : pdk prog_7_method_5_code 0 pT39 = true := by decide +kernel
theorem pD40 : pdk prog_7_method_4_code 0 pT40 = true := by decide +kernel
theorem pD41 : pdk prog_7_method_2_code 0 pT41 = true := by decide +kernel
theorem pD42 : pdk prog_5_method_2_code 0 pT42 = true := by decide +kernel
theorem pD43 : pdk prog_5_method_3_code 0 pT43 = true := by decide +kernel
theorem pD44 : pdk prog_2_method_2_code 0 pT44 = true := by decide +kernel
theorem pD45 : pdk prog_5_method_4_code 0 pT45 = true := by decide +kernel
theorem pD46 : pdk prog_2_method_3_code 0 pT46 = true := by decide +kernel
theorem pD47 : pdk prog_5_method_5_code 0 pT47 = true := by decide +kernel
theorem pD48 : pdk prog_1_method_29_code 0 pT48 = true := by decide +kernel
theorem pD49 : pdk prog_4_method_3_code 0 pT49 = true := by decide +kernel
theorem pD50 : pdk prog_4_method_4_code 0 pT50 = true := by decide +kernel
theorem pD51 : pdk prog_6_method_6_code 0 pT51 = true := by decide +kernel
theorem pD52 : pdk prog_6_method_9_code 0 pT52 = true := by decide +kernel
theorem pD53 : pdk prog_4_method_5_code 0 pT53 = true := by decide +kernel
theorem pD54 : pdk prog_4_method_6_code 0 pT54 = true := by decide +kernel
theorem pD55 : pdk prog_4_method_7_code 0 pT55 = true := by decide +kernel
theorem pD56 : pdk prog_4_method_8_code 0 pT56 = true := by decide +kernel
theorem pD57 : pdk prog_6_method_10_code 0 pT57 = true := by decide +kernel
theorem pD58 : pdk prog_4_method_9_code 0 pT58 = true := by decide +kernel
theorem pD59 : pdk prog_4_method_10_code 0 pT59 = true := by decide +kernel
theorem pD60 : pdk prog_6_method_7_code 0 pT60 = true := by decide +kernel
theorem pD61 : pdk prog_4_method_11_code 0 pT61 = true := by decide +kernel
theorem pD62 : pdk prog_4_method_12_code 0 pT62 = true := by decide +kernel
theorem pD63 : pdk prog_1_method_8_code 0 pT63 = true := by decide +kernel
theorem pD64 : pdk prog_1_method_9_code 0 pT64 = true := by decide +kernel
theorem pD65 : pdk prog_1_method_10_code 0 pT65 = true := by decide +kernel
theorem pD66 : pdk prog_1_method_11_code 0 pT66 = true := by decide +kernel
theorem pD67 : pdk prog_1_method_12_code 0 pT67 = true := by decide +kernel
theorem pD68 : pdk prog_1_method_30_code 0 pT68 = true := by decide +kernel
theorem pD69 : pdk prog_1_method_31_code 0 pT69 = true := by decide +kernel
theorem pD70 : pdk prog_1_method_13_code 0 pT70 = true := by decide +kernel
theorem pD71 : pdk prog_1_method_14_code 0 pT71 = true := by decide +kernel
theorem pD72 : pdk prog_1_method_15_code 0 pT72 = true := by decide +kernel
theorem pD73 : pdk prog_1_method_16_code 0 pT73 = true := by decide +kernel
theorem pD74 : pdk prog_6_method_8_code 0 pT74 = true := by decide +kernel
theorem pD75 : pdk prog_1_method_17_code 0 pT75 = true := by decide +kernel
theorem pD76 : pdk prog_1_method_18_code 0 pT76 = true := by decide +kernel
theorem pD77 : pdk prog_1_method_19_code 0 pT77 = true := by decide +kernel
theorem pD78 : pdk prog_1_method_20_code 0 pT78 = true := by decide +kernel
theorem pD79 : pdk prog_1_method_21_code 0 pT79 = true := by decide +kernel
theorem pD80 : pdk method_2_code 0 pT80 = true := by decide +kernel
theorem pD81 : pdk prog_11_method_1_code 0 pT81 = true := by decide +kernel
theorem pD82 : pdk prog_11_method_8_code 0 pT82 = true := by decide +kernel
theorem pD83 : pdk prog_11_method_2_code 0 pT83 = true := by decide +kernel
theorem pD84 : pdk prog_11_method_9_code 0 pT84 = true := by decide +kernel
theorem pD85 : pdk prog_11_method_7_code 0 pT85 = true := by decide +kernel
theorem pD86 : pdk prog_11_method_4_code 0 pT86 = true := by decide +kernel
theorem pD87 : pdk prog_11_method_3_code 0 pT87 = true := by decide +kernel
theorem pD88 : pdk prog_11_method_11_code 0 pT88 = true := by decide +kernel
theorem pD89 : pdk prog_11_method_10_code 0 pT89 = true := by decide +kernel
theorem pD90 : pdk prog_11_method_12_code 0 pT90 = true := by decide +kernel
theorem pD91 : pdk prog_11_method_13_code 0 pT91 = true := by decide +kernel
theorem pD92 : pdk prog_11_method_14_code 0 pT92 = true := by decide +kernel
theorem pD93 : pdk prog_11_method_15_code 0 pT93 = true := by decide +kernel
theorem pD94 : pdk prog_11_method_16_code 0 pT94 = true := by decide +kernel
theorem pD95 : pdk prog_11_method_5_code 0 pT95 = true := by decide +kernel
theorem pD96 : pdk prog_11_method_17_code 0 pT96 = true := by decide +kernel
theorem pD97 : pdk prog_11_method_37_code 0 pT97 = true := by decide +kernel
theorem pD98 : pdk prog_11_method_18_code 0 pT98 = true := by decide +kernel
theorem pD99 : pdk prog_11_method_19_code 0 pT99 = true := by decide +kernel
theorem pD100 : pdk prog_11_method_20_code 0 pT100 = true := by decide +kernel
theorem pD101 : pdk prog_11_method_24_code 0 pT101 = true := by decide +kernel
theorem pD102 : pdk prog_11_method_23_code 0 pT102 = true := by decide +kernel
theorem pD103 : pdk prog_11_method_25_code 0 pT103 = true := by decide +kernel
theorem pD104 : pdk prog_11_method_21_code 0 pT104 = true := by decide +kernel
theorem pD105 : pdk prog_11_method_22_code 0 pT105 = true := by decide +kernel
theorem pD106 : pdk prog_11_method_26_code 0 pT106 = true := by decide +kernel
theorem pD107 : pdk prog_11_method_27_code 0 pT107 = true := by decide +kernel
theorem pD108 : pdk prog_11_method_6_code 0 pT108 = true := by decide +kernel
theorem pD109 : pdk prog_11_method_28_code 0 pT109 = true := by decide +kernel
theorem pD110 : pdk prog_11_method_29_code 0 pT110 = true := by decide +kernel
theorem pD111 : pdk prog_11_method_30_code 0 pT111 = true := by decide +kernel
theorem pD112 : pdk prog_11_method_31_code 0 pT112 = true := by decide +kernel
theorem pD113 : pdk prog_11_method_32_code 0 pT113 = true := by decide +kernel
theorem pD114 : pdk prog_11_method_33_code 0 pT114 = true := by decide +kernel
theorem pD115 : pdk prog_11_method_34_code 0 pT115 = true := by decide +kernel
theorem pD116 : pdk prog_11_method_35_code 0 pT116 = true := by decide +kernel
theorem pD117 : pdk prog_11_method_36_code 0 pT117 = true := by decide +kernel
theorem pD118 : pdk prog_11_method_38_code 0 pT118 = true := by decide +kernel
theorem pD119 : pdk prog_11_method_39_code 0 pT119 = true := by decide +kernel
theorem pD120 : pdk prog_11_method_40_code 0 pT120 = true := by decide +kernel
theorem pD121 : pdk code 0 pT121 = true := by decide +kernel
theorem pDall : ∀ m ∈ pM, pdk m.2.1 0 m.1 = true := List.forall_mem_cons.mpr ⟨pD0, List.forall_mem_cons.mpr ⟨pD1, List.forall_mem_cons.mpr ⟨pD2, List.forall_mem_cons.mpr ⟨pD3, List.forall_mem_cons.mpr ⟨pD4, List.forall_mem_cons.mpr ⟨pD5, List.forall_mem_cons.mpr ⟨pD6, List.forall_mem_cons.mpr ⟨pD7, List.forall_mem_cons.mpr ⟨pD8, List.forall_mem_cons.mpr ⟨pD9, List.forall_mem_cons.mpr ⟨pD10, List.forall_mem_cons.mpr ⟨pD11, List.forall_mem_cons.mpr ⟨pD12, List.forall_mem_cons.mpr ⟨pD13, List.forall_mem_cons.mpr ⟨pD14, List.forall_mem_cons.mpr ⟨pD15, List.forall_mem_cons.mpr ⟨pD16, List.forall_mem_cons.mpr ⟨pD17, List.forall_mem_cons.mpr ⟨pD18, List.forall_mem_cons.mpr ⟨pD19, List.forall_mem_cons.mpr ⟨pD20, List.forall_mem_cons.mpr ⟨pD21, List.forall_mem_cons.mpr ⟨pD22, List.forall_mem_cons.mpr ⟨pD23, List.forall_mem_cons.mpr ⟨pD24, List.forall_mem_cons.mpr ⟨pD25, List.forall_mem_cons.mpr ⟨pD26, List.forall_mem_cons.mpr ⟨pD27, List.forall_mem_cons.mpr ⟨pD28, List.forall_mem_cons.mpr ⟨pD29, List.forall_mem_cons.mpr ⟨pD30, List.forall_mem_cons.mpr ⟨pD31, List.forall_mem_cons.mpr ⟨pD32, List.forall_mem_cons.mpr ⟨pD33, List.forall_mem_cons.mpr ⟨pD34, List.forall_mem_cons.mpr ⟨pD35, List.forall_mem_cons.mpr ⟨pD36, List.forall_mem_cons.mpr ⟨pD37, List.forall_mem_cons.mpr ⟨pD38, List.forall_mem_cons.mpr ⟨pD39, List.forall_mem_cons.mpr ⟨pD40, List.forall_mem_cons.mpr ⟨pD41, List.forall_mem_cons.mpr ⟨pD42, List.forall_mem_cons.mpr ⟨pD43, List.forall_mem_cons.mpr ⟨pD44, List.forall_mem_cons.mpr ⟨pD45, List.forall_mem_cons.mpr ⟨pD46, List.forall_mem_cons.mpr ⟨pD47, List.forall_mem_cons.mpr ⟨pD48, List.forall_mem_cons.mpr ⟨pD49, List.forall_mem_cons.mpr ⟨pD50, List.forall_mem_cons.mpr ⟨pD51, List.forall_mem_cons.mpr ⟨pD52, List.forall_mem_cons.mpr ⟨pD53, List.forall_mem_cons.mpr ⟨pD54, List.forall_mem_cons.mpr ⟨pD55, List.forall_mem_cons.mpr ⟨pD56, List.forall_mem_cons.mpr ⟨pD57, List.forall_mem_cons.mpr ⟨pD58, List.forall_mem_cons.mpr ⟨pD59, List.forall_mem_cons.mpr ⟨pD60, List.forall_mem_cons.mpr ⟨pD61, List.forall_mem_cons.mpr ⟨pD62, List.forall_mem_cons.mpr ⟨pD63, List.forall_mem_cons.mpr ⟨pD64, List.forall_mem_cons.mpr ⟨pD65, List.forall_mem_cons.mpr ⟨pD66, List.forall_mem_cons.mpr ⟨pD67, List.forall_mem_cons.mpr ⟨pD68, List.forall_mem_cons.mpr ⟨pD69, List.forall_mem_cons.mpr ⟨pD70, List.forall_mem_cons.mpr ⟨pD71, List.forall_mem_cons.mpr ⟨pD72, List.forall_mem_cons.mpr ⟨pD73, List.forall_mem_cons.mpr ⟨pD74, List.forall_mem_cons.mpr ⟨pD75, List.forall_mem_cons.mpr ⟨pD76, List.forall_mem_cons.mpr ⟨pD77, List.forall_mem_cons.mpr ⟨pD78, List.forall_mem_cons.mpr ⟨pD79, List.forall_mem_cons.mpr ⟨pD80, List.forall_mem_cons.mpr ⟨pD81, List.forall_mem_cons.mpr ⟨pD82, List.forall_mem_cons.mpr ⟨pD83, List.forall_mem_cons.mpr ⟨pD84, List.forall_mem_cons.mpr ⟨pD85, List.forall_mem_cons.mpr ⟨pD86, List.forall_mem_cons.mpr ⟨pD87, List.forall_mem_cons.mpr ⟨pD88, List.forall_mem_cons.mpr ⟨pD89, List.forall_mem_cons.mpr ⟨pD90, List.forall_mem_cons.mpr ⟨pD91, List.forall_mem_cons.mpr ⟨pD92, List.forall_mem_cons.mpr ⟨pD93, List.forall_mem_cons.mpr ⟨pD94, List.forall_mem_cons.mpr ⟨pD95, List.forall_mem_cons.mpr ⟨pD96, List.forall_mem_cons.mpr ⟨pD97, List.forall_mem_cons.mpr ⟨pD98, List.forall_mem_cons.mpr ⟨pD99, List.forall_mem_cons.mpr ⟨pD100, List.forall_mem_cons.mpr ⟨pD101, List.forall_mem_cons.mpr ⟨pD102, List.forall_mem_cons.mpr ⟨pD103, List.forall_mem_cons.mpr ⟨pD104, List.forall_mem_cons.mpr ⟨pD105, List.forall_mem_cons.mpr ⟨pD106, List.forall_mem_cons.mpr ⟨pD107, List.forall_mem_cons.mpr ⟨pD108, List.forall_mem_cons.mpr ⟨pD109, List.forall_mem_cons.mpr ⟨pD110, List.forall_mem_cons.mpr ⟨pD111, List.forall_mem_cons.mpr ⟨pD112, List.forall_mem_cons.mpr ⟨pD113, List.forall_mem_cons.mpr ⟨pD114, List.forall_mem_cons.mpr ⟨pD115, List.forall_mem_cons.mpr ⟨pD116, List.forall_mem_cons.mpr ⟨pD117, List.forall_mem_cons.mpr ⟨pD118, List.forall_mem_cons.mpr ⟨pD119, List.forall_mem_cons.mpr ⟨pD120, List.forall_mem_cons.mpr ⟨pD121, fun _ h => absurd h List.not_mem_nil⟩⟩⟩⟩⟩⟩⟩⟩⟩⟩⟩⟩⟩⟩⟩⟩⟩⟩⟩⟩⟩⟩⟩⟩⟩⟩⟩⟩⟩⟩⟩⟩⟩⟩⟩⟩⟩⟩⟩⟩⟩⟩⟩⟩⟩⟩⟩⟩⟩⟩⟩⟩⟩⟩⟩⟩⟩⟩⟩⟩⟩⟩⟩⟩⟩⟩⟩⟩⟩⟩⟩⟩⟩⟩⟩⟩⟩⟩⟩⟩⟩⟩⟩⟩⟩⟩⟩⟩⟩⟩⟩⟩⟩⟩⟩⟩⟩⟩⟩⟩⟩⟩⟩⟩⟩⟩⟩⟩⟩⟩⟩⟩⟩⟩⟩⟩⟩⟩⟩⟩⟩⟩
theorem nkC : pk_C pP := by
  intro y pc ins h
  have h : ((pMg y).1[pc]?).join = some ins := h
  have h2 : (pMg y).1[pc]? = some (some ins) := by
    cases e : (pMg y).1[pc]? with
    | none => rw [e] at h; cases h
    | some x => rw [e] at h; exact congrArg some h
  rcases pMg_or y with q | q
  · rw [q] at h2
    cases h2
  · have g := pdk_use _ 0 pc (pDall _ q) h2
    rw [Nat.zero_add] at g
    exact pdk1_use g
theorem nkAll : pk_all pP pWs pNs := ⟨nkC, nkK, nkF, nkP, nkM, nkZ, nkR, nkV, nkN, nkA, nkG, nkS⟩
