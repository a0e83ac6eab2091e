/-! A RUN of the pure machine is a run of the model. -/
section PDS
variable {M : MC} {P : PP} {D : va_G} {dA : Nat → ClassId} {b B y : Nat} {ws ns : List Cond} {pc kc ks : Nat} {ls : List (Option PV)} {st : List PV} {h : PH}
/-- the frame goes on at X -/
abbrev ps_X (M : MC) (P : PP) (D : va_G) (dA : Nat → ClassId) (b B y : Nat) (X : PX) : Prop := ps_T M P D dA b B y X.1 X.2.1 X.2.2.1 X.2.2.2.1 X.2.2.2.2.1 X.2.2.2.2.2
theorem pm_nx_inj {pc kc ks : Nat} {ls : List (Option PV)} {st : List PV} {h : PH} {X : PX} (e : pm_nx pc ls st kc ks h = some X) : X = (pc, ls, st, kc, ks, h) := by
  have e2 : (some (pc, ls, st, kc, ks, h) : Option PX) = some X := e
  exact (Option.some.inj e2).symm
set_option maxHeartbeats 4000000 in
theorem ps_j (C : ps_C M P D dA b B y ws ns) (ok : pk_all P ws ns) {ins : Instr} (hc : pp_code P y pc = some ins) {X : PX} (hi : pm_j P y ins pc ls st kc ks h = some X) (k : ps_X M P D dA b B y X) : ps_T M P D dA b B y pc ls st kc ks h := by
  obtain ⟨oC, oK, oF, oP, oM, oZ, oR, oV, oN, oA, oG, oS⟩ := ok
  obtain ⟨len, hd, hlen⟩ := oC y pc ins hc
  cases ins with
  | iconst n =>
    cases hlen 1 rfl
    cases pm_nx_inj (show pm_nx (pc + 1) ls (.inl (Int32.ofInt n) :: st) kc ks h = _ from hi)
    exact ps_iconst C hd k
  | bipush n =>
    cases hlen 2 rfl
    cases pm_nx_inj (show pm_nx (pc + 2) ls (.inl (Int8.ofInt n).toInt32 :: st) kc ks h = _ from hi)
    exact ps_bipush C hd k
  | sipush n =>
    cases hlen 3 rfl
    cases pm_nx_inj (show pm_nx (pc + 3) ls (.inl (Int16.ofInt n).toInt32 :: st) kc ks h = _ from hi)
    exact ps_sipush C hd k
  | ldc idx =>
    cases hlen 2 rfl
    have hi : pm_ldc P y idx pc ls st kc ks h = _ := hi
    unfold pm_ldc at hi
    split at hi
    · rename_i v hv
      cases pm_nx_inj hi
      exact ps_ldc C oV hv hd k
    · cases hi
  | aconst_null =>
    cases hlen 1 rfl
    cases pm_nx_inj (show pm_nx (pc + 1) ls (.inr none :: st) kc ks h = _ from hi)
    exact ps_null C hd k
  | iload_n i =>
    cases hlen 1 rfl
    have hi : pm_iload i.val 1 pc ls st kc ks h = _ := hi
    unfold pm_iload at hi
    split at hi
    · rename_i v hv
      cases pm_nx_inj hi
      exact ps_iload_n C hv hd k
    · cases hi
  | iload i =>
    cases hlen 2 rfl
    have hi : pm_iload i 2 pc ls st kc ks h = _ := hi
    unfold pm_iload at hi
    split at hi
    · rename_i v hv
      cases pm_nx_inj hi
      exact ps_iload C hv hd k
    · cases hi
  | aload_n i =>
    cases hlen 1 rfl
    have hi : pm_aload i.val 1 pc ls st kc ks h = _ := hi
    unfold pm_aload at hi
    split at hi
    · rename_i v hv
      cases pm_nx_inj hi
      exact ps_aload_n C hv hd k
    · cases hi
  | aload i =>
    cases hlen 2 rfl
    have hi : pm_aload i 2 pc ls st kc ks h = _ := hi
    unfold pm_aload at hi
    split at hi
    · rename_i v hv
      cases pm_nx_inj hi
      exact ps_aload C hv hd k
    · cases hi
  | istore_n i =>
    cases hlen 1 rfl
    have hi : pm_istore i.val 1 pc ls st kc ks h = _ := hi
    unfold pm_istore at hi
    split at hi
    · split at hi
      · rename_i hlt
        cases pm_nx_inj hi
        exact ps_istore_n C hlt hd k
      · cases hi
    · cases hi
  | istore i =>
    cases hlen 2 rfl
    have hi : pm_istore i 2 pc ls st kc ks h = _ := hi
    unfold pm_istore at hi
    split at hi
    · split at hi
      · rename_i hlt
        cases pm_nx_inj hi
        exact ps_istore C hlt hd k
      · cases hi
    · cases hi
  | astore_n i =>
    cases hlen 1 rfl
    have hi : pm_astore i.val 1 pc ls st kc ks h = _ := hi
    unfold pm_astore at hi
    split at hi
    · split at hi
      · rename_i hlt
        cases pm_nx_inj hi
        exact ps_astore_n C hlt hd k
      · cases hi
    · cases hi
  | astore i =>
    cases hlen 2 rfl
    have hi : pm_astore i 2 pc ls st kc ks h = _ := hi
    unfold pm_astore at hi
    split at hi
    · split at hi
      · rename_i hlt
        cases pm_nx_inj hi
        exact ps_astore C hlt hd k
      · cases hi
    · cases hi
  | iinc i d =>
    cases hlen 3 rfl
    have hi : pm_iinc i d pc ls st kc ks h = _ := hi
    unfold pm_iinc at hi
    split at hi
    · rename_i v hv
      cases pm_nx_inj hi
      exact ps_iinc C hv hd k
    · cases hi
  | iadd =>
    cases hlen 1 rfl
    have hi : pm_op2 .iadd pc ls st kc ks h = _ := hi
    unfold pm_op2 at hi
    split at hi
    · split at hi
      · rename_i z hz
        cases pm_nx_inj hi
        exact ps_op2 C hz hd k
      · cases hi
    · cases hi
  | isub =>
    cases hlen 1 rfl
    have hi : pm_op2 .isub pc ls st kc ks h = _ := hi
    unfold pm_op2 at hi
    split at hi
    · split at hi
      · rename_i z hz
        cases pm_nx_inj hi
        exact ps_op2 C hz hd k
      · cases hi
    · cases hi
  | imul =>
    cases hlen 1 rfl
    have hi : pm_op2 .imul pc ls st kc ks h = _ := hi
    unfold pm_op2 at hi
    split at hi
    · split at hi
      · rename_i z hz
        cases pm_nx_inj hi
        exact ps_op2 C hz hd k
      · cases hi
    · cases hi
  | idiv =>
    cases hlen 1 rfl
    have hi : pm_op2 .idiv pc ls st kc ks h = _ := hi
    unfold pm_op2 at hi
    split at hi
    · split at hi
      · rename_i z hz
        cases pm_nx_inj hi
        exact ps_op2 C hz hd k
      · cases hi
    · cases hi
  | irem =>
    cases hlen 1 rfl
    have hi : pm_op2 .irem pc ls st kc ks h = _ := hi
    unfold pm_op2 at hi
    split at hi
    · split at hi
      · rename_i z hz
        cases pm_nx_inj hi
        exact ps_op2 C hz hd k
      · cases hi
    · cases hi
  | iand =>
    cases hlen 1 rfl
    have hi : pm_op2 .iand pc ls st kc ks h = _ := hi
    unfold pm_op2 at hi
    split at hi
    · split at hi
      · rename_i z hz
        cases pm_nx_inj hi
        exact ps_op2 C hz hd k
      · cases hi
    · cases hi
  | ior =>
    cases hlen 1 rfl
    have hi : pm_op2 .ior pc ls st kc ks h = _ := hi
    unfold pm_op2 at hi
    split at hi
    · split at hi
      · rename_i z hz
        cases pm_nx_inj hi
        exact ps_op2 C hz hd k
      · cases hi
    · cases hi
  | ixor =>
    cases hlen 1 rfl
    have hi : pm_op2 .ixor pc ls st kc ks h = _ := hi
    unfold pm_op2 at hi
    split at hi
    · split at hi
      · rename_i z hz
        cases pm_nx_inj hi
        exact ps_op2 C hz hd k
      · cases hi
    · cases hi
  | ishl =>
    cases hlen 1 rfl
    have hi : pm_op2 .ishl pc ls st kc ks h = _ := hi
    unfold pm_op2 at hi
    split at hi
    · split at hi
      · rename_i z hz
        cases pm_nx_inj hi
        exact ps_op2 C hz hd k
      · cases hi
    · cases hi
  | ishr =>
    cases hlen 1 rfl
    have hi : pm_op2 .ishr pc ls st kc ks h = _ := hi
    unfold pm_op2 at hi
    split at hi
    · split at hi
      · rename_i z hz
        cases pm_nx_inj hi
        exact ps_op2 C hz hd k
      · cases hi
    · cases hi
  | iushr =>
    cases hlen 1 rfl
    have hi : pm_op2 .iushr pc ls st kc ks h = _ := hi
    unfold pm_op2 at hi
    split at hi
    · split at hi
      · rename_i z hz
        cases pm_nx_inj hi
        exact ps_op2 C hz hd k
      · cases hi
    · cases hi
  | ineg =>
    cases hlen 1 rfl
    cases st with
    | nil => exact nomatch (show (none : Option PX) = _ from hi)
    | cons v r =>
      cases v with
      | inl x =>
        cases pm_nx_inj (show pm_nx (pc + 1) ls (.inl (-x) :: r) kc ks h = _ from hi)
        exact ps_ineg C hd k
      | inr x => exact nomatch (show (none : Option PX) = _ from hi)
  | dup =>
    cases hlen 1 rfl
    cases st with
    | nil => exact nomatch (show (none : Option PX) = _ from hi)
    | cons v r =>
      cases pm_nx_inj (show pm_nx (pc + 1) ls (v :: v :: r) kc ks h = _ from hi)
      exact ps_dup C hd k
  | pop =>
    cases hlen 1 rfl
    cases st with
    | nil => exact nomatch (show (none : Option PX) = _ from hi)
    | cons v r =>
      cases pm_nx_inj (show pm_nx (pc + 1) ls r kc ks h = _ from hi)
      exact ps_pop C hd k
  | dup_x1 =>
    cases hlen 1 rfl
    rcases st with _ | ⟨v, _ | ⟨w, r⟩⟩
    · exact nomatch (show (none : Option PX) = _ from hi)
    · exact nomatch (show (none : Option PX) = _ from hi)
    · cases pm_nx_inj (show pm_nx (pc + 1) ls (v :: w :: v :: r) kc ks h = _ from hi)
      exact ps_dup_x1 C hd k
  | dup_x2 =>
    cases hlen 1 rfl
    rcases st with _ | ⟨v, _ | ⟨w, _ | ⟨u, r⟩⟩⟩
    · exact nomatch (show (none : Option PX) = _ from hi)
    · exact nomatch (show (none : Option PX) = _ from hi)
    · exact nomatch (show (none : Option PX) = _ from hi)
    · cases pm_nx_inj (show pm_nx (pc + 1) ls (v :: w :: u :: v :: r) kc ks h = _ from hi)
      exact ps_dup_x2 C hd k
  | dup2 =>
    cases hlen 1 rfl
    rcases st with _ | ⟨v, _ | ⟨w, r⟩⟩
    · exact nomatch (show (none : Option PX) = _ from hi)
    · exact nomatch (show (none : Option PX) = _ from hi)
    · cases pm_nx_inj (show pm_nx (pc + 1) ls (v :: w :: v :: w :: r) kc ks h = _ from hi)
      exact ps_dup2 C hd k
  | goto off =>
    cases hlen 3 rfl
    have hi : pm_goto off pc ls st kc ks h = _ := hi
    unfold pm_goto at hi
    split at hi
    · rename_i t ht
      cases pm_nx_inj hi
      exact ps_goto C ht hd k
    · cases hi
  | ifCond c off =>
    cases hlen 3 rfl
    have hi : pm_if1 c off pc ls st kc ks h = _ := hi
    unfold pm_if1 at hi
    split at hi
    · split at hi
      · rename_i t ht
        cases pm_nx_inj hi
        exact ps_if1 C ht hd k
      · cases hi
    · cases hi
  | if_icmp c off =>
    cases hlen 3 rfl
    have hi : pm_if2 c off pc ls st kc ks h = _ := hi
    unfold pm_if2 at hi
    split at hi
    · split at hi
      · rename_i t ht
        cases pm_nx_inj hi
        exact ps_if2 C ht hd k
      · cases hi
    · cases hi
  | if_acmp c off =>
    cases hlen 3 rfl
    have hi : pm_ifa c off pc ls st kc ks h = _ := hi
    unfold pm_ifa at hi
    split at hi
    · split at hi
      · rename_i t ht
        cases pm_nx_inj hi
        exact ps_ifa C ht hd k
      · cases hi
    · cases hi
  | ifnull off =>
    cases hlen 3 rfl
    have hi : pm_ifn false off pc ls st kc ks h = _ := hi
    unfold pm_ifn at hi
    split at hi
    · split at hi
      · rename_i t ht
        cases pm_nx_inj hi
        exact ps_ifnull C ht hd k
      · cases hi
    · cases hi
  | ifnonnull off =>
    cases hlen 3 rfl
    have hi : pm_ifn true off pc ls st kc ks h = _ := hi
    unfold pm_ifn at hi
    split at hi
    · split at hi
      · rename_i t ht
        cases pm_nx_inj hi
        exact ps_ifnonnull C ht hd k
      · cases hi
    · cases hi
  | getfield idx =>
    cases hlen 3 rfl
    have hi : pm_get P y idx pc ls st kc ks h = _ := hi
    unfold pm_get at hi
    split at hi
    · rename_i ci fk i r hf
      split at hi
      · rename_i cj fs hi2
        split at hi
        · rename_i e
          subst e
          split at hi
          · rename_i v hv
            cases pm_nx_inj hi
            exact ps_get C oK oF (by assumption) hi2 hv hd k
          · cases hi
        · cases hi
      · cases hi
    · cases hi
  | putfield idx =>
    cases hlen 3 rfl
    have hi : pm_put P y idx pc ls st kc ks h = _ := hi
    unfold pm_put at hi
    split at hi
    · rename_i ci fk v i r hf
      split at hi
      · rename_i cj fs hi2
        split at hi
        · rename_i e
          obtain ⟨e1, e2, e3⟩ := e
          subst e1
          cases pm_nx_inj hi
          exact ps_put C oK oF oP hc (by assumption) hi2 e2 e3 hd k
        · cases hi
      · cases hi
    · cases hi
  | iaload =>
    cases hlen 1 rfl
    have hi : pm_iald pc ls st kc ks h = _ := hi
    unfold pm_iald at hi
    split at hi
    · split at hi
      · rename_i hi2
        split at hi
        · rename_i e
          cases pm_nx_inj hi
          exact ps_iald C hi2 e.1 e.2 hd k
        · cases hi
      · cases hi
    · cases hi
  | baload =>
    cases hlen 1 rfl
    have hi : pm_zald pc ls st kc ks h = _ := hi
    unfold pm_zald at hi
    split at hi
    · split at hi
      · rename_i hi2
        split at hi
        · rename_i e
          obtain ⟨e1, e2⟩ := e
          subst e1
          cases pm_nx_inj hi
          exact ps_zald C hi2 e2 hd k
        · cases hi
      · cases hi
    · cases hi
  | aaload =>
    cases hlen 1 rfl
    have hi : pm_aald P pc ls st kc ks h = _ := hi
    unfold pm_aald at hi
    split at hi
    · split at hi
      · rename_i hi2
        split at hi
        · rename_i e
          cases pm_nx_inj hi
          exact ps_aald C hi2 e.1 e.2 hd k
        · cases hi
      · cases hi
    · cases hi
  | iastore =>
    cases hlen 1 rfl
    have hi : pm_iast pc ls st kc ks h = _ := hi
    unfold pm_iast at hi
    split at hi
    · split at hi
      · rename_i hi2
        split at hi
        · rename_i e
          obtain ⟨e1, e2⟩ := e
          subst e1
          cases pm_nx_inj hi
          exact ps_iast C hi2 e2 hd k
        · cases hi
      · cases hi
    · cases hi
  | bastore =>
    cases hlen 1 rfl
    have hi : pm_zast pc ls st kc ks h = _ := hi
    unfold pm_zast at hi
    split at hi
    · split at hi
      · rename_i hi2
        split at hi
        · rename_i e
          obtain ⟨e1, e2⟩ := e
          subst e1
          cases pm_nx_inj hi
          exact ps_zast C hi2 e2 hd k
        · cases hi
      · cases hi
    · cases hi
  | aastore =>
    cases hlen 1 rfl
    have hi : pm_aast P pc ls st kc ks h = _ := hi
    unfold pm_aast at hi
    split at hi
    · split at hi
      · rename_i hi2 hv2
        split at hi
        · rename_i e
          obtain ⟨e1, e2, e3⟩ := e
          subst e1
          cases pm_nx_inj hi
          exact ps_aast C hi2 hv2 e2 e3 hd k
        · cases hi
      · cases hi
    · cases hi
  | arraylength =>
    cases hlen 1 rfl
    have hi : pm_alen pc ls st kc ks h = _ := hi
    unfold pm_alen at hi
    split at hi
    · split at hi
      · rename_i hi2
        split at hi
        · rename_i e
          cases pm_nx_inj hi
          exact ps_alen C hi2 e hd k
        · cases hi
      · cases hi
    · cases hi
  | new idx =>
    cases hlen 3 rfl
    have hi : pm_new P y idx pc ls st kc ks h = _ := hi
    unfold pm_new at hi
    split at hi
    · rename_i ci hcl
      split at hi
      · rename_i r hr
        split at hi
        · rename_i e
          cases pm_nx_inj hi
          exact ps_new C oK oN hcl hr e.1 e.2 hd k
        · cases hi
      · cases hi
    · cases hi
  | newarray t =>
    cases hlen 2 rfl
    have hi : pm_newa P y t pc ls st kc ks h = _ := hi
    unfold pm_newa at hi
    split at hi
    · rename_i ak n r hak
      split at hi
      · rename_i e
        cases pm_nx_inj hi
        exact ps_newa C oA (by assumption) e.1 e.2.1 e.2.2.1 e.2.2.2 hd k
      · cases hi
    · cases hi
  | anewarray idx =>
    cases hlen 3 rfl
    have hi : pm_newq P y idx pc ls st kc ks h = _ := hi
    unfold pm_newq at hi
    split at hi
    · rename_i ci n r hcl
      split at hi
      · rename_i e
        cases pm_nx_inj hi
        exact ps_newq C oN (by assumption) e.1 e.2.1 e.2.2.1 e.2.2.2.1 e.2.2.2.2 hd k
      · cases hi
    · cases hi
  | tableswitch d lo hi2 offs =>
    have hi : pm_sw d lo hi2 offs pc ls st kc ks h = _ := hi
    unfold pm_sw at hi
    split at hi
    · rename_i x r
      split at hi
      · rename_i off ho
        split at hi
        · rename_i t ht
          cases pm_nx_inj hi
          split at ho
          · rename_i hx
            cases ho
            exact ps_swOut C hx ht hd k
          · rename_i hx
            exact ps_swIn C hx ho ht hd k
        · cases hi
      · cases hi
    · cases hi
  | _ => exact nomatch (show (none : Option PX) = _ from hi)
end PDS
