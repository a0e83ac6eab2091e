/-! THE REFERENCE, twelfth part: word. Rows laid by a program (wip/whole/gen/twin10.py). -/
def hi16 (x : Int32) : Nat := x.toBitVec.toNat / 65536
def lo16 (x : Int32) : Nat := x.toBitVec.toNat % 65536
theorem hi16_lt (x : Int32) : hi16 x < 65536 := by
  have h := x.toBitVec.isLt
  unfold hi16
  omega
theorem lo16_lt (x : Int32) : lo16 x < 65536 := by
  unfold lo16
  omega
theorem ush16 (x : Int32) : (x.toUInt32 >>> ((nI 16).toUInt32 &&& Int32.toUInt32 31)).toInt32 = nI (hi16 x) := by
  have h := pk_ushr x (nI 16) 16 (by decide)
  have h2 : (nI (hi16 x)).toBitVec.toNat = hi16 x := pk_tn (by have := hi16_lt x; omega)
  apply Int32.toBitVec_inj.mp
  apply BitVec.eq_of_toNat_eq
  rw [h, h2]
  rfl
theorem and16 (x : Int32) : x &&& nI 65535 = nI (lo16 x) := pk_and x 16 (by decide)
/-- the values of n units from j on are added -/
def csum (tx : Nat → Nat) (ct t : Nat) : Nat → Nat → Nat → Nat
  | 0, _, s => s
  | n + 1, j, s => csum tx ct t n (j + 1) (s + (if t + j = ct then 256 else tx (t + j)))
def fold1 (s : Nat) : Nat := s % 65536 + s / 65536
def fold2 (s : Nat) : Nat := if 65535 < s then (if 65535 < fold1 s then fold1 (fold1 s) else fold1 s) else s
theorem t_fold0 {L ax s : Nat} {tp : Int32} {F G : FN} {R : RN} {o4 o5 : Option PV} {Q : Option PV → PH → Prop} (hs : s ≤ 65535) (k : Q (some (.inl (nI (65535 - s)))) (hb (sL L) F G R sO)) : pw pP mSBModel_check (118, [some (.inr (some (103))), some (.inl (tp)), some (.inl (nI (ax))), some (.inl (nI (s))), o4, o5], [], 0, 0, hb (sL L) F G R sO) Q := by
  refine pw_iload_n rfl rfl ?_
  refine pw_ldc (v := nI 65535) rfl rfl ?_
  refine pw_if2p (cn_le (by omega) (by omega)) rfl (t := 137) rfl (fun _ => ?_) (fun q => absurd hs q)
  refine pw_ldc (v := nI 65535) rfl rfl ?_
  refine pw_iload_n rfl rfl ?_
  refine pw_isub (z := nI (65535 - s)) rfl (pk_sub (by omega)) ?_
  exact pw_iret rfl rfl (Nat.zero_le _) (Nat.zero_le _) rfl k
theorem t_fold1 {L ax s : Nat} {tp : Int32} {F G : FN} {R : RN} {o4 o5 : Option PV} {Q : Option PV → PH → Prop} (hs : ¬ s ≤ 65535) (hs2 : s < 524288) (k : pw pP mSBModel_check (118, [some (.inr (some (103))), some (.inl (tp)), some (.inl (nI (ax))), some (.inl (nI (fold1 s))), o4, o5], [], 0, 0, hb (sL L) F G R sO) Q) : pw pP mSBModel_check (118, [some (.inr (some (103))), some (.inl (tp)), some (.inl (nI (ax))), some (.inl (nI (s))), o4, o5], [], 0, 0, hb (sL L) F G R sO) Q := by
  refine pw_iload_n rfl rfl ?_
  refine pw_ldc (v := nI 65535) rfl rfl ?_
  refine pw_if2p (cn_le (by omega) (by omega)) rfl (t := 137) rfl (fun q => absurd q hs) (fun _ => ?_)
  refine pw_iload_n rfl rfl ?_
  refine pw_ldc (v := nI 65536) rfl rfl ?_
  refine pw_irem (z := nI (s % 65536)) rfl (nI_ne0 (by omega) (by omega)) (pk_rem (by omega) (by omega) (by omega)) ?_
  refine pw_iload_n rfl rfl ?_
  refine pw_ldc (v := nI 65536) rfl rfl ?_
  refine pw_idiv (z := nI (s / 65536)) rfl (nI_ne0 (by omega) (by omega)) (pk_div (by omega) (by omega) (by omega)) ?_
  refine pw_iadd (z := nI (s % 65536 + (s / 65536))) rfl (nI_add _ _) ?_
  refine pw_istore_n (ls1 := [some (.inr (some (103))), some (.inl (tp)), some (.inl (nI (ax))), some (.inl (nI (s % 65536 + (s / 65536)))), o4, o5]) rfl (Nat.le_of_ble_eq_true rfl) rfl ?_
  refine pw_goto (t := 118) rfl rfl ?_
  exact k
theorem t_fold2 {L ax s : Nat} {tp : Int32} {F G : FN} {R : RN} {o4 o5 : Option PV} {Q : Option PV → PH → Prop} (hs2 : s < 524288) (k : Q (some (.inl (nI (65535 - fold2 s)))) (hb (sL L) F G R sO)) : pw pP mSBModel_check (118, [some (.inr (some (103))), some (.inl (tp)), some (.inl (nI (ax))), some (.inl (nI (s))), o4, o5], [], 0, 0, hb (sL L) F G R sO) Q := by
  by_cases h1 : s ≤ 65535
  · rw [show fold2 s = s from if_neg (by omega)] at k
    exact t_fold0 h1 k
  · refine t_fold1 h1 hs2 ?_
    have e : fold1 s = s % 65536 + s / 65536 := rfl
    by_cases h2 : fold1 s ≤ 65535
    · rw [show fold2 s = fold1 s by simp only [fold2]; rw [if_pos (by omega), if_neg (by omega)]] at k
      exact t_fold0 h2 k
    · refine t_fold1 h2 (by omega) ?_
      rw [show fold2 s = fold1 (fold1 s) by simp only [fold2]; rw [if_pos (by omega), if_pos (by omega)]] at k
      have e2 : fold1 (fold1 s) = fold1 s % 65536 + fold1 s / 65536 := rfl
      exact t_fold0 (by omega) k
theorem t_check_lp {L ax m t ct : Nat} {tp : Int32} {tx : Nat → Nat} {F G : FN} {R : RN} {Q : Option PV → PH → Prop} (hax : ax < 48) (hm : G 129 ax = nI m) (hm7 : m ≤ 7) (ht : G 127 ax = nI t) (hct : F 103 5 = nI ct) (hc4 : ct ≤ 400) (htm : t + m ≤ ct + 1) (htx : ∀ u, u < 400 → G 104 u = nI (tx u)) (ht2 : ∀ u, u < 400 → tx u ≤ 255) : ∀ (n j s : Nat) (o5 : Option PV), j + n = m → s ≤ 454662 + 256 * j → (∀ o5, pw pP mSBModel_check (118, [some (.inr (some (103))), some (.inl (tp)), some (.inl (nI (ax))), some (.inl (nI (csum tx ct t n j s))), some (.inl (nI (m))), o5], [], 0, 0, hb (sL L) F G R sO) Q) → pw pP mSBModel_check (65, [some (.inr (some (103))), some (.inl (tp)), some (.inl (nI (ax))), some (.inl (nI (s))), some (.inl (nI (j))), o5], [], 0, 0, hb (sL L) F G R sO) Q := by
  intro n
  induction n with
  | zero =>
    intro j s o5 hn hs k
    have e : m = j := by omega
    subst e
    refine pw_iload rfl rfl ?_
    refine pw_aload_n rfl rfl ?_
    refine px_getr (r := some (129)) rfl rfl rfl rfl rfl ?_
    refine pw_iload_n rfl rfl ?_
    refine px_ialdn (x := nI (m)) rfl rfl (by omega) (by decide) (hm) ?_
    refine pw_if2p (cn_ge (by omega) (by omega)) rfl (t := 118) rfl (fun c1 => ?_) (fun c1 => ?_)
    · -- 118
      exact k _
    · -- 76
      exact absurd c1 (by omega)
  | succ n ih =>
    intro j s o5 hn hs k
    refine pw_iload rfl rfl ?_
    refine pw_aload_n rfl rfl ?_
    refine px_getr (r := some (129)) rfl rfl rfl rfl rfl ?_
    refine pw_iload_n rfl rfl ?_
    refine px_ialdn (x := nI (m)) rfl rfl (by omega) (by decide) (hm) ?_
    refine pw_if2p (cn_ge (by omega) (by omega)) rfl (t := 118) rfl (fun c1 => ?_) (fun c1 => ?_)
    · -- 118
      exact absurd c1 (by omega)
    · -- 76
      refine pw_aload_n rfl rfl ?_
      refine px_getr (r := some (127)) rfl rfl rfl rfl rfl ?_
      refine pw_iload_n rfl rfl ?_
      refine px_ialdn (x := nI (t)) rfl rfl (by omega) (by decide) (ht) ?_
      refine pw_iload rfl rfl ?_
      refine pw_iadd (z := nI (t + j)) rfl (nI_add _ _) ?_
      refine pw_istore (ls1 := [some (.inr (some (103))), some (.inl (tp)), some (.inl (nI (ax))), some (.inl (nI (s))), some (.inl (nI (j))), some (.inl (nI (t + j)))]) rfl (Nat.le_of_ble_eq_true rfl) rfl ?_
      refine pw_iload_n rfl rfl ?_
      refine pw_iload rfl rfl ?_
      refine pw_aload_n rfl rfl ?_
      refine px_getv (x := nI (ct)) rfl rfl rfl rfl (hct) ?_
      refine pw_if2p (cn_ne (by omega) (by omega)) rfl (t := 103) rfl (fun c2 => ?_) (fun c2 => ?_)
      · -- 103
        refine pw_aload_n rfl rfl ?_
        refine px_getr (r := some (104)) rfl rfl rfl rfl rfl ?_
        refine pw_iload rfl rfl ?_
        refine px_ialdn (x := nI (tx (t + j))) rfl rfl (by omega) (by decide) (htx (t + j) (by omega)) ?_
        refine pw_iadd (z := nI (s + (tx (t + j)))) rfl (nI_add _ _) ?_
        refine pw_istore_n (ls1 := [some (.inr (some (103))), some (.inl (tp)), some (.inl (nI (ax))), some (.inl (nI (s + (tx (t + j))))), some (.inl (nI (j))), some (.inl (nI (t + j)))]) rfl (Nat.le_of_ble_eq_true rfl) rfl ?_
        refine pw_iinc (v := nI (j + 1)) (ls1 := [some (.inr (some (103))), some (.inl (tp)), some (.inl (nI (ax))), some (.inl (nI (s + (tx (t + j))))), some (.inl (nI (j + 1))), some (.inl (nI (t + j)))]) rfl rfl (iinc_n _) rfl ?_
        refine pw_goto (t := 65) rfl rfl ?_
        have h2 := ht2 (t + j) (by omega)
        exact ih (j + 1) _ _ (by omega) (by omega) (fun o => by have k := k o; simp only [csum, eq_false c2, if_true, if_false] at k; exact k)
      · -- 97
        refine pw_sipush (v := nI (256)) rfl (by decide) ?_
        refine pw_goto (t := 110) rfl rfl ?_
        refine pw_iadd (z := nI (s + 256)) rfl (nI_add _ _) ?_
        refine pw_istore_n (ls1 := [some (.inr (some (103))), some (.inl (tp)), some (.inl (nI (ax))), some (.inl (nI (s + 256))), some (.inl (nI (j))), some (.inl (nI (t + j)))]) rfl (Nat.le_of_ble_eq_true rfl) rfl ?_
        refine pw_iinc (v := nI (j + 1)) (ls1 := [some (.inr (some (103))), some (.inl (tp)), some (.inl (nI (ax))), some (.inl (nI (s + 256))), some (.inl (nI (j + 1))), some (.inl (nI (t + j)))]) rfl rfl (iinc_n _) rfl ?_
        refine pw_goto (t := 65) rfl rfl ?_
        exact ih (j + 1) _ _ (by omega) (by omega) (fun o => by have k := k o; simp only [csum, eq_true (Decidable.of_not_not c2), if_true, if_false] at k; exact k)
def tsum (G : FN) (tp ax : Nat) : Nat := tp + hi16 (G 126 ax) + lo16 (G 126 ax) + hi16 (G 127 ax) + lo16 (G 127 ax) + hi16 (G 128 ax) + lo16 (G 128 ax)
def tchk (G : FN) (tp ax m t ct : Nat) (tx : Nat → Nat) : Nat := 65535 - fold2 (csum tx ct t m 0 (tsum G tp ax))
theorem csum_le {tx : Nat → Nat} {ct t : Nat} (ht2 : ∀ u, u < 400 → tx u ≤ 255) : ∀ (n j s : Nat), t + j + n ≤ ct + 1 → ct ≤ 400 → csum tx ct t n j s ≤ s + 256 * n
  | 0, _, _, _, _ => by simp only [csum]; omega
  | n + 1, j, s, h, hc => by
    have h1 := csum_le (ct := ct) (t := t) ht2 n (j + 1) (s + (if t + j = ct then 256 else tx (t + j))) (by omega) hc
    simp only [csum]
    have h2 : (if t + j = ct then 256 else tx (t + j)) ≤ 256 := by
      split
      · omega
      · have := ht2 (t + j) (by omega)
        omega
    omega
theorem t_check {L tp ax m t ct : Nat} {tx : Nat → Nat} {F G : FN} {R : RN} {Q : Option PV → PH → Prop} (htp : tp ≤ 61452) (hax : ax < 48) (hm : G 129 ax = nI m) (hm7 : m ≤ 7) (hmt : 0 < m → G 127 ax = nI t) (hct : F 103 5 = nI ct) (hc4 : ct ≤ 400) (htm : 0 < m → t + m ≤ ct + 1) (htx : ∀ u, u < 400 → G 104 u = nI (tx u)) (ht2 : ∀ u, u < 400 → tx u ≤ 255) (k : Q (some (.inl (nI (tchk G tp ax m t ct tx)))) (hb (sL L) F G R sO)) : pz pP mSBModel_check [.inr (some 103), .inl (nI tp), .inl (nI ax)] (hb (sL L) F G R sO) Q := by
  have a1 := hi16_lt (G 126 ax)
  have a2 := lo16_lt (G 126 ax)
  have a3 := hi16_lt (G 127 ax)
  have a4 := lo16_lt (G 127 ax)
  have a5 := hi16_lt (G 128 ax)
  have a6 := lo16_lt (G 128 ax)
  show pw pP mSBModel_check (0, [some (.inr (some (103))), some (.inl (nI (tp))), some (.inl (nI (ax))), none, none, none], [], 0, 0, hb (sL L) F G R sO) _
  refine pw_iload_n rfl rfl ?_
  refine pw_aload_n rfl rfl ?_
  refine px_getr (r := some (126)) rfl rfl rfl rfl rfl ?_
  refine pw_iload_n rfl rfl ?_
  refine px_ialdn (x := G (126) (ax)) rfl rfl (by omega) (by decide) (rfl) ?_
  refine pw_bipush (v := nI (16)) rfl (by decide) ?_
  refine pw_iushr (z := nI (hi16 (G (126) (ax)))) rfl (ush16 _) ?_
  refine pw_iadd (z := nI (tp + (hi16 (G (126) (ax))))) rfl (nI_add _ _) ?_
  refine pw_aload_n rfl rfl ?_
  refine px_getr (r := some (126)) rfl rfl rfl rfl rfl ?_
  refine pw_iload_n rfl rfl ?_
  refine px_ialdn (x := G (126) (ax)) rfl rfl (by omega) (by decide) (rfl) ?_
  refine pw_ldc (v := nI 65535) rfl rfl ?_
  refine pw_iand (z := nI (lo16 (G (126) (ax)))) rfl (and16 _) ?_
  refine pw_iadd (z := nI (tp + (hi16 (G (126) (ax))) + (lo16 (G (126) (ax))))) rfl (nI_add _ _) ?_
  refine pw_aload_n rfl rfl ?_
  refine px_getr (r := some (127)) rfl rfl rfl rfl rfl ?_
  refine pw_iload_n rfl rfl ?_
  refine px_ialdn (x := G (127) (ax)) rfl rfl (by omega) (by decide) (rfl) ?_
  refine pw_bipush (v := nI (16)) rfl (by decide) ?_
  refine pw_iushr (z := nI (hi16 (G (127) (ax)))) rfl (ush16 _) ?_
  refine pw_iadd (z := nI (tp + (hi16 (G (126) (ax))) + (lo16 (G (126) (ax))) + (hi16 (G (127) (ax))))) rfl (nI_add _ _) ?_
  refine pw_aload_n rfl rfl ?_
  refine px_getr (r := some (127)) rfl rfl rfl rfl rfl ?_
  refine pw_iload_n rfl rfl ?_
  refine px_ialdn (x := G (127) (ax)) rfl rfl (by omega) (by decide) (rfl) ?_
  refine pw_ldc (v := nI 65535) rfl rfl ?_
  refine pw_iand (z := nI (lo16 (G (127) (ax)))) rfl (and16 _) ?_
  refine pw_iadd (z := nI (tp + (hi16 (G (126) (ax))) + (lo16 (G (126) (ax))) + (hi16 (G (127) (ax))) + (lo16 (G (127) (ax))))) rfl (nI_add _ _) ?_
  refine pw_aload_n rfl rfl ?_
  refine px_getr (r := some (128)) rfl rfl rfl rfl rfl ?_
  refine pw_iload_n rfl rfl ?_
  refine px_ialdn (x := G (128) (ax)) rfl rfl (by omega) (by decide) (rfl) ?_
  refine pw_bipush (v := nI (16)) rfl (by decide) ?_
  refine pw_iushr (z := nI (hi16 (G (128) (ax)))) rfl (ush16 _) ?_
  refine pw_iadd (z := nI (tp + (hi16 (G (126) (ax))) + (lo16 (G (126) (ax))) + (hi16 (G (127) (ax))) + (lo16 (G (127) (ax))) + (hi16 (G (128) (ax))))) rfl (nI_add _ _) ?_
  refine pw_aload_n rfl rfl ?_
  refine px_getr (r := some (128)) rfl rfl rfl rfl rfl ?_
  refine pw_iload_n rfl rfl ?_
  refine px_ialdn (x := G (128) (ax)) rfl rfl (by omega) (by decide) (rfl) ?_
  refine pw_ldc (v := nI 65535) rfl rfl ?_
  refine pw_iand (z := nI (lo16 (G (128) (ax)))) rfl (and16 _) ?_
  refine pw_iadd (z := nI (tp + (hi16 (G (126) (ax))) + (lo16 (G (126) (ax))) + (hi16 (G (127) (ax))) + (lo16 (G (127) (ax))) + (hi16 (G (128) (ax))) + (lo16 (G (128) (ax))))) rfl (nI_add _ _) ?_
  refine pw_istore_n (ls1 := [some (.inr (some (103))), some (.inl (nI (tp))), some (.inl (nI (ax))), some (.inl (nI (tp + (hi16 (G (126) (ax))) + (lo16 (G (126) (ax))) + (hi16 (G (127) (ax))) + (lo16 (G (127) (ax))) + (hi16 (G (128) (ax))) + (lo16 (G (128) (ax)))))), none, none]) rfl (Nat.le_of_ble_eq_true rfl) rfl ?_
  refine pw_iconst (v := nI (0)) rfl (by decide) ?_
  refine pw_istore (ls1 := [some (.inr (some (103))), some (.inl (nI (tp))), some (.inl (nI (ax))), some (.inl (nI (tp + (hi16 (G (126) (ax))) + (lo16 (G (126) (ax))) + (hi16 (G (127) (ax))) + (lo16 (G (127) (ax))) + (hi16 (G (128) (ax))) + (lo16 (G (128) (ax)))))), some (.inl (nI (0))), none]) rfl (Nat.le_of_ble_eq_true rfl) rfl ?_
  by_cases h0 : m = 0
  · subst h0
    refine pw_iload rfl rfl ?_
    refine pw_aload_n rfl rfl ?_
    refine px_getr (r := some (129)) rfl rfl rfl rfl rfl ?_
    refine pw_iload_n rfl rfl ?_
    refine px_ialdn (x := nI (0)) rfl rfl (by omega) (by decide) (hm) ?_
    refine pw_if2 (t := 118) rfl rfl (fun _ => ?_) (fun q => absurd q (by decide))
    exact t_fold2 (s := tsum G tp ax) (by simp only [tsum]; omega) k
  · have ht := hmt (by omega)
    have hc := csum_le (t := t) (ct := ct) ht2 m 0 (tsum G tp ax) (by have := htm (by omega); omega) hc4
    have e6 : tsum G tp ax = tp + hi16 (G 126 ax) + lo16 (G 126 ax) + hi16 (G 127 ax) + lo16 (G 127 ax) + hi16 (G 128 ax) + lo16 (G 128 ax) := rfl
    exact t_check_lp hax hm hm7 ht hct hc4 (htm (by omega)) htx ht2 m 0 (tsum G tp ax) _ (by omega) (by omega) (fun o => t_fold2 (by omega) k)
/-- SBModel_word -/
def word_in0_r (G : FN) (p kk kd m t ct : Nat) (tx : Nat → Nat) (z : Int32) : Int32 := (if ¬ z = 0 then (if ¬ z = nI (1) then (if ¬ z = nI (2) then (if ¬ z = nI (3) then nI (0) else G (128) (6 * (2 * p) + kk)) else G (127) (6 * (2 * p) + kk)) else G (126) (6 * (2 * p) + kk)) else ((nI (kd * 16384 + (p * 4096) + m)) <<< ((nI (16)) &&& 31)) ||| (nI (tchk G (kd * 16384 + (p * 4096) + m) (6 * (2 * p) + kk) m t ct tx)))
theorem t_word_in0 {L p kk fl kd m t ct : Nat} {tx : Nat → Nat} {z : Int32} {F G : FN} {R : RN} (hp : p < 4) (hfl : G 124 (2 * p) = nI fl) (hf : fl ≤ 6) (hk : kk < fl) (hkd : G 125 (6 * (2 * p) + kk) = nI kd) (hk3 : kd ≤ 3) (hm : G 129 (6 * (2 * p) + kk) = nI m) (hm7 : m ≤ 7) (hmt : 0 < m → G 127 (6 * (2 * p) + kk) = nI t) (hct : F 103 5 = nI ct) (hc4 : ct ≤ 400) (htm : 0 < m → t + m ≤ ct + 1) (htx : ∀ u, u < 400 → G 104 u = nI (tx u)) (ht2 : ∀ u, u < 400 → tx u ≤ 255) {Q : Option PV → PH → Prop} (k : Q (some (.inl (word_in0_r G p kk kd m t ct tx z))) (hb (sL L) F G R sO)) : pz pP mSBModel_word [.inr (some (103)), .inl (nI (p)), .inl (nI (0)), .inl (nI (kk)), .inl (z)] (hb (sL L) F G R sO) Q := by
  show pw pP mSBModel_word (0, [some (.inr (some (103))), some (.inl (nI (p))), some (.inl (nI (0))), some (.inl (nI (kk))), some (.inl (z)), none, none], [], 0, 0, hb (sL L) F G R sO) _
  refine pw_aload_n rfl rfl ?_
  refine pw_iload_n rfl rfl ?_
  refine pw_iload_n rfl rfl ?_
  refine pw_iload_n rfl rfl ?_
  refine px_callv (as := [.inr (some (103)), .inl (nI (p)), .inl (nI (0)), .inl (nI (kk))]) (rest := []) rfl rfl (by decide) rfl (Nat.le_of_ble_eq_true rfl) (Nat.le_of_ble_eq_true rfl) (Nat.le_of_ble_eq_true rfl) (Nat.le_of_ble_eq_true rfl) rfl rfl rfl rfl ?_
  refine t_there_in0 hp hfl hf hk ?_
  show pw pP mSBModel_word (7, [some (.inr (some (103))), some (.inl (nI (p))), some (.inl (nI (0))), some (.inl (nI (kk))), some (.inl (z)), none, none], [.inl (nI (1))], 0, 0, hb (sL L) F G R sO) _
  refine pw_if1 (t := 12) rfl rfl (fun _ => ?_) (fun q => absurd q (by decide))
  refine pw_bipush (v := nI (6)) rfl (by decide) ?_
  refine pw_iload_n rfl rfl ?_
  refine pw_if1 (t := 26) rfl rfl (fun _ => ?_) (fun q => absurd q (by decide))
  refine pw_iconst (v := nI (2)) rfl (by decide) ?_
  refine pw_iload_n rfl rfl ?_
  refine pw_imul (z := nI (2 * p)) rfl (pk_mul _ _) ?_
  refine pw_imul (z := nI (6 * (2 * p))) rfl (pk_mul _ _) ?_
  refine pw_iload_n rfl rfl ?_
  refine pw_iadd (z := nI (6 * (2 * p) + kk)) rfl (nI_add _ _) ?_
  refine pw_istore (ls1 := [some (.inr (some (103))), some (.inl (nI (p))), some (.inl (nI (0))), some (.inl (nI (kk))), some (.inl (z)), some (.inl (nI (6 * (2 * p) + kk))), none]) rfl (Nat.le_of_ble_eq_true rfl) rfl ?_
  refine pw_iload rfl rfl ?_
  refine pw_if1p (A := ¬ z = 0) rfl rfl (t := 81) rfl (fun c1 => ?_) (fun c1 => ?_)
  · -- 81
    refine pw_iload rfl rfl ?_
    refine pw_iconst (v := nI (1)) rfl (by decide) ?_
    refine pw_if2p (A := ¬ z = nI (1)) rfl rfl (t := 97) rfl (fun c2 => ?_) (fun c2 => ?_)
    · -- 97
      refine pw_iload rfl rfl ?_
      refine pw_iconst (v := nI (2)) rfl (by decide) ?_
      refine pw_if2p (A := ¬ z = nI (2)) rfl rfl (t := 113) rfl (fun c3 => ?_) (fun c3 => ?_)
      · -- 113
        refine pw_iload rfl rfl ?_
        refine pw_iconst (v := nI (3)) rfl (by decide) ?_
        refine pw_if2p (A := ¬ z = nI (3)) rfl rfl (t := 129) rfl (fun c4 => ?_) (fun c4 => ?_)
        · -- 129
          refine pw_iconst (v := nI (0)) rfl (by decide) ?_
          exact pw_iret rfl rfl (Nat.zero_le _) (Nat.zero_le _) rfl (by simp only [word_in0_r, c1, c2, c3, c4, if_true, if_false] at k; exact k)
        · -- 119
          refine pw_aload_n rfl rfl ?_
          refine px_getr (r := some (128)) rfl rfl rfl rfl rfl ?_
          refine pw_iload rfl rfl ?_
          refine px_ialdn (x := G (128) (6 * (2 * p) + kk)) rfl rfl (by omega) (by decide) (rfl) ?_
          refine pw_goto (t := 130) rfl rfl ?_
          exact pw_iret rfl rfl (Nat.zero_le _) (Nat.zero_le _) rfl (by simp only [word_in0_r, c1, c2, c3, c4, if_true, if_false] at k; exact k)
      · -- 103
        refine pw_aload_n rfl rfl ?_
        refine px_getr (r := some (127)) rfl rfl rfl rfl rfl ?_
        refine pw_iload rfl rfl ?_
        refine px_ialdn (x := G (127) (6 * (2 * p) + kk)) rfl rfl (by omega) (by decide) (rfl) ?_
        refine pw_goto (t := 130) rfl rfl ?_
        exact pw_iret rfl rfl (Nat.zero_le _) (Nat.zero_le _) rfl (by simp only [word_in0_r, c1, c2, c3, if_true, if_false] at k; exact k)
    · -- 87
      refine pw_aload_n rfl rfl ?_
      refine px_getr (r := some (126)) rfl rfl rfl rfl rfl ?_
      refine pw_iload rfl rfl ?_
      refine px_ialdn (x := G (126) (6 * (2 * p) + kk)) rfl rfl (by omega) (by decide) (rfl) ?_
      refine pw_goto (t := 130) rfl rfl ?_
      exact pw_iret rfl rfl (Nat.zero_le _) (Nat.zero_le _) rfl (by simp only [word_in0_r, c1, c2, if_true, if_false] at k; exact k)
  · -- 39
    refine pw_aload_n rfl rfl ?_
    refine px_getr (r := some (125)) rfl rfl rfl rfl rfl ?_
    refine pw_iload rfl rfl ?_
    refine px_ialdn (x := nI (kd)) rfl rfl (by omega) (by decide) (hkd) ?_
    refine pw_sipush (v := nI (16384)) rfl (by decide) ?_
    refine pw_imul (z := nI (kd * 16384)) rfl (pk_mul _ _) ?_
    refine pw_iload_n rfl rfl ?_
    refine pw_sipush (v := nI (4096)) rfl (by decide) ?_
    refine pw_imul (z := nI (p * 4096)) rfl (pk_mul _ _) ?_
    refine pw_iadd (z := nI (kd * 16384 + (p * 4096))) rfl (nI_add _ _) ?_
    refine pw_aload_n rfl rfl ?_
    refine px_getr (r := some (129)) rfl rfl rfl rfl rfl ?_
    refine pw_iload rfl rfl ?_
    refine px_ialdn (x := nI (m)) rfl rfl (by omega) (by decide) (hm) ?_
    refine pw_iadd (z := nI (kd * 16384 + (p * 4096) + m)) rfl (nI_add _ _) ?_
    refine pw_istore (ls1 := [some (.inr (some (103))), some (.inl (nI (p))), some (.inl (nI (0))), some (.inl (nI (kk))), some (.inl (z)), some (.inl (nI (6 * (2 * p) + kk))), some (.inl (nI (kd * 16384 + (p * 4096) + m)))]) rfl (Nat.le_of_ble_eq_true rfl) rfl ?_
    refine pw_iload rfl rfl ?_
    refine pw_bipush (v := nI (16)) rfl (by decide) ?_
    refine pw_ishl (z := (nI (kd * 16384 + (p * 4096) + m)) <<< ((nI (16)) &&& 31)) rfl rfl ?_
    refine pw_aload_n rfl rfl ?_
    refine pw_iload rfl rfl ?_
    refine pw_iload rfl rfl ?_
    refine px_callv (as := [.inr (some (103)), .inl (nI (kd * 16384 + (p * 4096) + m)), .inl (nI (6 * (2 * p) + kk))]) (rest := [.inl ((nI (kd * 16384 + (p * 4096) + m)) <<< ((nI (16)) &&& 31))]) rfl rfl (by decide) rfl (Nat.le_of_ble_eq_true rfl) (Nat.le_of_ble_eq_true rfl) (Nat.le_of_ble_eq_true rfl) (Nat.le_of_ble_eq_true rfl) rfl rfl rfl rfl ?_
    refine t_check (by omega) (by omega) hm hm7 hmt hct hc4 htm htx ht2 ?_
    show pw pP mSBModel_word (79, [some (.inr (some (103))), some (.inl (nI (p))), some (.inl (nI (0))), some (.inl (nI (kk))), some (.inl (z)), some (.inl (nI (6 * (2 * p) + kk))), some (.inl (nI (kd * 16384 + (p * 4096) + m)))], [.inl (nI (tchk G (kd * 16384 + (p * 4096) + m) (6 * (2 * p) + kk) m t ct tx)), .inl ((nI (kd * 16384 + (p * 4096) + m)) <<< ((nI (16)) &&& 31))], 0, 0, hb (sL L) F G R sO) _
    refine pw_ior (z := ((nI (kd * 16384 + (p * 4096) + m)) <<< ((nI (16)) &&& 31)) ||| (nI (tchk G (kd * 16384 + (p * 4096) + m) (6 * (2 * p) + kk) m t ct tx))) rfl rfl ?_
    exact pw_iret rfl rfl (Nat.zero_le _) (Nat.zero_le _) rfl (by simp only [word_in0_r, c1, if_true, if_false] at k; exact k)
/-- SBModel_word -/
def word_out0_r  : Int32 := nI (0)
theorem t_word_out0 {L p fl : Nat} {x z : Int32} {F G : FN} {R : RN} (hp : p < 4) (hfl : G 124 (2 * p) = nI fl) (hk : x < 0 ∨ nI fl ≤ x) {Q : Option PV → PH → Prop} (k : Q (some (.inl (word_out0_r ))) (hb (sL L) F G R sO)) : pz pP mSBModel_word [.inr (some (103)), .inl (nI (p)), .inl (nI (0)), .inl (x), .inl (z)] (hb (sL L) F G R sO) Q := by
  show pw pP mSBModel_word (0, [some (.inr (some (103))), some (.inl (nI (p))), some (.inl (nI (0))), some (.inl (x)), some (.inl (z)), none, none], [], 0, 0, hb (sL L) F G R sO) _
  refine pw_aload_n rfl rfl ?_
  refine pw_iload_n rfl rfl ?_
  refine pw_iload_n rfl rfl ?_
  refine pw_iload_n rfl rfl ?_
  refine px_callv (as := [.inr (some (103)), .inl (nI (p)), .inl (nI (0)), .inl (x)]) (rest := []) rfl rfl (by decide) rfl (Nat.le_of_ble_eq_true rfl) (Nat.le_of_ble_eq_true rfl) (Nat.le_of_ble_eq_true rfl) (Nat.le_of_ble_eq_true rfl) rfl rfl rfl rfl ?_
  refine t_there_out0 hp hfl hk ?_
  show pw pP mSBModel_word (7, [some (.inr (some (103))), some (.inl (nI (p))), some (.inl (nI (0))), some (.inl (x)), some (.inl (z)), none, none], [.inl (nI (0))], 0, 0, hb (sL L) F G R sO) _
  refine pw_if1 (t := 12) rfl rfl (fun q => absurd q (by decide)) (fun _ => ?_)
  refine pw_iconst (v := nI (0)) rfl (by decide) ?_
  exact pw_iret rfl rfl (Nat.zero_le _) (Nat.zero_le _) rfl k
/-- SBModel_word -/
def word_no0_r  : Int32 := nI (0)
theorem t_word_no0 {L : Nat} {p x z : Int32} {F G : FN} {R : RN} (hp : p < 0 ∨ nI 4 ≤ p) {Q : Option PV → PH → Prop} (k : Q (some (.inl (word_no0_r ))) (hb (sL L) F G R sO)) : pz pP mSBModel_word [.inr (some (103)), .inl (p), .inl (nI (0)), .inl (x), .inl (z)] (hb (sL L) F G R sO) Q := by
  show pw pP mSBModel_word (0, [some (.inr (some (103))), some (.inl (p)), some (.inl (nI (0))), some (.inl (x)), some (.inl (z)), none, none], [], 0, 0, hb (sL L) F G R sO) _
  refine pw_aload_n rfl rfl ?_
  refine pw_iload_n rfl rfl ?_
  refine pw_iload_n rfl rfl ?_
  refine pw_iload_n rfl rfl ?_
  refine px_callv (as := [.inr (some (103)), .inl (p), .inl (nI (0)), .inl (x)]) (rest := []) rfl rfl (by decide) rfl (Nat.le_of_ble_eq_true rfl) (Nat.le_of_ble_eq_true rfl) (Nat.le_of_ble_eq_true rfl) (Nat.le_of_ble_eq_true rfl) rfl rfl rfl rfl ?_
  refine t_there_no0 hp ?_
  show pw pP mSBModel_word (7, [some (.inr (some (103))), some (.inl (p)), some (.inl (nI (0))), some (.inl (x)), some (.inl (z)), none, none], [.inl (nI (0))], 0, 0, hb (sL L) F G R sO) _
  refine pw_if1 (t := 12) rfl rfl (fun q => absurd q (by decide)) (fun _ => ?_)
  refine pw_iconst (v := nI (0)) rfl (by decide) ?_
  exact pw_iret rfl rfl (Nat.zero_le _) (Nat.zero_le _) rfl k
/-- SBModel_word -/
def word_in1_r (G : FN) (p kk kd m t ct : Nat) (tx : Nat → Nat) (z : Int32) : Int32 := (if ¬ z = 0 then (if ¬ z = nI (1) then (if ¬ z = nI (2) then (if ¬ z = nI (3) then nI (0) else G (128) (6 * (2 * p + 1) + kk)) else G (127) (6 * (2 * p + 1) + kk)) else G (126) (6 * (2 * p + 1) + kk)) else ((nI (kd * 16384 + (p * 4096) + m)) <<< ((nI (16)) &&& 31)) ||| (nI (tchk G (kd * 16384 + (p * 4096) + m) (6 * (2 * p + 1) + kk) m t ct tx)))
theorem t_word_in1 {L p kk fl kd m t ct : Nat} {tx : Nat → Nat} {z : Int32} {F G : FN} {R : RN} (hp : p < 4) (hfl : G 124 (2 * p + 1) = nI fl) (hf : fl ≤ 6) (hk : kk < fl) (hkd : G 125 (6 * (2 * p + 1) + kk) = nI kd) (hk3 : kd ≤ 3) (hm : G 129 (6 * (2 * p + 1) + kk) = nI m) (hm7 : m ≤ 7) (hmt : 0 < m → G 127 (6 * (2 * p + 1) + kk) = nI t) (hct : F 103 5 = nI ct) (hc4 : ct ≤ 400) (htm : 0 < m → t + m ≤ ct + 1) (htx : ∀ u, u < 400 → G 104 u = nI (tx u)) (ht2 : ∀ u, u < 400 → tx u ≤ 255) {Q : Option PV → PH → Prop} (k : Q (some (.inl (word_in1_r G p kk kd m t ct tx z))) (hb (sL L) F G R sO)) : pz pP mSBModel_word [.inr (some (103)), .inl (nI (p)), .inl (nI (1)), .inl (nI (kk)), .inl (z)] (hb (sL L) F G R sO) Q := by
  show pw pP mSBModel_word (0, [some (.inr (some (103))), some (.inl (nI (p))), some (.inl (nI (1))), some (.inl (nI (kk))), some (.inl (z)), none, none], [], 0, 0, hb (sL L) F G R sO) _
  refine pw_aload_n rfl rfl ?_
  refine pw_iload_n rfl rfl ?_
  refine pw_iload_n rfl rfl ?_
  refine pw_iload_n rfl rfl ?_
  refine px_callv (as := [.inr (some (103)), .inl (nI (p)), .inl (nI (1)), .inl (nI (kk))]) (rest := []) rfl rfl (by decide) rfl (Nat.le_of_ble_eq_true rfl) (Nat.le_of_ble_eq_true rfl) (Nat.le_of_ble_eq_true rfl) (Nat.le_of_ble_eq_true rfl) rfl rfl rfl rfl ?_
  refine t_there_in1 hp hfl hf hk ?_
  show pw pP mSBModel_word (7, [some (.inr (some (103))), some (.inl (nI (p))), some (.inl (nI (1))), some (.inl (nI (kk))), some (.inl (z)), none, none], [.inl (nI (1))], 0, 0, hb (sL L) F G R sO) _
  refine pw_if1 (t := 12) rfl rfl (fun _ => ?_) (fun q => absurd q (by decide))
  refine pw_bipush (v := nI (6)) rfl (by decide) ?_
  refine pw_iload_n rfl rfl ?_
  refine pw_if1 (t := 26) rfl rfl (fun q => absurd q (by decide)) (fun _ => ?_)
  refine pw_iconst (v := nI (2)) rfl (by decide) ?_
  refine pw_iload_n rfl rfl ?_
  refine pw_imul (z := nI (2 * p)) rfl (pk_mul _ _) ?_
  refine pw_iconst (v := nI (1)) rfl (by decide) ?_
  refine pw_iadd (z := nI (2 * p + 1)) rfl (nI_add _ _) ?_
  refine pw_goto (t := 29) rfl rfl ?_
  refine pw_imul (z := nI (6 * (2 * p + 1))) rfl (pk_mul _ _) ?_
  refine pw_iload_n rfl rfl ?_
  refine pw_iadd (z := nI (6 * (2 * p + 1) + kk)) rfl (nI_add _ _) ?_
  refine pw_istore (ls1 := [some (.inr (some (103))), some (.inl (nI (p))), some (.inl (nI (1))), some (.inl (nI (kk))), some (.inl (z)), some (.inl (nI (6 * (2 * p + 1) + kk))), none]) rfl (Nat.le_of_ble_eq_true rfl) rfl ?_
  refine pw_iload rfl rfl ?_
  refine pw_if1p (A := ¬ z = 0) rfl rfl (t := 81) rfl (fun c1 => ?_) (fun c1 => ?_)
  · -- 81
    refine pw_iload rfl rfl ?_
    refine pw_iconst (v := nI (1)) rfl (by decide) ?_
    refine pw_if2p (A := ¬ z = nI (1)) rfl rfl (t := 97) rfl (fun c2 => ?_) (fun c2 => ?_)
    · -- 97
      refine pw_iload rfl rfl ?_
      refine pw_iconst (v := nI (2)) rfl (by decide) ?_
      refine pw_if2p (A := ¬ z = nI (2)) rfl rfl (t := 113) rfl (fun c3 => ?_) (fun c3 => ?_)
      · -- 113
        refine pw_iload rfl rfl ?_
        refine pw_iconst (v := nI (3)) rfl (by decide) ?_
        refine pw_if2p (A := ¬ z = nI (3)) rfl rfl (t := 129) rfl (fun c4 => ?_) (fun c4 => ?_)
        · -- 129
          refine pw_iconst (v := nI (0)) rfl (by decide) ?_
          exact pw_iret rfl rfl (Nat.zero_le _) (Nat.zero_le _) rfl (by simp only [word_in1_r, c1, c2, c3, c4, if_true, if_false] at k; exact k)
        · -- 119
          refine pw_aload_n rfl rfl ?_
          refine px_getr (r := some (128)) rfl rfl rfl rfl rfl ?_
          refine pw_iload rfl rfl ?_
          refine px_ialdn (x := G (128) (6 * (2 * p + 1) + kk)) rfl rfl (by omega) (by decide) (rfl) ?_
          refine pw_goto (t := 130) rfl rfl ?_
          exact pw_iret rfl rfl (Nat.zero_le _) (Nat.zero_le _) rfl (by simp only [word_in1_r, c1, c2, c3, c4, if_true, if_false] at k; exact k)
      · -- 103
        refine pw_aload_n rfl rfl ?_
        refine px_getr (r := some (127)) rfl rfl rfl rfl rfl ?_
        refine pw_iload rfl rfl ?_
        refine px_ialdn (x := G (127) (6 * (2 * p + 1) + kk)) rfl rfl (by omega) (by decide) (rfl) ?_
        refine pw_goto (t := 130) rfl rfl ?_
        exact pw_iret rfl rfl (Nat.zero_le _) (Nat.zero_le _) rfl (by simp only [word_in1_r, c1, c2, c3, if_true, if_false] at k; exact k)
    · -- 87
      refine pw_aload_n rfl rfl ?_
      refine px_getr (r := some (126)) rfl rfl rfl rfl rfl ?_
      refine pw_iload rfl rfl ?_
      refine px_ialdn (x := G (126) (6 * (2 * p + 1) + kk)) rfl rfl (by omega) (by decide) (rfl) ?_
      refine pw_goto (t := 130) rfl rfl ?_
      exact pw_iret rfl rfl (Nat.zero_le _) (Nat.zero_le _) rfl (by simp only [word_in1_r, c1, c2, if_true, if_false] at k; exact k)
  · -- 39
    refine pw_aload_n rfl rfl ?_
    refine px_getr (r := some (125)) rfl rfl rfl rfl rfl ?_
    refine pw_iload rfl rfl ?_
    refine px_ialdn (x := nI (kd)) rfl rfl (by omega) (by decide) (hkd) ?_
    refine pw_sipush (v := nI (16384)) rfl (by decide) ?_
    refine pw_imul (z := nI (kd * 16384)) rfl (pk_mul _ _) ?_
    refine pw_iload_n rfl rfl ?_
    refine pw_sipush (v := nI (4096)) rfl (by decide) ?_
    refine pw_imul (z := nI (p * 4096)) rfl (pk_mul _ _) ?_
    refine pw_iadd (z := nI (kd * 16384 + (p * 4096))) rfl (nI_add _ _) ?_
    refine pw_aload_n rfl rfl ?_
    refine px_getr (r := some (129)) rfl rfl rfl rfl rfl ?_
    refine pw_iload rfl rfl ?_
    refine px_ialdn (x := nI (m)) rfl rfl (by omega) (by decide) (hm) ?_
    refine pw_iadd (z := nI (kd * 16384 + (p * 4096) + m)) rfl (nI_add _ _) ?_
    refine pw_istore (ls1 := [some (.inr (some (103))), some (.inl (nI (p))), some (.inl (nI (1))), some (.inl (nI (kk))), some (.inl (z)), some (.inl (nI (6 * (2 * p + 1) + kk))), some (.inl (nI (kd * 16384 + (p * 4096) + m)))]) rfl (Nat.le_of_ble_eq_true rfl) rfl ?_
    refine pw_iload rfl rfl ?_
    refine pw_bipush (v := nI (16)) rfl (by decide) ?_
    refine pw_ishl (z := (nI (kd * 16384 + (p * 4096) + m)) <<< ((nI (16)) &&& 31)) rfl rfl ?_
    refine pw_aload_n rfl rfl ?_
    refine pw_iload rfl rfl ?_
    refine pw_iload rfl rfl ?_
    refine px_callv (as := [.inr (some (103)), .inl (nI (kd * 16384 + (p * 4096) + m)), .inl (nI (6 * (2 * p + 1) + kk))]) (rest := [.inl ((nI (kd * 16384 + (p * 4096) + m)) <<< ((nI (16)) &&& 31))]) rfl rfl (by decide) rfl (Nat.le_of_ble_eq_true rfl) (Nat.le_of_ble_eq_true rfl) (Nat.le_of_ble_eq_true rfl) (Nat.le_of_ble_eq_true rfl) rfl rfl rfl rfl ?_
    refine t_check (by omega) (by omega) hm hm7 hmt hct hc4 htm htx ht2 ?_
    show pw pP mSBModel_word (79, [some (.inr (some (103))), some (.inl (nI (p))), some (.inl (nI (1))), some (.inl (nI (kk))), some (.inl (z)), some (.inl (nI (6 * (2 * p + 1) + kk))), some (.inl (nI (kd * 16384 + (p * 4096) + m)))], [.inl (nI (tchk G (kd * 16384 + (p * 4096) + m) (6 * (2 * p + 1) + kk) m t ct tx)), .inl ((nI (kd * 16384 + (p * 4096) + m)) <<< ((nI (16)) &&& 31))], 0, 0, hb (sL L) F G R sO) _
    refine pw_ior (z := ((nI (kd * 16384 + (p * 4096) + m)) <<< ((nI (16)) &&& 31)) ||| (nI (tchk G (kd * 16384 + (p * 4096) + m) (6 * (2 * p + 1) + kk) m t ct tx))) rfl rfl ?_
    exact pw_iret rfl rfl (Nat.zero_le _) (Nat.zero_le _) rfl (by simp only [word_in1_r, c1, if_true, if_false] at k; exact k)
/-- SBModel_word -/
def word_out1_r  : Int32 := nI (0)
theorem t_word_out1 {L p fl : Nat} {x z : Int32} {F G : FN} {R : RN} (hp : p < 4) (hfl : G 124 (2 * p + 1) = nI fl) (hk : x < 0 ∨ nI fl ≤ x) {Q : Option PV → PH → Prop} (k : Q (some (.inl (word_out1_r ))) (hb (sL L) F G R sO)) : pz pP mSBModel_word [.inr (some (103)), .inl (nI (p)), .inl (nI (1)), .inl (x), .inl (z)] (hb (sL L) F G R sO) Q := by
  show pw pP mSBModel_word (0, [some (.inr (some (103))), some (.inl (nI (p))), some (.inl (nI (1))), some (.inl (x)), some (.inl (z)), none, none], [], 0, 0, hb (sL L) F G R sO) _
  refine pw_aload_n rfl rfl ?_
  refine pw_iload_n rfl rfl ?_
  refine pw_iload_n rfl rfl ?_
  refine pw_iload_n rfl rfl ?_
  refine px_callv (as := [.inr (some (103)), .inl (nI (p)), .inl (nI (1)), .inl (x)]) (rest := []) rfl rfl (by decide) rfl (Nat.le_of_ble_eq_true rfl) (Nat.le_of_ble_eq_true rfl) (Nat.le_of_ble_eq_true rfl) (Nat.le_of_ble_eq_true rfl) rfl rfl rfl rfl ?_
  refine t_there_out1 hp hfl hk ?_
  show pw pP mSBModel_word (7, [some (.inr (some (103))), some (.inl (nI (p))), some (.inl (nI (1))), some (.inl (x)), some (.inl (z)), none, none], [.inl (nI (0))], 0, 0, hb (sL L) F G R sO) _
  refine pw_if1 (t := 12) rfl rfl (fun q => absurd q (by decide)) (fun _ => ?_)
  refine pw_iconst (v := nI (0)) rfl (by decide) ?_
  exact pw_iret rfl rfl (Nat.zero_le _) (Nat.zero_le _) rfl k
/-- SBModel_word -/
def word_no1_r  : Int32 := nI (0)
theorem t_word_no1 {L : Nat} {p x z : Int32} {F G : FN} {R : RN} (hp : p < 0 ∨ nI 4 ≤ p) {Q : Option PV → PH → Prop} (k : Q (some (.inl (word_no1_r ))) (hb (sL L) F G R sO)) : pz pP mSBModel_word [.inr (some (103)), .inl (p), .inl (nI (1)), .inl (x), .inl (z)] (hb (sL L) F G R sO) Q := by
  show pw pP mSBModel_word (0, [some (.inr (some (103))), some (.inl (p)), some (.inl (nI (1))), some (.inl (x)), some (.inl (z)), none, none], [], 0, 0, hb (sL L) F G R sO) _
  refine pw_aload_n rfl rfl ?_
  refine pw_iload_n rfl rfl ?_
  refine pw_iload_n rfl rfl ?_
  refine pw_iload_n rfl rfl ?_
  refine px_callv (as := [.inr (some (103)), .inl (p), .inl (nI (1)), .inl (x)]) (rest := []) rfl rfl (by decide) rfl (Nat.le_of_ble_eq_true rfl) (Nat.le_of_ble_eq_true rfl) (Nat.le_of_ble_eq_true rfl) (Nat.le_of_ble_eq_true rfl) rfl rfl rfl rfl ?_
  refine t_there_no1 hp ?_
  show pw pP mSBModel_word (7, [some (.inr (some (103))), some (.inl (p)), some (.inl (nI (1))), some (.inl (x)), some (.inl (z)), none, none], [.inl (nI (0))], 0, 0, hb (sL L) F G R sO) _
  refine pw_if1 (t := 12) rfl rfl (fun q => absurd q (by decide)) (fun _ => ?_)
  refine pw_iconst (v := nI (0)) rfl (by decide) ?_
  exact pw_iret rfl rfl (Nat.zero_le _) (Nat.zero_le _) rfl k
