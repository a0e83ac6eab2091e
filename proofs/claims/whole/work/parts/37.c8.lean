/-! THE CLASS, eighth part: word. Rows laid by a program (wip/whole/gen/class8.py). -/
theorem head_all : ∀ kd : Fin 4, ∀ p : Fin 4, ∀ m : Fin 8, ((nI kd.val <<< (nI 14 &&& 31)) ||| (nI p.val <<< (nI 12 &&& 31))) ||| nI m.val = nI (kd.val * 16384 + p.val * 4096 + m.val) := by decide
theorem head_eq {kd p m : Nat} (hk : kd ≤ 3) (hp : p < 4) (hm : m ≤ 7) : ((nI kd <<< (nI 14 &&& 31)) ||| (nI p <<< (nI 12 &&& 31))) ||| nI m = nI (kd * 16384 + p * 4096 + m) := head_all ⟨kd, by omega⟩ ⟨p, hp⟩ ⟨m, by omega⟩
theorem t_bhalf {L : Nat} {x : Int32} {F G : FN} {R : RN} {Q : Option PV → PH → Prop} (k : Q (some (.inl (nI (hi16 x + lo16 x)))) (hb (sL L) F G R sO)) : pz pP mSB_halves [.inl x] (hb (sL L) F G R sO) Q := by
  show pw pP mSB_halves (0, [some (.inl (x))], [], 0, 0, hb (sL L) F G R sO) _
  refine pw_iload_n rfl rfl ?_
  refine pw_bipush (v := nI (16)) rfl (by decide) ?_
  refine pw_iushr (z := nI (hi16 (x))) rfl (ush16 _) ?_
  refine pw_iload_n rfl rfl ?_
  refine pw_ldc (v := nI 65535) rfl rfl ?_
  refine pw_iand (z := nI (lo16 (x))) rfl (and16 _) ?_
  refine pw_iadd (z := nI (hi16 (x) + (lo16 (x)))) rfl (nI_add _ _) ?_
  exact pw_iret rfl rfl (Nat.zero_le _) (Nat.zero_le _) rfl k
theorem t_bf0 {L x p hd s j : Nat} {F G : FN} {R : RN} {Q : Option PV → PH → Prop} (hs : s ≤ 65535) (hj : j ≤ 4) (k : Q (some (.inl ((nI hd <<< (nI 16 &&& 31)) ||| nI (65535 - s)))) (hb (sL L) F G R sO)) : pw pP mSB_headOf (85, [some (.inr (some (1))), some (.inr (some (x))), some (.inl (nI (p))), some (.inl (nI (hd))), some (.inl (nI (s))), some (.inl (nI (j)))], [], 0, 0, hb (sL L) F G R sO) Q := by
  refine pw_iload rfl rfl ?_
  refine pw_iconst (v := nI (4)) rfl (by decide) ?_
  refine pw_if2p (cn_ge (by omega) (by omega)) rfl (t := 117) rfl (fun c1 => ?_) (fun c1 => ?_)
  · -- 117
    refine pw_iload_n rfl rfl ?_
    refine pw_bipush (v := nI (16)) rfl (by decide) ?_
    refine pw_ishl (z := (nI (hd)) <<< ((nI (16)) &&& 31)) rfl rfl ?_
    refine pw_ldc (v := nI 65535) rfl rfl ?_
    refine pw_iload rfl rfl ?_
    refine pw_isub (z := nI (65535 - s)) rfl (pk_sub (by omega)) ?_
    refine pw_ior (z := ((nI (hd)) <<< ((nI (16)) &&& 31)) ||| (nI (65535 - s))) rfl rfl ?_
    exact pw_iret rfl rfl (Nat.zero_le _) (Nat.zero_le _) rfl k
  · -- 91
    refine pw_iload rfl rfl ?_
    refine pw_ldc (v := nI 65535) rfl rfl ?_
    refine pw_if2p (cn_le (by omega) (by omega)) rfl (t := 117) rfl (fun _ => ?_) (fun q => absurd hs q)
    refine pw_iload_n rfl rfl ?_
    refine pw_bipush (v := nI (16)) rfl (by decide) ?_
    refine pw_ishl (z := (nI (hd)) <<< ((nI (16)) &&& 31)) rfl rfl ?_
    refine pw_ldc (v := nI 65535) rfl rfl ?_
    refine pw_iload rfl rfl ?_
    refine pw_isub (z := nI (65535 - s)) rfl (pk_sub (by omega)) ?_
    refine pw_ior (z := ((nI (hd)) <<< ((nI (16)) &&& 31)) ||| (nI (65535 - s))) rfl rfl ?_
    exact pw_iret rfl rfl (Nat.zero_le _) (Nat.zero_le _) rfl k
theorem t_bf1 {L x p hd s j : Nat} {F G : FN} {R : RN} {Q : Option PV → PH → Prop} (hs : ¬ s ≤ 65535) (hs2 : s < 524288) (hj : j < 4) (k : pw pP mSB_headOf (85, [some (.inr (some (1))), some (.inr (some (x))), some (.inl (nI (p))), some (.inl (nI (hd))), some (.inl (nI (fold1 s))), some (.inl (nI (j + 1)))], [], 0, 0, hb (sL L) F G R sO) Q) : pw pP mSB_headOf (85, [some (.inr (some (1))), some (.inr (some (x))), some (.inl (nI (p))), some (.inl (nI (hd))), some (.inl (nI (s))), some (.inl (nI (j)))], [], 0, 0, hb (sL L) F G R sO) Q := by
  refine pw_iload rfl rfl ?_
  refine pw_iconst (v := nI (4)) rfl (by decide) ?_
  refine pw_if2p (cn_ge (by omega) (by omega)) rfl (t := 117) rfl (fun q => absurd q (by omega)) (fun _ => ?_)
  refine pw_iload rfl rfl ?_
  refine pw_ldc (v := nI 65535) rfl rfl ?_
  refine pw_if2p (cn_le (by omega) (by omega)) rfl (t := 117) rfl (fun q => absurd q hs) (fun _ => ?_)
  refine pw_iload rfl rfl ?_
  refine pw_ldc (v := nI 65536) rfl rfl ?_
  refine pw_irem (z := nI (s % 65536)) rfl (nI_ne0 (by omega) (by omega)) (pk_rem (by omega) (by omega) (by omega)) ?_
  refine pw_iload rfl rfl ?_
  refine pw_ldc (v := nI 65536) rfl rfl ?_
  refine pw_idiv (z := nI (s / 65536)) rfl (nI_ne0 (by omega) (by omega)) (pk_div (by omega) (by omega) (by omega)) ?_
  refine pw_iadd (z := nI (s % 65536 + (s / 65536))) rfl (nI_add _ _) ?_
  refine pw_istore (ls1 := [some (.inr (some (1))), some (.inr (some (x))), some (.inl (nI (p))), some (.inl (nI (hd))), some (.inl (nI (s % 65536 + (s / 65536)))), some (.inl (nI (j)))]) rfl (Nat.le_of_ble_eq_true rfl) rfl ?_
  refine pw_iinc (v := nI (j + 1)) (ls1 := [some (.inr (some (1))), some (.inr (some (x))), some (.inl (nI (p))), some (.inl (nI (hd))), some (.inl (nI (s % 65536 + (s / 65536)))), some (.inl (nI (j + 1)))]) rfl rfl (iinc_n _) rfl ?_
  refine pw_goto (t := 85) rfl rfl ?_
  exact k
theorem t_bf2 {L x p hd s : Nat} {F G : FN} {R : RN} {Q : Option PV → PH → Prop} (hs2 : s < 524288) (k : Q (some (.inl ((nI hd <<< (nI 16 &&& 31)) ||| nI (65535 - fold2 s)))) (hb (sL L) F G R sO)) : pw pP mSB_headOf (85, [some (.inr (some (1))), some (.inr (some (x))), some (.inl (nI (p))), some (.inl (nI (hd))), some (.inl (nI (s))), some (.inl (nI (0)))], [], 0, 0, hb (sL L) F G R sO) Q := by
  by_cases h1 : s ≤ 65535
  · rw [show fold2 s = s from if_neg (by omega)] at k
    exact t_bf0 h1 (by omega) k
  · refine t_bf1 h1 hs2 (by omega) ?_
    have e : fold1 s = s % 65536 + s / 65536 := rfl
    by_cases h2 : fold1 s ≤ 65535
    · rw [show fold2 s = fold1 s by simp only [fold2]; rw [if_pos (by omega), if_neg (by omega)]] at k
      exact t_bf0 h2 (by omega) k
    · refine t_bf1 h2 (by omega) (by omega) ?_
      rw [show fold2 s = fold1 (fold1 s) by simp only [fold2]; rw [if_pos (by omega), if_pos (by omega)]] at k
      have e2 : fold1 (fold1 s) = fold1 s % 65536 + fold1 s / 65536 := rfl
      exact t_bf0 (by omega) (by omega) k
theorem t_bun {L x p hd m t ln ct : Nat} {tx : Nat → Nat} {F G : FN} {R : RN} {Q : Option PV → PH → Prop} (hsx : (sL L)[x]? = some (2, 1, [0, 0, 0, 0, 0, 0], 0)) (hm : F x 1 = nI m) (hm7 : m ≤ 7) (hln : F 2 1 = nI ln) (hl : ln ≤ 401) (hv : ∀ u, u < ln → G 3 u = nI (if u = ct then 256 else tx u)) (hv2 : ∀ u, u < ln → (if u = ct then 256 else tx u) ≤ 256) (ht : F x 3 = nI t) (htm : t + m ≤ ln) : ∀ (n j s : Nat), j + n = m → s ≤ 454662 + 256 * j → Q (some (.inl ((nI hd <<< (nI 16 &&& 31)) ||| nI (65535 - fold2 (csum tx ct t n j s))))) (hb (sL L) F G R sO) → pw pP mSB_headOf (48, [some (.inr (some (1))), some (.inr (some (x))), some (.inl (nI (p))), some (.inl (nI (hd))), some (.inl (nI (s))), some (.inl (nI (j)))], [], 0, 0, hb (sL L) F G R sO) Q := by
  intro n
  induction n with
  | zero =>
    intro j s hn hs k
    have e : m = j := by omega
    subst e
    refine pw_iload rfl rfl ?_
    refine pw_aload_n rfl rfl ?_
    refine px_getv (x := nI (m)) rfl rfl hsx rfl (hm) ?_
    refine pw_if2p (cn_ge (by omega) (by omega)) rfl (t := 82) rfl (fun _ => ?_) (fun q => absurd (Nat.le_refl _) q)
    refine pw_iconst (v := nI (0)) rfl (by decide) ?_
    refine pw_istore (ls1 := [some (.inr (some (1))), some (.inr (some (x))), some (.inl (nI (p))), some (.inl (nI (hd))), some (.inl (nI (s))), some (.inl (nI (0)))]) rfl (Nat.le_of_ble_eq_true rfl) rfl ?_
    exact t_bf2 (by omega) k
  | succ n ih =>
    intro j s hn hs k
    have h2 := hv2 (t + j) (by omega)
    refine pw_iload rfl rfl ?_
    refine pw_aload_n rfl rfl ?_
    refine px_getv (x := nI (m)) rfl rfl hsx rfl (hm) ?_
    refine pw_if2p (cn_ge (by omega) (by omega)) rfl (t := 82) rfl (fun q => absurd q (by omega)) (fun _ => ?_)
    refine pw_iload rfl rfl ?_
    refine pw_aload_n rfl rfl ?_
    refine px_getr (r := some (2)) rfl rfl rfl rfl rfl ?_
    refine pw_aload_n rfl rfl ?_
    refine px_getv (x := nI (t)) rfl rfl hsx rfl (ht) ?_
    refine pw_iload rfl rfl ?_
    refine pw_iadd (z := nI (t + j)) rfl (nI_add _ _) ?_
    refine px_callv (as := [.inr (some (2)), .inl (nI (t + j))]) (rest := [.inl (nI (s))]) rfl rfl (by decide) rfl (Nat.le_of_ble_eq_true rfl) (Nat.le_of_ble_eq_true rfl) (Nat.le_of_ble_eq_true rfl) (Nat.le_of_ble_eq_true rfl) rfl rfl rfl rfl ?_
    refine t_cval hln hl (by omega) ?_
    rw [show cval_r G (t + j) ln = nI (if t + j = ct then 256 else tx (t + j)) from (if_neg (by omega)).trans (hv (t + j) (by omega))]
    show pw pP mSB_headOf (73, [some (.inr (some (1))), some (.inr (some (x))), some (.inl (nI (p))), some (.inl (nI (hd))), some (.inl (nI (s))), some (.inl (nI (j)))], [.inl (nI ((if t + j = ct then 256 else tx (t + j)))), .inl (nI (s))], 0, 0, hb (sL L) F G R sO) _
    refine pw_iadd (z := nI (s + (if t + j = ct then 256 else tx (t + j)))) rfl (nI_add _ _) ?_
    refine pw_istore (ls1 := [some (.inr (some (1))), some (.inr (some (x))), some (.inl (nI (p))), some (.inl (nI (hd))), some (.inl (nI (s + (if t + j = ct then 256 else tx (t + j))))), some (.inl (nI (j)))]) rfl (Nat.le_of_ble_eq_true rfl) rfl ?_
    refine pw_iinc (v := nI (j + 1)) (ls1 := [some (.inr (some (1))), some (.inr (some (x))), some (.inl (nI (p))), some (.inl (nI (hd))), some (.inl (nI (s + (if t + j = ct then 256 else tx (t + j))))), some (.inl (nI (j + 1)))]) rfl rfl (iinc_n _) rfl ?_
    refine pw_goto (t := 48) rfl rfl ?_
    exact ih (j + 1) _ (by omega) (by omega) k
def bsum (F : FN) (x hd : Nat) : Nat := hd + (hi16 (F x 2) + lo16 (F x 2)) + (hi16 (F x 3) + lo16 (F x 3)) + (hi16 (F x 4) + lo16 (F x 4))
theorem t_bhead {L x p kd m t ln ct : Nat} {tx : Nat → Nat} {F G : FN} {R : RN} {Q : Option PV → PH → Prop} (hsx : (sL L)[x]? = some (2, 1, [0, 0, 0, 0, 0, 0], 0)) (hm : F x 1 = nI m) (hm7 : m ≤ 7) (hln : F 2 1 = nI ln) (hl : ln ≤ 401) (hv : ∀ u, u < ln → G 3 u = nI (if u = ct then 256 else tx u)) (hv2 : ∀ u, u < ln → (if u = ct then 256 else tx u) ≤ 256) (hkd : F x 0 = nI kd) (hk3 : kd ≤ 3) (hp : p < 4) (hmt : 0 < m → F x 3 = nI t) (htm : 0 < m → t + m ≤ ln) (k : Q (some (.inl ((nI (kd * 16384 + p * 4096 + m) <<< (nI 16 &&& 31)) ||| nI (65535 - fold2 (csum tx ct t m 0 (bsum F x (kd * 16384 + p * 4096 + m))))))) (hb (sL L) F G R sO)) : pz pP mSB_headOf [.inr (some 1), .inr (some x), .inl (nI p)] (hb (sL L) F G R sO) Q := by
  have a0 := hi16_lt (F x 2)
  have a1 := lo16_lt (F x 2)
  have a2 := hi16_lt (F x 3)
  have a3 := lo16_lt (F x 3)
  have a4 := hi16_lt (F x 4)
  have a5 := lo16_lt (F x 4)
  show pw pP mSB_headOf (0, [some (.inr (some (1))), some (.inr (some (x))), some (.inl (nI (p))), none, none, none], [], 0, 0, hb (sL L) F G R sO) _
  refine pw_aload_n rfl rfl ?_
  refine px_getv (x := nI (kd)) rfl rfl hsx rfl (hkd) ?_
  refine pw_bipush (v := nI (14)) rfl (by decide) ?_
  refine pw_ishl (z := nI kd <<< (nI 14 &&& 31)) rfl rfl ?_
  refine pw_iload_n rfl rfl ?_
  refine pw_bipush (v := nI (12)) rfl (by decide) ?_
  refine pw_ishl (z := nI p <<< (nI 12 &&& 31)) rfl rfl ?_
  refine pw_ior (z := (nI kd <<< (nI 14 &&& 31)) ||| (nI p <<< (nI 12 &&& 31))) rfl rfl ?_
  refine pw_aload_n rfl rfl ?_
  refine px_getv (x := nI (m)) rfl rfl hsx rfl (hm) ?_
  refine pw_ior (z := nI (kd * 16384 + p * 4096 + m)) rfl (head_eq hk3 hp hm7) ?_
  refine pw_istore_n (ls1 := [some (.inr (some (1))), some (.inr (some (x))), some (.inl (nI (p))), some (.inl (nI (kd * 16384 + p * 4096 + m))), none, none]) rfl (Nat.le_of_ble_eq_true rfl) rfl ?_
  refine pw_iload_n rfl rfl ?_
  refine pw_aload_n rfl rfl ?_
  refine px_getv (x := F (x) (2)) rfl rfl hsx rfl (rfl) ?_
  refine pw_calls (as := [.inl (F (x) (2))]) (rest := [.inl (nI (kd * 16384 + p * 4096 + m))]) rfl rfl (by decide) rfl (Nat.le_of_ble_eq_true rfl) (Nat.le_of_ble_eq_true rfl) (Nat.le_of_ble_eq_true rfl) (Nat.le_of_ble_eq_true rfl) rfl rfl ?_
  refine t_bhalf ?_
  show pw pP mSB_headOf (26, [some (.inr (some (1))), some (.inr (some (x))), some (.inl (nI (p))), some (.inl (nI (kd * 16384 + p * 4096 + m))), none, none], [.inl (nI ((hi16 (F (x) (2)) + lo16 (F (x) (2))))), .inl (nI (kd * 16384 + p * 4096 + m))], 0, 0, hb (sL L) F G R sO) _
  refine pw_iadd (z := nI (kd * 16384 + p * 4096 + m + (hi16 (F (x) (2)) + lo16 (F (x) (2))))) rfl (nI_add _ _) ?_
  refine pw_aload_n rfl rfl ?_
  refine px_getv (x := F (x) (3)) rfl rfl hsx rfl (rfl) ?_
  refine pw_calls (as := [.inl (F (x) (3))]) (rest := [.inl (nI (kd * 16384 + p * 4096 + m + (hi16 (F (x) (2)) + lo16 (F (x) (2)))))]) rfl rfl (by decide) rfl (Nat.le_of_ble_eq_true rfl) (Nat.le_of_ble_eq_true rfl) (Nat.le_of_ble_eq_true rfl) (Nat.le_of_ble_eq_true rfl) rfl rfl ?_
  refine t_bhalf ?_
  show pw pP mSB_headOf (34, [some (.inr (some (1))), some (.inr (some (x))), some (.inl (nI (p))), some (.inl (nI (kd * 16384 + p * 4096 + m))), none, none], [.inl (nI ((hi16 (F (x) (3)) + lo16 (F (x) (3))))), .inl (nI (kd * 16384 + p * 4096 + m + (hi16 (F (x) (2)) + lo16 (F (x) (2)))))], 0, 0, hb (sL L) F G R sO) _
  refine pw_iadd (z := nI (kd * 16384 + p * 4096 + m + (hi16 (F (x) (2)) + lo16 (F (x) (2))) + (hi16 (F (x) (3)) + lo16 (F (x) (3))))) rfl (nI_add _ _) ?_
  refine pw_aload_n rfl rfl ?_
  refine px_getv (x := F (x) (4)) rfl rfl hsx rfl (rfl) ?_
  refine pw_calls (as := [.inl (F (x) (4))]) (rest := [.inl (nI (kd * 16384 + p * 4096 + m + (hi16 (F (x) (2)) + lo16 (F (x) (2))) + (hi16 (F (x) (3)) + lo16 (F (x) (3)))))]) rfl rfl (by decide) rfl (Nat.le_of_ble_eq_true rfl) (Nat.le_of_ble_eq_true rfl) (Nat.le_of_ble_eq_true rfl) (Nat.le_of_ble_eq_true rfl) rfl rfl ?_
  refine t_bhalf ?_
  show pw pP mSB_headOf (42, [some (.inr (some (1))), some (.inr (some (x))), some (.inl (nI (p))), some (.inl (nI (kd * 16384 + p * 4096 + m))), none, none], [.inl (nI ((hi16 (F (x) (4)) + lo16 (F (x) (4))))), .inl (nI (kd * 16384 + p * 4096 + m + (hi16 (F (x) (2)) + lo16 (F (x) (2))) + (hi16 (F (x) (3)) + lo16 (F (x) (3)))))], 0, 0, hb (sL L) F G R sO) _
  refine pw_iadd (z := nI (kd * 16384 + p * 4096 + m + (hi16 (F (x) (2)) + lo16 (F (x) (2))) + (hi16 (F (x) (3)) + lo16 (F (x) (3))) + (hi16 (F (x) (4)) + lo16 (F (x) (4))))) rfl (nI_add _ _) ?_
  refine pw_istore (ls1 := [some (.inr (some (1))), some (.inr (some (x))), some (.inl (nI (p))), some (.inl (nI (kd * 16384 + p * 4096 + m))), some (.inl (nI (kd * 16384 + p * 4096 + m + (hi16 (F (x) (2)) + lo16 (F (x) (2))) + (hi16 (F (x) (3)) + lo16 (F (x) (3))) + (hi16 (F (x) (4)) + lo16 (F (x) (4)))))), none]) rfl (Nat.le_of_ble_eq_true rfl) rfl ?_
  refine pw_iconst (v := nI (0)) rfl (by decide) ?_
  refine pw_istore (ls1 := [some (.inr (some (1))), some (.inr (some (x))), some (.inl (nI (p))), some (.inl (nI (kd * 16384 + p * 4096 + m))), some (.inl (nI (kd * 16384 + p * 4096 + m + (hi16 (F (x) (2)) + lo16 (F (x) (2))) + (hi16 (F (x) (3)) + lo16 (F (x) (3))) + (hi16 (F (x) (4)) + lo16 (F (x) (4)))))), some (.inl (nI (0)))]) rfl (Nat.le_of_ble_eq_true rfl) rfl ?_
  have e6 : bsum F x (kd * 16384 + p * 4096 + m) = (kd * 16384 + p * 4096 + m) + (hi16 (F x 2) + lo16 (F x 2)) + (hi16 (F x 3) + lo16 (F x 3)) + (hi16 (F x 4) + lo16 (F x 4)) := rfl
  by_cases h0 : m = 0
  · skip
    refine pw_iload rfl rfl ?_
    refine pw_aload_n rfl rfl ?_
    refine px_getv (x := nI (m)) rfl rfl hsx rfl (hm) ?_
    refine pw_if2p (cn_ge (by omega) (by omega)) rfl (t := 82) rfl (fun _ => ?_) (fun q => absurd (by omega) q)
    refine pw_iconst (v := nI (0)) rfl (by decide) ?_
    refine pw_istore (ls1 := [some (.inr (some (1))), some (.inr (some (x))), some (.inl (nI (p))), some (.inl (nI (kd * 16384 + p * 4096 + m))), some (.inl (nI (kd * 16384 + p * 4096 + m + (hi16 (F (x) (2)) + lo16 (F (x) (2))) + (hi16 (F (x) (3)) + lo16 (F (x) (3))) + (hi16 (F (x) (4)) + lo16 (F (x) (4)))))), some (.inl (nI (0)))]) rfl (Nat.le_of_ble_eq_true rfl) rfl ?_
    subst h0
    exact t_bf2 (hd := kd * 16384 + p * 4096 + 0) (s := bsum F x (kd * 16384 + p * 4096 + 0)) (by omega) k
  · exact t_bun hsx hm hm7 hln hl hv hv2 (hmt (by omega)) (htm (by omega)) m 0 (bsum F x (kd * 16384 + p * 4096 + m)) (by omega) (by omega) k
theorem sw_out {z : Int32} (h0 : ¬ z = nI 0) (h1 : ¬ z = nI 1) (h2 : ¬ z = nI 2) (h3 : ¬ z = nI 3) : z.toInt < 0 ∨ 3 < z.toInt := by
  have e0 : ¬ z.toInt = 0 := fun h => h0 (Int32.toInt_inj.mp h)
  have e1 : ¬ z.toInt = 1 := fun h => h1 (Int32.toInt_inj.mp h)
  have e2 : ¬ z.toInt = 2 := fun h => h2 (Int32.toInt_inj.mp h)
  have e3 : ¬ z.toInt = 3 := fun h => h3 (Int32.toInt_inj.mp h)
  omega
def bword_r (F : FN) (x : Nat) (z w : Int32) : Int32 := if ¬ z = 0 then (if ¬ z = nI 1 then (if ¬ z = nI 2 then (if ¬ z = nI 3 then nI 0 else F x 4) else F x 3) else F x 2) else w
/-- SB_word -/
def bword_no0_r  : Int32 := nI (0)
theorem t_bword_no0 {L : Nat} {p z d : Int32} {F G : FN} {R : RN} (hp : p < 0 ∨ nI 4 ≤ p) {Q : Option PV → PH → Prop} (k : Q (some (.inl (bword_no0_r ))) (hb (sL L) F G R sO)) : pz pP mSB_word [.inr (some (1)), .inl (p), .inl (nI (0)), .inl (z), .inl (d)] (hb (sL L) F G R sO) Q := by
  show pw pP mSB_word (0, [some (.inr (some (1))), some (.inl (p)), some (.inl (nI (0))), some (.inl (z)), some (.inl (d)), none], [], 0, 0, hb (sL L) F G R sO) _
  refine pw_iload_n rfl rfl ?_
  refine pw_calls (as := [.inl (p)]) (rest := []) rfl rfl (by decide) rfl (Nat.le_of_ble_eq_true rfl) (Nat.le_of_ble_eq_true rfl) (Nat.le_of_ble_eq_true rfl) (Nat.le_of_ble_eq_true rfl) rfl rfl ?_
  refine t_bpath_out hp ?_
  show pw pP mSB_word (4, [some (.inr (some (1))), some (.inl (p)), some (.inl (nI (0))), some (.inl (z)), some (.inl (d)), none], [.inl (nI (0))], 0, 0, hb (sL L) F G R sO) _
  refine pw_if1 (t := 9) rfl rfl (fun q => absurd q (by decide)) (fun _ => ?_)
  refine pw_iconst (v := nI (0)) rfl (by decide) ?_
  exact pw_iret rfl rfl (Nat.zero_le _) (Nat.zero_le _) rfl k
theorem t_bword_out0 {L p sz : Nat} {z d : Int32} {F G : FN} {R : RN} (hp : p < 4) (hR4 : R 4 p = some (5 + 21 * p)) (hP : pathok L (5 + 21 * p) R) (hsz : F (5 + 21 * p + 1) 1 = nI sz) (hs6 : sz ≤ 6) (hz : z < 0 ∨ nI sz ≤ z) {Q : Option PV → PH → Prop} (k : Q (some (.inl (nI 0))) (hb (sL L) F G R sO)) : pz pP mSB_word [.inr (some 1), .inl (nI p), .inl (nI 0), .inl z, .inl d] (hb (sL L) F G R sO) Q := by
  show pw pP mSB_word (0, [some (.inr (some (1))), some (.inl (nI (p))), some (.inl (nI (0))), some (.inl (z)), some (.inl (d)), none], [], 0, 0, hb (sL L) F G R sO) _
  refine pw_iload_n rfl rfl ?_
  refine pw_calls (as := [.inl (nI (p))]) (rest := []) rfl rfl (by decide) rfl (Nat.le_of_ble_eq_true rfl) (Nat.le_of_ble_eq_true rfl) (Nat.le_of_ble_eq_true rfl) (Nat.le_of_ble_eq_true rfl) rfl rfl ?_
  refine t_bpath_in hp ?_
  show pw pP mSB_word (4, [some (.inr (some (1))), some (.inl (nI (p))), some (.inl (nI (0))), some (.inl (z)), some (.inl (d)), none], [.inl (nI (1))], 0, 0, hb (sL L) F G R sO) _
  refine pw_if1 (t := 9) rfl rfl (fun _ => ?_) (fun q => absurd q (by decide))
  refine pw_aload_n rfl rfl ?_
  refine px_getr (r := some (4)) rfl rfl rfl rfl rfl ?_
  refine pw_iload_n rfl rfl ?_
  refine px_aaldn (r := (some (5 + 21 * p))) rfl rfl rfl (by omega) (by decide) (hR4) ?_
  refine pw_iload_n rfl rfl ?_
  refine px_callv (as := [.inr (some (5 + 21 * p)), .inl (nI (0))]) (rest := []) rfl rfl (by decide) rfl (Nat.le_of_ble_eq_true rfl) (Nat.le_of_ble_eq_true rfl) (Nat.le_of_ble_eq_true rfl) (Nat.le_of_ble_eq_true rfl) rfl hP.1 rfl rfl ?_
  refine t_cpipe0 hP ?_
  show pw pP mSB_word (19, [some (.inr (some (1))), some (.inl (nI (p))), some (.inl (nI (0))), some (.inl (z)), some (.inl (d)), none], [.inr (some (5 + 21 * p + 1))], 0, 0, hb (sL L) F G R sO) _
  refine pw_iload_n rfl rfl ?_
  refine px_callv (as := [.inr (some (5 + 21 * p + 1)), .inl (z)]) (rest := []) rfl rfl (by decide) rfl (Nat.le_of_ble_eq_true rfl) (Nat.le_of_ble_eq_true rfl) (Nat.le_of_ble_eq_true rfl) (Nat.le_of_ble_eq_true rfl) rfl hP.2.2.1.1 rfl rfl ?_
  refine t_copyAt_out hP.2.2.1 hsz hs6 hz ?_
  show pw pP mSB_word (23, [some (.inr (some (1))), some (.inl (nI (p))), some (.inl (nI (0))), some (.inl (z)), some (.inl (d)), none], [.inr none], 0, 0, hb (sL L) F G R sO) _
  refine pw_astore (ls1 := [some (.inr (some (1))), some (.inl (nI (p))), some (.inl (nI (0))), some (.inl (z)), some (.inl (d)), some (.inr none)]) rfl (Nat.le_of_ble_eq_true rfl) rfl ?_
  refine pw_aload rfl rfl ?_
  refine pw_ifnonnullN (t := 32) rfl rfl ?_
  refine pw_iconst (v := nI (0)) rfl (by decide) ?_
  exact pw_iret rfl rfl (Nat.zero_le _) (Nat.zero_le _) rfl k
theorem t_bword_in0 {L p sz kk x kd m t ln ct : Nat} {z : Int32} {tx : Nat → Nat} {F G : FN} {R : RN} (hp : p < 4) (hR4 : R 4 p = some (5 + 21 * p)) (hP : pathok L (5 + 21 * p) R) (hsz : F (5 + 21 * p + 1) 1 = nI sz) (hs6 : sz ≤ 6) (hk : kk < sz) (hx : R (5 + 21 * p + 1 + 1) kk = some x) (hsx : (sL L)[x]? = some (2, 1, [0, 0, 0, 0, 0, 0], 0)) (hm : F x 1 = nI m) (hm7 : m ≤ 7) (hln : F 2 1 = nI ln) (hl : ln ≤ 401) (hv : ∀ u, u < ln → G 3 u = nI (if u = ct then 256 else tx u)) (hv2 : ∀ u, u < ln → (if u = ct then 256 else tx u) ≤ 256) (hkd : F x 0 = nI kd) (hk3 : kd ≤ 3) (hmt : 0 < m → F x 3 = nI t) (htm : 0 < m → t + m ≤ ln) {Q : Option PV → PH → Prop} (k : Q (some (.inl (bword_r F x z ((nI (kd * 16384 + p * 4096 + m) <<< (nI 16 &&& 31)) ||| nI (65535 - fold2 (csum tx ct t m 0 (bsum F x (kd * 16384 + p * 4096 + m)))))))) (hb (sL L) F G R sO)) : pz pP mSB_word [.inr (some 1), .inl (nI p), .inl (nI 0), .inl (nI kk), .inl z] (hb (sL L) F G R sO) Q := by
  show pw pP mSB_word (0, [some (.inr (some (1))), some (.inl (nI (p))), some (.inl (nI (0))), some (.inl (nI (kk))), some (.inl (z)), none], [], 0, 0, hb (sL L) F G R sO) _
  refine pw_iload_n rfl rfl ?_
  refine pw_calls (as := [.inl (nI (p))]) (rest := []) rfl rfl (by decide) rfl (Nat.le_of_ble_eq_true rfl) (Nat.le_of_ble_eq_true rfl) (Nat.le_of_ble_eq_true rfl) (Nat.le_of_ble_eq_true rfl) rfl rfl ?_
  refine t_bpath_in hp ?_
  show pw pP mSB_word (4, [some (.inr (some (1))), some (.inl (nI (p))), some (.inl (nI (0))), some (.inl (nI (kk))), some (.inl (z)), none], [.inl (nI (1))], 0, 0, hb (sL L) F G R sO) _
  refine pw_if1 (t := 9) rfl rfl (fun _ => ?_) (fun q => absurd q (by decide))
  refine pw_aload_n rfl rfl ?_
  refine px_getr (r := some (4)) rfl rfl rfl rfl rfl ?_
  refine pw_iload_n rfl rfl ?_
  refine px_aaldn (r := (some (5 + 21 * p))) rfl rfl rfl (by omega) (by decide) (hR4) ?_
  refine pw_iload_n rfl rfl ?_
  refine px_callv (as := [.inr (some (5 + 21 * p)), .inl (nI (0))]) (rest := []) rfl rfl (by decide) rfl (Nat.le_of_ble_eq_true rfl) (Nat.le_of_ble_eq_true rfl) (Nat.le_of_ble_eq_true rfl) (Nat.le_of_ble_eq_true rfl) rfl hP.1 rfl rfl ?_
  refine t_cpipe0 hP ?_
  show pw pP mSB_word (19, [some (.inr (some (1))), some (.inl (nI (p))), some (.inl (nI (0))), some (.inl (nI (kk))), some (.inl (z)), none], [.inr (some (5 + 21 * p + 1))], 0, 0, hb (sL L) F G R sO) _
  refine pw_iload_n rfl rfl ?_
  refine px_callv (as := [.inr (some (5 + 21 * p + 1)), .inl (nI (kk))]) (rest := []) rfl rfl (by decide) rfl (Nat.le_of_ble_eq_true rfl) (Nat.le_of_ble_eq_true rfl) (Nat.le_of_ble_eq_true rfl) (Nat.le_of_ble_eq_true rfl) rfl hP.2.2.1.1 rfl rfl ?_
  refine t_copyAt hP.2.2.1 hsz hs6 hk hx hsx ?_
  show pw pP mSB_word (23, [some (.inr (some (1))), some (.inl (nI (p))), some (.inl (nI (0))), some (.inl (nI (kk))), some (.inl (z)), none], [.inr (some (x))], 0, 0, hb (sL L) F G R sO) _
  refine pw_astore (ls1 := [some (.inr (some (1))), some (.inl (nI (p))), some (.inl (nI (0))), some (.inl (nI (kk))), some (.inl (z)), some (.inr (some (x)))]) rfl (Nat.le_of_ble_eq_true rfl) rfl ?_
  refine pw_aload rfl rfl ?_
  refine pw_ifnonnull (t := 32) rfl rfl ?_
  refine pw_iload rfl rfl ?_
  by_cases z0 : z = nI 0
  · subst z0
    have e : bword_r F x (nI 0) ((nI (kd * 16384 + p * 4096 + m) <<< (nI 16 &&& 31)) ||| nI (65535 - fold2 (csum tx ct t m 0 (bsum F x (kd * 16384 + p * 4096 + m))))) = ((nI (kd * 16384 + p * 4096 + m) <<< (nI 16 &&& 31)) ||| nI (65535 - fold2 (csum tx ct t m 0 (bsum F x (kd * 16384 + p * 4096 + m))))) := rfl
    rw [e] at k
    refine pw_sw (off := 30) (t := 64) rfl rfl rfl ?_
    refine pw_aload_n rfl rfl ?_
    refine pw_aload rfl rfl ?_
    refine pw_iload_n rfl rfl ?_
    refine px_callv (as := [.inr (some (1)), .inr (some (x)), .inl (nI (p))]) (rest := []) rfl rfl (by decide) rfl (Nat.le_of_ble_eq_true rfl) (Nat.le_of_ble_eq_true rfl) (Nat.le_of_ble_eq_true rfl) (Nat.le_of_ble_eq_true rfl) rfl rfl rfl rfl ?_
    refine t_bhead hsx hm hm7 hln hl hv hv2 hkd hk3 hp hmt htm ?_
    show pw pP mSB_word (71, [some (.inr (some (1))), some (.inl (nI (p))), some (.inl (nI (0))), some (.inl (nI (kk))), some (.inl (nI (0))), some (.inr (some (x)))], [.inl (((nI (kd * 16384 + p * 4096 + m) <<< (nI 16 &&& 31)) ||| nI (65535 - fold2 (csum tx ct t m 0 (bsum F x (kd * 16384 + p * 4096 + m))))))], 0, 0, hb (sL L) F G R sO) _
    exact pw_iret rfl rfl (Nat.zero_le _) (Nat.zero_le _) rfl k
  by_cases z1 : z = nI 1
  · subst z1
    have e : bword_r F x (nI 1) ((nI (kd * 16384 + p * 4096 + m) <<< (nI 16 &&& 31)) ||| nI (65535 - fold2 (csum tx ct t m 0 (bsum F x (kd * 16384 + p * 4096 + m))))) = F x 2 := rfl
    rw [e] at k
    refine pw_sw (off := 38) (t := 72) rfl rfl rfl ?_
    refine pw_aload rfl rfl ?_
    refine px_getv (x := F (x) (2)) rfl rfl hsx rfl (rfl) ?_
    exact pw_iret rfl rfl (Nat.zero_le _) (Nat.zero_le _) rfl k
  by_cases z2 : z = nI 2
  · subst z2
    have e : bword_r F x (nI 2) ((nI (kd * 16384 + p * 4096 + m) <<< (nI 16 &&& 31)) ||| nI (65535 - fold2 (csum tx ct t m 0 (bsum F x (kd * 16384 + p * 4096 + m))))) = F x 3 := rfl
    rw [e] at k
    refine pw_sw (off := 44) (t := 78) rfl rfl rfl ?_
    refine pw_aload rfl rfl ?_
    refine px_getv (x := F (x) (3)) rfl rfl hsx rfl (rfl) ?_
    exact pw_iret rfl rfl (Nat.zero_le _) (Nat.zero_le _) rfl k
  by_cases z3 : z = nI 3
  · subst z3
    have e : bword_r F x (nI 3) ((nI (kd * 16384 + p * 4096 + m) <<< (nI 16 &&& 31)) ||| nI (65535 - fold2 (csum tx ct t m 0 (bsum F x (kd * 16384 + p * 4096 + m))))) = F x 4 := rfl
    rw [e] at k
    refine pw_sw (off := 50) (t := 84) rfl rfl rfl ?_
    refine pw_aload rfl rfl ?_
    refine px_getv (x := F (x) (4)) rfl rfl hsx rfl (rfl) ?_
    exact pw_iret rfl rfl (Nat.zero_le _) (Nat.zero_le _) rfl k
  have e : bword_r F x z ((nI (kd * 16384 + p * 4096 + m) <<< (nI 16 &&& 31)) ||| nI (65535 - fold2 (csum tx ct t m 0 (bsum F x (kd * 16384 + p * 4096 + m))))) = nI 0 := by
    unfold bword_r
    rw [if_pos (fun h => z0 (h.trans nI_0.symm)), if_pos z1, if_pos z2, if_pos z3]
  rw [e] at k
  refine pw_sw (off := 56) (t := 90) rfl (if_pos (sw_out z0 z1 z2 z3)) rfl ?_
  refine pw_iconst (v := nI (0)) rfl (by decide) ?_
  exact pw_iret rfl rfl (Nat.zero_le _) (Nat.zero_le _) rfl k
/-- SB_word -/
def bword_no1_r  : Int32 := nI (0)
theorem t_bword_no1 {L : Nat} {p z d : Int32} {F G : FN} {R : RN} (hp : p < 0 ∨ nI 4 ≤ p) {Q : Option PV → PH → Prop} (k : Q (some (.inl (bword_no1_r ))) (hb (sL L) F G R sO)) : pz pP mSB_word [.inr (some (1)), .inl (p), .inl (nI (1)), .inl (z), .inl (d)] (hb (sL L) F G R sO) Q := by
  show pw pP mSB_word (0, [some (.inr (some (1))), some (.inl (p)), some (.inl (nI (1))), some (.inl (z)), some (.inl (d)), none], [], 0, 0, hb (sL L) F G R sO) _
  refine pw_iload_n rfl rfl ?_
  refine pw_calls (as := [.inl (p)]) (rest := []) rfl rfl (by decide) rfl (Nat.le_of_ble_eq_true rfl) (Nat.le_of_ble_eq_true rfl) (Nat.le_of_ble_eq_true rfl) (Nat.le_of_ble_eq_true rfl) rfl rfl ?_
  refine t_bpath_out hp ?_
  show pw pP mSB_word (4, [some (.inr (some (1))), some (.inl (p)), some (.inl (nI (1))), some (.inl (z)), some (.inl (d)), none], [.inl (nI (0))], 0, 0, hb (sL L) F G R sO) _
  refine pw_if1 (t := 9) rfl rfl (fun q => absurd q (by decide)) (fun _ => ?_)
  refine pw_iconst (v := nI (0)) rfl (by decide) ?_
  exact pw_iret rfl rfl (Nat.zero_le _) (Nat.zero_le _) rfl k
theorem t_bword_out1 {L p sz : Nat} {z d : Int32} {F G : FN} {R : RN} (hp : p < 4) (hR4 : R 4 p = some (5 + 21 * p)) (hP : pathok L (5 + 21 * p) R) (hsz : F (5 + 21 * p + 9) 1 = nI sz) (hs6 : sz ≤ 6) (hz : z < 0 ∨ nI sz ≤ z) {Q : Option PV → PH → Prop} (k : Q (some (.inl (nI 0))) (hb (sL L) F G R sO)) : pz pP mSB_word [.inr (some 1), .inl (nI p), .inl (nI 1), .inl z, .inl d] (hb (sL L) F G R sO) Q := by
  show pw pP mSB_word (0, [some (.inr (some (1))), some (.inl (nI (p))), some (.inl (nI (1))), some (.inl (z)), some (.inl (d)), none], [], 0, 0, hb (sL L) F G R sO) _
  refine pw_iload_n rfl rfl ?_
  refine pw_calls (as := [.inl (nI (p))]) (rest := []) rfl rfl (by decide) rfl (Nat.le_of_ble_eq_true rfl) (Nat.le_of_ble_eq_true rfl) (Nat.le_of_ble_eq_true rfl) (Nat.le_of_ble_eq_true rfl) rfl rfl ?_
  refine t_bpath_in hp ?_
  show pw pP mSB_word (4, [some (.inr (some (1))), some (.inl (nI (p))), some (.inl (nI (1))), some (.inl (z)), some (.inl (d)), none], [.inl (nI (1))], 0, 0, hb (sL L) F G R sO) _
  refine pw_if1 (t := 9) rfl rfl (fun _ => ?_) (fun q => absurd q (by decide))
  refine pw_aload_n rfl rfl ?_
  refine px_getr (r := some (4)) rfl rfl rfl rfl rfl ?_
  refine pw_iload_n rfl rfl ?_
  refine px_aaldn (r := (some (5 + 21 * p))) rfl rfl rfl (by omega) (by decide) (hR4) ?_
  refine pw_iload_n rfl rfl ?_
  refine px_callv (as := [.inr (some (5 + 21 * p)), .inl (nI (1))]) (rest := []) rfl rfl (by decide) rfl (Nat.le_of_ble_eq_true rfl) (Nat.le_of_ble_eq_true rfl) (Nat.le_of_ble_eq_true rfl) (Nat.le_of_ble_eq_true rfl) rfl hP.1 rfl rfl ?_
  refine t_cpipe1 hP ?_
  show pw pP mSB_word (19, [some (.inr (some (1))), some (.inl (nI (p))), some (.inl (nI (1))), some (.inl (z)), some (.inl (d)), none], [.inr (some (5 + 21 * p + 9))], 0, 0, hb (sL L) F G R sO) _
  refine pw_iload_n rfl rfl ?_
  refine px_callv (as := [.inr (some (5 + 21 * p + 9)), .inl (z)]) (rest := []) rfl rfl (by decide) rfl (Nat.le_of_ble_eq_true rfl) (Nat.le_of_ble_eq_true rfl) (Nat.le_of_ble_eq_true rfl) (Nat.le_of_ble_eq_true rfl) rfl hP.2.2.2.1.1 rfl rfl ?_
  refine t_copyAt_out hP.2.2.2.1 hsz hs6 hz ?_
  show pw pP mSB_word (23, [some (.inr (some (1))), some (.inl (nI (p))), some (.inl (nI (1))), some (.inl (z)), some (.inl (d)), none], [.inr none], 0, 0, hb (sL L) F G R sO) _
  refine pw_astore (ls1 := [some (.inr (some (1))), some (.inl (nI (p))), some (.inl (nI (1))), some (.inl (z)), some (.inl (d)), some (.inr none)]) rfl (Nat.le_of_ble_eq_true rfl) rfl ?_
  refine pw_aload rfl rfl ?_
  refine pw_ifnonnullN (t := 32) rfl rfl ?_
  refine pw_iconst (v := nI (0)) rfl (by decide) ?_
  exact pw_iret rfl rfl (Nat.zero_le _) (Nat.zero_le _) rfl k
theorem t_bword_in1 {L p sz kk x kd m t ln ct : Nat} {z : Int32} {tx : Nat → Nat} {F G : FN} {R : RN} (hp : p < 4) (hR4 : R 4 p = some (5 + 21 * p)) (hP : pathok L (5 + 21 * p) R) (hsz : F (5 + 21 * p + 9) 1 = nI sz) (hs6 : sz ≤ 6) (hk : kk < sz) (hx : R (5 + 21 * p + 9 + 1) kk = some x) (hsx : (sL L)[x]? = some (2, 1, [0, 0, 0, 0, 0, 0], 0)) (hm : F x 1 = nI m) (hm7 : m ≤ 7) (hln : F 2 1 = nI ln) (hl : ln ≤ 401) (hv : ∀ u, u < ln → G 3 u = nI (if u = ct then 256 else tx u)) (hv2 : ∀ u, u < ln → (if u = ct then 256 else tx u) ≤ 256) (hkd : F x 0 = nI kd) (hk3 : kd ≤ 3) (hmt : 0 < m → F x 3 = nI t) (htm : 0 < m → t + m ≤ ln) {Q : Option PV → PH → Prop} (k : Q (some (.inl (bword_r F x z ((nI (kd * 16384 + p * 4096 + m) <<< (nI 16 &&& 31)) ||| nI (65535 - fold2 (csum tx ct t m 0 (bsum F x (kd * 16384 + p * 4096 + m)))))))) (hb (sL L) F G R sO)) : pz pP mSB_word [.inr (some 1), .inl (nI p), .inl (nI 1), .inl (nI kk), .inl z] (hb (sL L) F G R sO) Q := by
  show pw pP mSB_word (0, [some (.inr (some (1))), some (.inl (nI (p))), some (.inl (nI (1))), some (.inl (nI (kk))), some (.inl (z)), none], [], 0, 0, hb (sL L) F G R sO) _
  refine pw_iload_n rfl rfl ?_
  refine pw_calls (as := [.inl (nI (p))]) (rest := []) rfl rfl (by decide) rfl (Nat.le_of_ble_eq_true rfl) (Nat.le_of_ble_eq_true rfl) (Nat.le_of_ble_eq_true rfl) (Nat.le_of_ble_eq_true rfl) rfl rfl ?_
  refine t_bpath_in hp ?_
  show pw pP mSB_word (4, [some (.inr (some (1))), some (.inl (nI (p))), some (.inl (nI (1))), some (.inl (nI (kk))), some (.inl (z)), none], [.inl (nI (1))], 0, 0, hb (sL L) F G R sO) _
  refine pw_if1 (t := 9) rfl rfl (fun _ => ?_) (fun q => absurd q (by decide))
  refine pw_aload_n rfl rfl ?_
  refine px_getr (r := some (4)) rfl rfl rfl rfl rfl ?_
  refine pw_iload_n rfl rfl ?_
  refine px_aaldn (r := (some (5 + 21 * p))) rfl rfl rfl (by omega) (by decide) (hR4) ?_
  refine pw_iload_n rfl rfl ?_
  refine px_callv (as := [.inr (some (5 + 21 * p)), .inl (nI (1))]) (rest := []) rfl rfl (by decide) rfl (Nat.le_of_ble_eq_true rfl) (Nat.le_of_ble_eq_true rfl) (Nat.le_of_ble_eq_true rfl) (Nat.le_of_ble_eq_true rfl) rfl hP.1 rfl rfl ?_
  refine t_cpipe1 hP ?_
  show pw pP mSB_word (19, [some (.inr (some (1))), some (.inl (nI (p))), some (.inl (nI (1))), some (.inl (nI (kk))), some (.inl (z)), none], [.inr (some (5 + 21 * p + 9))], 0, 0, hb (sL L) F G R sO) _
  refine pw_iload_n rfl rfl ?_
  refine px_callv (as := [.inr (some (5 + 21 * p + 9)), .inl (nI (kk))]) (rest := []) rfl rfl (by decide) rfl (Nat.le_of_ble_eq_true rfl) (Nat.le_of_ble_eq_true rfl) (Nat.le_of_ble_eq_true rfl) (Nat.le_of_ble_eq_true rfl) rfl hP.2.2.2.1.1 rfl rfl ?_
  refine t_copyAt hP.2.2.2.1 hsz hs6 hk hx hsx ?_
  show pw pP mSB_word (23, [some (.inr (some (1))), some (.inl (nI (p))), some (.inl (nI (1))), some (.inl (nI (kk))), some (.inl (z)), none], [.inr (some (x))], 0, 0, hb (sL L) F G R sO) _
  refine pw_astore (ls1 := [some (.inr (some (1))), some (.inl (nI (p))), some (.inl (nI (1))), some (.inl (nI (kk))), some (.inl (z)), some (.inr (some (x)))]) rfl (Nat.le_of_ble_eq_true rfl) rfl ?_
  refine pw_aload rfl rfl ?_
  refine pw_ifnonnull (t := 32) rfl rfl ?_
  refine pw_iload rfl rfl ?_
  by_cases z0 : z = nI 0
  · subst z0
    have e : bword_r F x (nI 0) ((nI (kd * 16384 + p * 4096 + m) <<< (nI 16 &&& 31)) ||| nI (65535 - fold2 (csum tx ct t m 0 (bsum F x (kd * 16384 + p * 4096 + m))))) = ((nI (kd * 16384 + p * 4096 + m) <<< (nI 16 &&& 31)) ||| nI (65535 - fold2 (csum tx ct t m 0 (bsum F x (kd * 16384 + p * 4096 + m))))) := rfl
    rw [e] at k
    refine pw_sw (off := 30) (t := 64) rfl rfl rfl ?_
    refine pw_aload_n rfl rfl ?_
    refine pw_aload rfl rfl ?_
    refine pw_iload_n rfl rfl ?_
    refine px_callv (as := [.inr (some (1)), .inr (some (x)), .inl (nI (p))]) (rest := []) rfl rfl (by decide) rfl (Nat.le_of_ble_eq_true rfl) (Nat.le_of_ble_eq_true rfl) (Nat.le_of_ble_eq_true rfl) (Nat.le_of_ble_eq_true rfl) rfl rfl rfl rfl ?_
    refine t_bhead hsx hm hm7 hln hl hv hv2 hkd hk3 hp hmt htm ?_
    show pw pP mSB_word (71, [some (.inr (some (1))), some (.inl (nI (p))), some (.inl (nI (1))), some (.inl (nI (kk))), some (.inl (nI (0))), some (.inr (some (x)))], [.inl (((nI (kd * 16384 + p * 4096 + m) <<< (nI 16 &&& 31)) ||| nI (65535 - fold2 (csum tx ct t m 0 (bsum F x (kd * 16384 + p * 4096 + m))))))], 0, 0, hb (sL L) F G R sO) _
    exact pw_iret rfl rfl (Nat.zero_le _) (Nat.zero_le _) rfl k
  by_cases z1 : z = nI 1
  · subst z1
    have e : bword_r F x (nI 1) ((nI (kd * 16384 + p * 4096 + m) <<< (nI 16 &&& 31)) ||| nI (65535 - fold2 (csum tx ct t m 0 (bsum F x (kd * 16384 + p * 4096 + m))))) = F x 2 := rfl
    rw [e] at k
    refine pw_sw (off := 38) (t := 72) rfl rfl rfl ?_
    refine pw_aload rfl rfl ?_
    refine px_getv (x := F (x) (2)) rfl rfl hsx rfl (rfl) ?_
    exact pw_iret rfl rfl (Nat.zero_le _) (Nat.zero_le _) rfl k
  by_cases z2 : z = nI 2
  · subst z2
    have e : bword_r F x (nI 2) ((nI (kd * 16384 + p * 4096 + m) <<< (nI 16 &&& 31)) ||| nI (65535 - fold2 (csum tx ct t m 0 (bsum F x (kd * 16384 + p * 4096 + m))))) = F x 3 := rfl
    rw [e] at k
    refine pw_sw (off := 44) (t := 78) rfl rfl rfl ?_
    refine pw_aload rfl rfl ?_
    refine px_getv (x := F (x) (3)) rfl rfl hsx rfl (rfl) ?_
    exact pw_iret rfl rfl (Nat.zero_le _) (Nat.zero_le _) rfl k
  by_cases z3 : z = nI 3
  · subst z3
    have e : bword_r F x (nI 3) ((nI (kd * 16384 + p * 4096 + m) <<< (nI 16 &&& 31)) ||| nI (65535 - fold2 (csum tx ct t m 0 (bsum F x (kd * 16384 + p * 4096 + m))))) = F x 4 := rfl
    rw [e] at k
    refine pw_sw (off := 50) (t := 84) rfl rfl rfl ?_
    refine pw_aload rfl rfl ?_
    refine px_getv (x := F (x) (4)) rfl rfl hsx rfl (rfl) ?_
    exact pw_iret rfl rfl (Nat.zero_le _) (Nat.zero_le _) rfl k
  have e : bword_r F x z ((nI (kd * 16384 + p * 4096 + m) <<< (nI 16 &&& 31)) ||| nI (65535 - fold2 (csum tx ct t m 0 (bsum F x (kd * 16384 + p * 4096 + m))))) = nI 0 := by
    unfold bword_r
    rw [if_pos (fun h => z0 (h.trans nI_0.symm)), if_pos z1, if_pos z2, if_pos z3]
  rw [e] at k
  refine pw_sw (off := 56) (t := 90) rfl (if_pos (sw_out z0 z1 z2 z3)) rfl ?_
  refine pw_iconst (v := nI (0)) rfl (by decide) ?_
  exact pw_iret rfl rfl (Nat.zero_le _) (Nat.zero_le _) rfl k
