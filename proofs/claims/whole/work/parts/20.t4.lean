/-! THE REFERENCE, fourth part: the calls that look, lose, double. Rows laid by a program (wip/whole/gen/twin4.py). -/
/-- SBModel_there -/
def there_in0_r  : Int32 := nI (1)
theorem t_there_in0 {L p kk fl : Nat} {F G : FN} {R : RN} (hp : p < 4) (hfl : G 124 (2 * p) = nI fl) (hf : fl ≤ 6) (hk : kk < fl) {Q : Option PV → PH → Prop} (k : Q (some (.inl (there_in0_r ))) (hb (sL L) F G R sO)) : pz pP mSBModel_there [.inr (some (103)), .inl (nI (p)), .inl (nI (0)), .inl (nI (kk))] (hb (sL L) F G R sO) Q := by
  show pw pP mSBModel_there (0, [some (.inr (some (103))), some (.inl (nI (p))), some (.inl (nI (0))), some (.inl (nI (kk)))], [], 0, 0, hb (sL L) F G R sO) _
  refine pw_iload_n rfl rfl ?_
  refine pw_calls (as := [.inl (nI (p))]) (rest := []) rfl rfl (by decide) rfl (Nat.le_of_ble_eq_true rfl) (Nat.le_of_ble_eq_true rfl) (Nat.le_of_ble_eq_true rfl) (Nat.le_of_ble_eq_true rfl) rfl rfl ?_
  refine t_path_in hp ?_
  show pw pP mSBModel_there (4, [some (.inr (some (103))), some (.inl (nI (p))), some (.inl (nI (0))), some (.inl (nI (kk)))], [.inl (nI (1))], 0, 0, hb (sL L) F G R sO) _
  refine pw_if1 (t := 39) rfl rfl (fun q => absurd q (by decide)) (fun _ => ?_)
  refine pw_iload_n rfl rfl ?_
  refine pw_if1p (cz_lt (by omega)) rfl (t := 39) rfl (fun q => absurd q (by omega)) (fun _ => ?_)
  refine pw_iload_n rfl rfl ?_
  refine pw_aload_n rfl rfl ?_
  refine px_getr (r := some (124)) rfl rfl rfl rfl rfl ?_
  refine pw_iload_n rfl rfl ?_
  refine pw_if1 (t := 28) rfl rfl (fun _ => ?_) (fun q => absurd q (by decide))
  refine pw_iconst (v := nI (2)) rfl (by decide) ?_
  refine pw_iload_n rfl rfl ?_
  refine pw_imul (z := nI (2 * p)) rfl (pk_mul _ _) ?_
  refine px_ialdn (x := nI (fl)) rfl rfl (by omega) (by decide) (hfl) ?_
  refine pw_if2p (cn_ge (by omega) (by omega)) rfl (t := 39) rfl (fun q => absurd q (by omega)) (fun _ => ?_)
  refine pw_iconst (v := nI (1)) rfl (by decide) ?_
  refine pw_goto (t := 40) rfl rfl ?_
  exact pw_iret rfl rfl (Nat.zero_le _) (Nat.zero_le _) rfl k
theorem t_there_out0 {L p fl : Nat} {x : Int32} {F G : FN} {R : RN} (hp : p < 4) (hfl : G 124 (2 * p) = nI fl) (hk : x < 0 ∨ nI fl ≤ x) {Q : Option PV → PH → Prop} (k : Q (some (.inl (nI (0)))) (hb (sL L) F G R sO)) : pz pP mSBModel_there [.inr (some (103)), .inl (nI (p)), .inl (nI (0)), .inl (x)] (hb (sL L) F G R sO) Q := by
  show pw pP mSBModel_there (0, [some (.inr (some (103))), some (.inl (nI (p))), some (.inl (nI (0))), some (.inl (x))], [], 0, 0, hb (sL L) F G R sO) _
  refine pw_iload_n rfl rfl ?_
  refine pw_calls (as := [.inl (nI (p))]) (rest := []) rfl rfl (by decide) rfl (Nat.le_of_ble_eq_true rfl) (Nat.le_of_ble_eq_true rfl) (Nat.le_of_ble_eq_true rfl) (Nat.le_of_ble_eq_true rfl) rfl rfl ?_
  refine t_path_in hp ?_
  show pw pP mSBModel_there (4, [some (.inr (some (103))), some (.inl (nI (p))), some (.inl (nI (0))), some (.inl (x))], [.inl (nI (1))], 0, 0, hb (sL L) F G R sO) _
  refine pw_if1 (t := 39) rfl rfl (fun q => absurd q (by decide)) (fun _ => ?_)
  refine pw_iload_n rfl rfl ?_
  refine pw_if1p (A := x < 0) rfl rfl (t := 39) rfl (fun c1 => ?_) (fun c1 => ?_)
  · -- 39
    refine pw_iconst (v := nI (0)) rfl (by decide) ?_
    exact pw_iret rfl rfl (Nat.zero_le _) (Nat.zero_le _) rfl k
  · -- 11
    refine pw_iload_n rfl rfl ?_
    refine pw_aload_n rfl rfl ?_
    refine px_getr (r := some (124)) rfl rfl rfl rfl rfl ?_
    refine pw_iload_n rfl rfl ?_
    refine pw_if1 (t := 28) rfl rfl (fun _ => ?_) (fun q => absurd q (by decide))
    refine pw_iconst (v := nI (2)) rfl (by decide) ?_
    refine pw_iload_n rfl rfl ?_
    refine pw_imul (z := nI (2 * p)) rfl (pk_mul _ _) ?_
    refine px_ialdn (x := nI (fl)) rfl rfl (by omega) (by decide) (hfl) ?_
    refine pw_if2p (A := nI (fl) ≤ x) rfl rfl (t := 39) rfl (fun c2 => ?_) (fun c2 => ?_)
    · -- 39
      refine pw_iconst (v := nI (0)) rfl (by decide) ?_
      exact pw_iret rfl rfl (Nat.zero_le _) (Nat.zero_le _) rfl k
    · -- 35
      refine pw_iconst (v := nI (1)) rfl (by decide) ?_
      refine pw_goto (t := 40) rfl rfl ?_
      exact absurd (hk.resolve_left c1) c2
/-- SBModel_flight -/
def flight0_r (G : FN) (p : Nat) : Int32 := G (124) (2 * p)
theorem t_flight0 {L p : Nat} {F G : FN} {R : RN} (hp : p < 4) {Q : Option PV → PH → Prop} (k : Q (some (.inl (flight0_r G p))) (hb (sL L) F G R sO)) : pz pP mSBModel_flight [.inr (some (103)), .inl (nI (p)), .inl (nI (0))] (hb (sL L) F G R sO) Q := by
  show pw pP mSBModel_flight (0, [some (.inr (some (103))), some (.inl (nI (p))), some (.inl (nI (0)))], [], 0, 0, hb (sL L) F G R sO) _
  refine pw_iload_n rfl rfl ?_
  refine pw_calls (as := [.inl (nI (p))]) (rest := []) rfl rfl (by decide) rfl (Nat.le_of_ble_eq_true rfl) (Nat.le_of_ble_eq_true rfl) (Nat.le_of_ble_eq_true rfl) (Nat.le_of_ble_eq_true rfl) rfl rfl ?_
  refine t_path_in hp ?_
  show pw pP mSBModel_flight (4, [some (.inr (some (103))), some (.inl (nI (p))), some (.inl (nI (0)))], [.inl (nI (1))], 0, 0, hb (sL L) F G R sO) _
  refine pw_if1 (t := 30) rfl rfl (fun q => absurd q (by decide)) (fun _ => ?_)
  refine pw_aload_n rfl rfl ?_
  refine px_getr (r := some (124)) rfl rfl rfl rfl rfl ?_
  refine pw_iload_n rfl rfl ?_
  refine pw_if1 (t := 23) rfl rfl (fun _ => ?_) (fun q => absurd q (by decide))
  refine pw_iconst (v := nI (2)) rfl (by decide) ?_
  refine pw_iload_n rfl rfl ?_
  refine pw_imul (z := nI (2 * p)) rfl (pk_mul _ _) ?_
  refine px_ialdn (x := G (124) (2 * p)) rfl rfl (by omega) (by decide) (rfl) ?_
  refine pw_goto (t := 31) rfl rfl ?_
  exact pw_iret rfl rfl (Nat.zero_le _) (Nat.zero_le _) rfl k
/-- SBModel_there -/
def there_no0_r  : Int32 := nI (0)
theorem t_there_no0 {L : Nat} {p x : Int32} {F G : FN} {R : RN} (hp : p < 0 ∨ nI 4 ≤ p) {Q : Option PV → PH → Prop} (k : Q (some (.inl (there_no0_r ))) (hb (sL L) F G R sO)) : pz pP mSBModel_there [.inr (some (103)), .inl (p), .inl (nI (0)), .inl (x)] (hb (sL L) F G R sO) Q := by
  show pw pP mSBModel_there (0, [some (.inr (some (103))), some (.inl (p)), some (.inl (nI (0))), some (.inl (x))], [], 0, 0, hb (sL L) F G R sO) _
  refine pw_iload_n rfl rfl ?_
  refine pw_calls (as := [.inl (p)]) (rest := []) rfl rfl (by decide) rfl (Nat.le_of_ble_eq_true rfl) (Nat.le_of_ble_eq_true rfl) (Nat.le_of_ble_eq_true rfl) (Nat.le_of_ble_eq_true rfl) rfl rfl ?_
  refine t_path_out hp ?_
  show pw pP mSBModel_there (4, [some (.inr (some (103))), some (.inl (p)), some (.inl (nI (0))), some (.inl (x))], [.inl (nI (0))], 0, 0, hb (sL L) F G R sO) _
  refine pw_if1 (t := 39) rfl rfl (fun _ => ?_) (fun q => absurd q (by decide))
  refine pw_iconst (v := nI (0)) rfl (by decide) ?_
  exact pw_iret rfl rfl (Nat.zero_le _) (Nat.zero_le _) rfl k
/-- SBModel_flight -/
def flight_no0_r  : Int32 := (-1)
theorem t_flight_no0 {L : Nat} {p : Int32} {F G : FN} {R : RN} (hp : p < 0 ∨ nI 4 ≤ p) {Q : Option PV → PH → Prop} (k : Q (some (.inl (flight_no0_r ))) (hb (sL L) F G R sO)) : pz pP mSBModel_flight [.inr (some (103)), .inl (p), .inl (nI (0))] (hb (sL L) F G R sO) Q := by
  show pw pP mSBModel_flight (0, [some (.inr (some (103))), some (.inl (p)), some (.inl (nI (0)))], [], 0, 0, hb (sL L) F G R sO) _
  refine pw_iload_n rfl rfl ?_
  refine pw_calls (as := [.inl (p)]) (rest := []) rfl rfl (by decide) rfl (Nat.le_of_ble_eq_true rfl) (Nat.le_of_ble_eq_true rfl) (Nat.le_of_ble_eq_true rfl) (Nat.le_of_ble_eq_true rfl) rfl rfl ?_
  refine t_path_out hp ?_
  show pw pP mSBModel_flight (4, [some (.inr (some (103))), some (.inl (p)), some (.inl (nI (0)))], [.inl (nI (0))], 0, 0, hb (sL L) F G R sO) _
  refine pw_if1 (t := 30) rfl rfl (fun _ => ?_) (fun q => absurd q (by decide))
  refine pw_iconst (v := (-1)) rfl (by decide) ?_
  exact pw_iret rfl rfl (Nat.zero_le _) (Nat.zero_le _) rfl k
/-- SBModel_lose -/
def lose_in0_r (G : FN) (p fl kk : Nat) : Int32 := nI (1)
/-- SBModel_lose -/
def lose_in0_G (G : FN) (p fl kk : Nat) : FN := (tdrop G (2 * p) fl kk)
theorem t_lose_in0 {L p kk fl : Nat} {F G : FN} {R : RN} (hp : p < 4) (hfl : G 124 (2 * p) = nI fl) (hf : fl ≤ 6) (hk : kk < fl) {Q : Option PV → PH → Prop} (k : Q (some (.inl (lose_in0_r G p fl kk))) (hb (sL L) F (lose_in0_G G p fl kk) R sO)) : pz pP mSBModel_lose [.inr (some (103)), .inl (nI (p)), .inl (nI (0)), .inl (nI (kk))] (hb (sL L) F G R sO) Q := by
  show pw pP mSBModel_lose (0, [some (.inr (some (103))), some (.inl (nI (p))), some (.inl (nI (0))), some (.inl (nI (kk))), none], [], 0, 0, hb (sL L) F G R sO) _
  refine pw_aload_n rfl rfl ?_
  refine pw_iload_n rfl rfl ?_
  refine pw_iload_n rfl rfl ?_
  refine pw_iload_n rfl rfl ?_
  refine px_callv (as := [.inr (some (103)), .inl (nI (p)), .inl (nI (0)), .inl (nI (kk))]) (rest := []) rfl rfl (by decide) rfl (Nat.le_of_ble_eq_true rfl) (Nat.le_of_ble_eq_true rfl) (Nat.le_of_ble_eq_true rfl) (Nat.le_of_ble_eq_true rfl) rfl rfl rfl rfl ?_
  refine t_there_in0 hp hfl hf hk ?_
  show pw pP mSBModel_lose (7, [some (.inr (some (103))), some (.inl (nI (p))), some (.inl (nI (0))), some (.inl (nI (kk))), none], [.inl (nI (1))], 0, 0, hb (sL L) F G R sO) _
  refine pw_istore (ls1 := [some (.inr (some (103))), some (.inl (nI (p))), some (.inl (nI (0))), some (.inl (nI (kk))), some (.inl (nI (1)))]) rfl (Nat.le_of_ble_eq_true rfl) rfl ?_
  refine pw_iload rfl rfl ?_
  refine pw_if1 (t := 34) rfl rfl (fun q => absurd q (by decide)) (fun _ => ?_)
  refine pw_aload_n rfl rfl ?_
  refine pw_iload_n rfl rfl ?_
  refine pw_if1 (t := 27) rfl rfl (fun _ => ?_) (fun q => absurd q (by decide))
  refine pw_iconst (v := nI (2)) rfl (by decide) ?_
  refine pw_iload_n rfl rfl ?_
  refine pw_imul (z := nI (2 * p)) rfl (pk_mul _ _) ?_
  refine pw_iload_n rfl rfl ?_
  refine px_callv (as := [.inr (some (103)), .inl (nI (2 * p)), .inl (nI (kk))]) (rest := []) rfl rfl (by decide) rfl (Nat.le_of_ble_eq_true rfl) (Nat.le_of_ble_eq_true rfl) (Nat.le_of_ble_eq_true rfl) (Nat.le_of_ble_eq_true rfl) rfl rfl rfl rfl ?_
  refine t_drop (by omega) hfl hf hk ?_
  show pw pP mSBModel_lose (34, [some (.inr (some (103))), some (.inl (nI (p))), some (.inl (nI (0))), some (.inl (nI (kk))), some (.inl (nI (1)))], [], 0, 0, hb (sL L) F (tdrop G (2 * p) fl kk) R sO) _
  refine pw_iload rfl rfl ?_
  exact pw_iret rfl rfl (Nat.zero_le _) (Nat.zero_le _) rfl k
/-- SBModel_lose -/
def lose_out0_r  : Int32 := nI (0)
theorem t_lose_out0 {L p fl : Nat} {x : Int32} {F G : FN} {R : RN} (hp : p < 4) (hfl : G 124 (2 * p) = nI fl) (hk : x < 0 ∨ nI fl ≤ x) {Q : Option PV → PH → Prop} (k : Q (some (.inl (lose_out0_r ))) (hb (sL L) F G R sO)) : pz pP mSBModel_lose [.inr (some (103)), .inl (nI (p)), .inl (nI (0)), .inl (x)] (hb (sL L) F G R sO) Q := by
  show pw pP mSBModel_lose (0, [some (.inr (some (103))), some (.inl (nI (p))), some (.inl (nI (0))), some (.inl (x)), none], [], 0, 0, hb (sL L) F G R sO) _
  refine pw_aload_n rfl rfl ?_
  refine pw_iload_n rfl rfl ?_
  refine pw_iload_n rfl rfl ?_
  refine pw_iload_n rfl rfl ?_
  refine px_callv (as := [.inr (some (103)), .inl (nI (p)), .inl (nI (0)), .inl (x)]) (rest := []) rfl rfl (by decide) rfl (Nat.le_of_ble_eq_true rfl) (Nat.le_of_ble_eq_true rfl) (Nat.le_of_ble_eq_true rfl) (Nat.le_of_ble_eq_true rfl) rfl rfl rfl rfl ?_
  refine t_there_out0 hp hfl hk ?_
  show pw pP mSBModel_lose (7, [some (.inr (some (103))), some (.inl (nI (p))), some (.inl (nI (0))), some (.inl (x)), none], [.inl (nI (0))], 0, 0, hb (sL L) F G R sO) _
  refine pw_istore (ls1 := [some (.inr (some (103))), some (.inl (nI (p))), some (.inl (nI (0))), some (.inl (x)), some (.inl (nI (0)))]) rfl (Nat.le_of_ble_eq_true rfl) rfl ?_
  refine pw_iload rfl rfl ?_
  refine pw_if1 (t := 34) rfl rfl (fun _ => ?_) (fun q => absurd q (by decide))
  refine pw_iload rfl rfl ?_
  exact pw_iret rfl rfl (Nat.zero_le _) (Nat.zero_le _) rfl k
/-- SBModel_lose -/
def lose_no0_r  : Int32 := nI (0)
theorem t_lose_no0 {L : Nat} {p x : Int32} {F G : FN} {R : RN} (hp : p < 0 ∨ nI 4 ≤ p) {Q : Option PV → PH → Prop} (k : Q (some (.inl (lose_no0_r ))) (hb (sL L) F G R sO)) : pz pP mSBModel_lose [.inr (some (103)), .inl (p), .inl (nI (0)), .inl (x)] (hb (sL L) F G R sO) Q := by
  show pw pP mSBModel_lose (0, [some (.inr (some (103))), some (.inl (p)), some (.inl (nI (0))), some (.inl (x)), none], [], 0, 0, hb (sL L) F G R sO) _
  refine pw_aload_n rfl rfl ?_
  refine pw_iload_n rfl rfl ?_
  refine pw_iload_n rfl rfl ?_
  refine pw_iload_n rfl rfl ?_
  refine px_callv (as := [.inr (some (103)), .inl (p), .inl (nI (0)), .inl (x)]) (rest := []) rfl rfl (by decide) rfl (Nat.le_of_ble_eq_true rfl) (Nat.le_of_ble_eq_true rfl) (Nat.le_of_ble_eq_true rfl) (Nat.le_of_ble_eq_true rfl) rfl rfl rfl rfl ?_
  refine t_there_no0 hp ?_
  show pw pP mSBModel_lose (7, [some (.inr (some (103))), some (.inl (p)), some (.inl (nI (0))), some (.inl (x)), none], [.inl (nI (0))], 0, 0, hb (sL L) F G R sO) _
  refine pw_istore (ls1 := [some (.inr (some (103))), some (.inl (p)), some (.inl (nI (0))), some (.inl (x)), some (.inl (nI (0)))]) rfl (Nat.le_of_ble_eq_true rfl) rfl ?_
  refine pw_iload rfl rfl ?_
  refine pw_if1 (t := 34) rfl rfl (fun _ => ?_) (fun q => absurd q (by decide))
  refine pw_iload rfl rfl ?_
  exact pw_iret rfl rfl (Nat.zero_le _) (Nat.zero_le _) rfl k
/-- SBModel_twice -/
def twice_in0_r (F G : FN) (p fl kk : Nat) (z : Int32) : Int32 := (if z < nI (1) then nI (0) else (if z ≤ nI (40) then (if fl < 6 then nI (1) else nI (0)) else nI (0)))
/-- SBModel_twice -/
def twice_in0_G (F G : FN) (p fl kk : Nat) (z : Int32) : FN := (if z < nI (1) then G else (if z ≤ nI (40) then (if fl < 6 then (tput G (2 * p) fl (G (125) (6 * (2 * p) + kk)) (G (126) (6 * (2 * p) + kk)) (G (127) (6 * (2 * p) + kk)) (G (128) (6 * (2 * p) + kk)) (G (129) (6 * (2 * p) + kk)) ((F (103) (3)) + z)) else G) else G))
theorem t_twice_in0 {L p kk fl : Nat} {z : Int32} {F G : FN} {R : RN} (hp : p < 4) (hfl : G 124 (2 * p) = nI fl) (hf : fl ≤ 6) (hk : kk < fl) {Q : Option PV → PH → Prop} (k : Q (some (.inl (twice_in0_r F G p fl kk z))) (hb (sL L) F (twice_in0_G F G p fl kk z) R sO)) : pz pP mSBModel_twice [.inr (some (103)), .inl (nI (p)), .inl (nI (0)), .inl (nI (kk)), .inl (z)] (hb (sL L) F G R sO) Q := by
  show pw pP mSBModel_twice (0, [some (.inr (some (103))), some (.inl (nI (p))), some (.inl (nI (0))), some (.inl (nI (kk))), some (.inl (z)), none, none], [], 0, 0, hb (sL L) F G R sO) _
  refine pw_aload_n rfl rfl ?_
  refine pw_iload_n rfl rfl ?_
  refine pw_iload_n rfl rfl ?_
  refine pw_iload_n rfl rfl ?_
  refine px_callv (as := [.inr (some (103)), .inl (nI (p)), .inl (nI (0)), .inl (nI (kk))]) (rest := []) rfl rfl (by decide) rfl (Nat.le_of_ble_eq_true rfl) (Nat.le_of_ble_eq_true rfl) (Nat.le_of_ble_eq_true rfl) (Nat.le_of_ble_eq_true rfl) rfl rfl rfl rfl ?_
  refine t_there_in0 hp hfl hf hk ?_
  show pw pP mSBModel_twice (7, [some (.inr (some (103))), some (.inl (nI (p))), some (.inl (nI (0))), some (.inl (nI (kk))), some (.inl (z)), none, none], [.inl (nI (1))], 0, 0, hb (sL L) F G R sO) _
  refine pw_if1 (t := 23) rfl rfl (fun q => absurd q (by decide)) (fun _ => ?_)
  refine pw_iload rfl rfl ?_
  refine pw_iconst (v := nI (1)) rfl (by decide) ?_
  refine pw_if2p (A := z < nI (1)) rfl rfl (t := 23) rfl (fun c1 => ?_) (fun c1 => ?_)
  · -- 23
    refine pw_iconst (v := nI (0)) rfl (by decide) ?_
    exact pw_iret rfl rfl (Nat.zero_le _) (Nat.zero_le _) rfl (by simp only [twice_in0_r, twice_in0_G, c1, if_true, if_false] at k; exact k)
  · -- 16
    refine pw_iload rfl rfl ?_
    refine pw_bipush (v := nI (40)) rfl (by decide) ?_
    refine pw_if2p (A := z ≤ nI (40)) rfl rfl (t := 25) rfl (fun c2 => ?_) (fun c2 => ?_)
    · -- 25
      refine pw_iload_n rfl rfl ?_
      refine pw_if1 (t := 37) rfl rfl (fun _ => ?_) (fun q => absurd q (by decide))
      refine pw_iconst (v := nI (2)) rfl (by decide) ?_
      refine pw_iload_n rfl rfl ?_
      refine pw_imul (z := nI (2 * p)) rfl (pk_mul _ _) ?_
      refine pw_istore (ls1 := [some (.inr (some (103))), some (.inl (nI (p))), some (.inl (nI (0))), some (.inl (nI (kk))), some (.inl (z)), some (.inl (nI (2 * p))), none]) rfl (Nat.le_of_ble_eq_true rfl) rfl ?_
      refine pw_aload_n rfl rfl ?_
      refine px_getr (r := some (124)) rfl rfl rfl rfl rfl ?_
      refine pw_iload rfl rfl ?_
      refine px_ialdn (x := nI (fl)) rfl rfl (by omega) (by decide) (hfl) ?_
      refine pw_bipush (v := nI (6)) rfl (by decide) ?_
      refine pw_if2p (cn_lt (by omega) (by omega)) rfl (t := 56) rfl (fun c3 => ?_) (fun c3 => ?_)
      · -- 56
        refine pw_bipush (v := nI (6)) rfl (by decide) ?_
        refine pw_iload rfl rfl ?_
        refine pw_imul (z := nI (6 * (2 * p))) rfl (pk_mul _ _) ?_
        refine pw_iload_n rfl rfl ?_
        refine pw_iadd (z := nI (6 * (2 * p) + kk)) rfl (nI_add _ _) ?_
        refine pw_istore (ls1 := [some (.inr (some (103))), some (.inl (nI (p))), some (.inl (nI (0))), some (.inl (nI (kk))), some (.inl (z)), some (.inl (nI (2 * p))), some (.inl (nI (6 * (2 * p) + kk)))]) rfl (Nat.le_of_ble_eq_true rfl) rfl ?_
        refine pw_aload_n rfl rfl ?_
        refine pw_iload rfl rfl ?_
        refine pw_aload_n rfl rfl ?_
        refine px_getr (r := some (125)) rfl rfl rfl rfl rfl ?_
        refine pw_iload rfl rfl ?_
        refine px_ialdn (x := G (125) (6 * (2 * p) + kk)) rfl rfl (by omega) (by decide) (rfl) ?_
        refine pw_aload_n rfl rfl ?_
        refine px_getr (r := some (126)) rfl rfl rfl rfl rfl ?_
        refine pw_iload rfl rfl ?_
        refine px_ialdn (x := G (126) (6 * (2 * p) + kk)) rfl rfl (by omega) (by decide) (rfl) ?_
        refine pw_aload_n rfl rfl ?_
        refine px_getr (r := some (127)) rfl rfl rfl rfl rfl ?_
        refine pw_iload rfl rfl ?_
        refine px_ialdn (x := G (127) (6 * (2 * p) + kk)) rfl rfl (by omega) (by decide) (rfl) ?_
        refine pw_aload_n rfl rfl ?_
        refine px_getr (r := some (128)) rfl rfl rfl rfl rfl ?_
        refine pw_iload rfl rfl ?_
        refine px_ialdn (x := G (128) (6 * (2 * p) + kk)) rfl rfl (by omega) (by decide) (rfl) ?_
        refine pw_aload_n rfl rfl ?_
        refine px_getr (r := some (129)) rfl rfl rfl rfl rfl ?_
        refine pw_iload rfl rfl ?_
        refine px_ialdn (x := G (129) (6 * (2 * p) + kk)) rfl rfl (by omega) (by decide) (rfl) ?_
        refine pw_aload_n rfl rfl ?_
        refine px_getv (x := F (103) (3)) rfl rfl rfl rfl (rfl) ?_
        refine pw_iload rfl rfl ?_
        refine pw_iadd (z := (F (103) (3)) + z) rfl rfl ?_
        refine px_callv (as := [.inr (some (103)), .inl (nI (2 * p)), .inl (G (125) (6 * (2 * p) + kk)), .inl (G (126) (6 * (2 * p) + kk)), .inl (G (127) (6 * (2 * p) + kk)), .inl (G (128) (6 * (2 * p) + kk)), .inl (G (129) (6 * (2 * p) + kk)), .inl ((F (103) (3)) + z)]) (rest := []) rfl rfl (by decide) rfl (Nat.le_of_ble_eq_true rfl) (Nat.le_of_ble_eq_true rfl) (Nat.le_of_ble_eq_true rfl) (Nat.le_of_ble_eq_true rfl) rfl rfl rfl rfl ?_
        refine t_put (by omega) hfl (by omega) ?_
        show pw pP mSBModel_twice (113, [some (.inr (some (103))), some (.inl (nI (p))), some (.inl (nI (0))), some (.inl (nI (kk))), some (.inl (z)), some (.inl (nI (2 * p))), some (.inl (nI (6 * (2 * p) + kk)))], [], 0, 0, hb (sL L) F (tput G (2 * p) fl (G (125) (6 * (2 * p) + kk)) (G (126) (6 * (2 * p) + kk)) (G (127) (6 * (2 * p) + kk)) (G (128) (6 * (2 * p) + kk)) (G (129) (6 * (2 * p) + kk)) ((F (103) (3)) + z)) R sO) _
        refine pw_iconst (v := nI (1)) rfl (by decide) ?_
        exact pw_iret rfl rfl (Nat.zero_le _) (Nat.zero_le _) rfl (by simp only [twice_in0_r, twice_in0_G, c1, c2, c3, if_true, if_false] at k; exact k)
      · -- 54
        refine pw_iconst (v := nI (0)) rfl (by decide) ?_
        exact pw_iret rfl rfl (Nat.zero_le _) (Nat.zero_le _) rfl (by simp only [twice_in0_r, twice_in0_G, c1, c2, c3, if_true, if_false] at k; exact k)
    · -- 23
      refine pw_iconst (v := nI (0)) rfl (by decide) ?_
      exact pw_iret rfl rfl (Nat.zero_le _) (Nat.zero_le _) rfl (by simp only [twice_in0_r, twice_in0_G, c1, c2, if_true, if_false] at k; exact k)
/-- SBModel_twice -/
def twice_out0_r  : Int32 := nI (0)
theorem t_twice_out0 {L p fl : Nat} {x z : Int32} {F G : FN} {R : RN} (hp : p < 4) (hfl : G 124 (2 * p) = nI fl) (hk : x < 0 ∨ nI fl ≤ x) {Q : Option PV → PH → Prop} (k : Q (some (.inl (twice_out0_r ))) (hb (sL L) F G R sO)) : pz pP mSBModel_twice [.inr (some (103)), .inl (nI (p)), .inl (nI (0)), .inl (x), .inl (z)] (hb (sL L) F G R sO) Q := by
  show pw pP mSBModel_twice (0, [some (.inr (some (103))), some (.inl (nI (p))), some (.inl (nI (0))), some (.inl (x)), some (.inl (z)), none, none], [], 0, 0, hb (sL L) F G R sO) _
  refine pw_aload_n rfl rfl ?_
  refine pw_iload_n rfl rfl ?_
  refine pw_iload_n rfl rfl ?_
  refine pw_iload_n rfl rfl ?_
  refine px_callv (as := [.inr (some (103)), .inl (nI (p)), .inl (nI (0)), .inl (x)]) (rest := []) rfl rfl (by decide) rfl (Nat.le_of_ble_eq_true rfl) (Nat.le_of_ble_eq_true rfl) (Nat.le_of_ble_eq_true rfl) (Nat.le_of_ble_eq_true rfl) rfl rfl rfl rfl ?_
  refine t_there_out0 hp hfl hk ?_
  show pw pP mSBModel_twice (7, [some (.inr (some (103))), some (.inl (nI (p))), some (.inl (nI (0))), some (.inl (x)), some (.inl (z)), none, none], [.inl (nI (0))], 0, 0, hb (sL L) F G R sO) _
  refine pw_if1 (t := 23) rfl rfl (fun _ => ?_) (fun q => absurd q (by decide))
  refine pw_iconst (v := nI (0)) rfl (by decide) ?_
  exact pw_iret rfl rfl (Nat.zero_le _) (Nat.zero_le _) rfl k
/-- SBModel_twice -/
def twice_no0_r  : Int32 := nI (0)
theorem t_twice_no0 {L : Nat} {p x z : Int32} {F G : FN} {R : RN} (hp : p < 0 ∨ nI 4 ≤ p) {Q : Option PV → PH → Prop} (k : Q (some (.inl (twice_no0_r ))) (hb (sL L) F G R sO)) : pz pP mSBModel_twice [.inr (some (103)), .inl (p), .inl (nI (0)), .inl (x), .inl (z)] (hb (sL L) F G R sO) Q := by
  show pw pP mSBModel_twice (0, [some (.inr (some (103))), some (.inl (p)), some (.inl (nI (0))), some (.inl (x)), some (.inl (z)), none, none], [], 0, 0, hb (sL L) F G R sO) _
  refine pw_aload_n rfl rfl ?_
  refine pw_iload_n rfl rfl ?_
  refine pw_iload_n rfl rfl ?_
  refine pw_iload_n rfl rfl ?_
  refine px_callv (as := [.inr (some (103)), .inl (p), .inl (nI (0)), .inl (x)]) (rest := []) rfl rfl (by decide) rfl (Nat.le_of_ble_eq_true rfl) (Nat.le_of_ble_eq_true rfl) (Nat.le_of_ble_eq_true rfl) (Nat.le_of_ble_eq_true rfl) rfl rfl rfl rfl ?_
  refine t_there_no0 hp ?_
  show pw pP mSBModel_twice (7, [some (.inr (some (103))), some (.inl (p)), some (.inl (nI (0))), some (.inl (x)), some (.inl (z)), none, none], [.inl (nI (0))], 0, 0, hb (sL L) F G R sO) _
  refine pw_if1 (t := 23) rfl rfl (fun _ => ?_) (fun q => absurd q (by decide))
  refine pw_iconst (v := nI (0)) rfl (by decide) ?_
  exact pw_iret rfl rfl (Nat.zero_le _) (Nat.zero_le _) rfl k
/-- SBModel_there -/
def there_in1_r  : Int32 := nI (1)
theorem t_there_in1 {L p kk fl : Nat} {F G : FN} {R : RN} (hp : p < 4) (hfl : G 124 (2 * p + 1) = nI fl) (hf : fl ≤ 6) (hk : kk < fl) {Q : Option PV → PH → Prop} (k : Q (some (.inl (there_in1_r ))) (hb (sL L) F G R sO)) : pz pP mSBModel_there [.inr (some (103)), .inl (nI (p)), .inl (nI (1)), .inl (nI (kk))] (hb (sL L) F G R sO) Q := by
  show pw pP mSBModel_there (0, [some (.inr (some (103))), some (.inl (nI (p))), some (.inl (nI (1))), some (.inl (nI (kk)))], [], 0, 0, hb (sL L) F G R sO) _
  refine pw_iload_n rfl rfl ?_
  refine pw_calls (as := [.inl (nI (p))]) (rest := []) rfl rfl (by decide) rfl (Nat.le_of_ble_eq_true rfl) (Nat.le_of_ble_eq_true rfl) (Nat.le_of_ble_eq_true rfl) (Nat.le_of_ble_eq_true rfl) rfl rfl ?_
  refine t_path_in hp ?_
  show pw pP mSBModel_there (4, [some (.inr (some (103))), some (.inl (nI (p))), some (.inl (nI (1))), some (.inl (nI (kk)))], [.inl (nI (1))], 0, 0, hb (sL L) F G R sO) _
  refine pw_if1 (t := 39) rfl rfl (fun q => absurd q (by decide)) (fun _ => ?_)
  refine pw_iload_n rfl rfl ?_
  refine pw_if1p (cz_lt (by omega)) rfl (t := 39) rfl (fun q => absurd q (by omega)) (fun _ => ?_)
  refine pw_iload_n rfl rfl ?_
  refine pw_aload_n rfl rfl ?_
  refine px_getr (r := some (124)) rfl rfl rfl rfl rfl ?_
  refine pw_iload_n rfl rfl ?_
  refine pw_if1 (t := 28) rfl rfl (fun q => absurd q (by decide)) (fun _ => ?_)
  refine pw_iconst (v := nI (2)) rfl (by decide) ?_
  refine pw_iload_n rfl rfl ?_
  refine pw_imul (z := nI (2 * p)) rfl (pk_mul _ _) ?_
  refine pw_iconst (v := nI (1)) rfl (by decide) ?_
  refine pw_iadd (z := nI (2 * p + 1)) rfl (nI_add _ _) ?_
  refine pw_goto (t := 31) rfl rfl ?_
  refine px_ialdn (x := nI (fl)) rfl rfl (by omega) (by decide) (hfl) ?_
  refine pw_if2p (cn_ge (by omega) (by omega)) rfl (t := 39) rfl (fun q => absurd q (by omega)) (fun _ => ?_)
  refine pw_iconst (v := nI (1)) rfl (by decide) ?_
  refine pw_goto (t := 40) rfl rfl ?_
  exact pw_iret rfl rfl (Nat.zero_le _) (Nat.zero_le _) rfl k
theorem t_there_out1 {L p fl : Nat} {x : Int32} {F G : FN} {R : RN} (hp : p < 4) (hfl : G 124 (2 * p + 1) = nI fl) (hk : x < 0 ∨ nI fl ≤ x) {Q : Option PV → PH → Prop} (k : Q (some (.inl (nI (0)))) (hb (sL L) F G R sO)) : pz pP mSBModel_there [.inr (some (103)), .inl (nI (p)), .inl (nI (1)), .inl (x)] (hb (sL L) F G R sO) Q := by
  show pw pP mSBModel_there (0, [some (.inr (some (103))), some (.inl (nI (p))), some (.inl (nI (1))), some (.inl (x))], [], 0, 0, hb (sL L) F G R sO) _
  refine pw_iload_n rfl rfl ?_
  refine pw_calls (as := [.inl (nI (p))]) (rest := []) rfl rfl (by decide) rfl (Nat.le_of_ble_eq_true rfl) (Nat.le_of_ble_eq_true rfl) (Nat.le_of_ble_eq_true rfl) (Nat.le_of_ble_eq_true rfl) rfl rfl ?_
  refine t_path_in hp ?_
  show pw pP mSBModel_there (4, [some (.inr (some (103))), some (.inl (nI (p))), some (.inl (nI (1))), some (.inl (x))], [.inl (nI (1))], 0, 0, hb (sL L) F G R sO) _
  refine pw_if1 (t := 39) rfl rfl (fun q => absurd q (by decide)) (fun _ => ?_)
  refine pw_iload_n rfl rfl ?_
  refine pw_if1p (A := x < 0) rfl rfl (t := 39) rfl (fun c1 => ?_) (fun c1 => ?_)
  · -- 39
    refine pw_iconst (v := nI (0)) rfl (by decide) ?_
    exact pw_iret rfl rfl (Nat.zero_le _) (Nat.zero_le _) rfl k
  · -- 11
    refine pw_iload_n rfl rfl ?_
    refine pw_aload_n rfl rfl ?_
    refine px_getr (r := some (124)) rfl rfl rfl rfl rfl ?_
    refine pw_iload_n rfl rfl ?_
    refine pw_if1 (t := 28) rfl rfl (fun q => absurd q (by decide)) (fun _ => ?_)
    refine pw_iconst (v := nI (2)) rfl (by decide) ?_
    refine pw_iload_n rfl rfl ?_
    refine pw_imul (z := nI (2 * p)) rfl (pk_mul _ _) ?_
    refine pw_iconst (v := nI (1)) rfl (by decide) ?_
    refine pw_iadd (z := nI (2 * p + 1)) rfl (nI_add _ _) ?_
    refine pw_goto (t := 31) rfl rfl ?_
    refine px_ialdn (x := nI (fl)) rfl rfl (by omega) (by decide) (hfl) ?_
    refine pw_if2p (A := nI (fl) ≤ x) rfl rfl (t := 39) rfl (fun c2 => ?_) (fun c2 => ?_)
    · -- 39
      refine pw_iconst (v := nI (0)) rfl (by decide) ?_
      exact pw_iret rfl rfl (Nat.zero_le _) (Nat.zero_le _) rfl k
    · -- 35
      refine pw_iconst (v := nI (1)) rfl (by decide) ?_
      refine pw_goto (t := 40) rfl rfl ?_
      exact absurd (hk.resolve_left c1) c2
/-- SBModel_flight -/
def flight1_r (G : FN) (p : Nat) : Int32 := G (124) (2 * p + 1)
theorem t_flight1 {L p : Nat} {F G : FN} {R : RN} (hp : p < 4) {Q : Option PV → PH → Prop} (k : Q (some (.inl (flight1_r G p))) (hb (sL L) F G R sO)) : pz pP mSBModel_flight [.inr (some (103)), .inl (nI (p)), .inl (nI (1))] (hb (sL L) F G R sO) Q := by
  show pw pP mSBModel_flight (0, [some (.inr (some (103))), some (.inl (nI (p))), some (.inl (nI (1)))], [], 0, 0, hb (sL L) F G R sO) _
  refine pw_iload_n rfl rfl ?_
  refine pw_calls (as := [.inl (nI (p))]) (rest := []) rfl rfl (by decide) rfl (Nat.le_of_ble_eq_true rfl) (Nat.le_of_ble_eq_true rfl) (Nat.le_of_ble_eq_true rfl) (Nat.le_of_ble_eq_true rfl) rfl rfl ?_
  refine t_path_in hp ?_
  show pw pP mSBModel_flight (4, [some (.inr (some (103))), some (.inl (nI (p))), some (.inl (nI (1)))], [.inl (nI (1))], 0, 0, hb (sL L) F G R sO) _
  refine pw_if1 (t := 30) rfl rfl (fun q => absurd q (by decide)) (fun _ => ?_)
  refine pw_aload_n rfl rfl ?_
  refine px_getr (r := some (124)) rfl rfl rfl rfl rfl ?_
  refine pw_iload_n rfl rfl ?_
  refine pw_if1 (t := 23) rfl rfl (fun q => absurd q (by decide)) (fun _ => ?_)
  refine pw_iconst (v := nI (2)) rfl (by decide) ?_
  refine pw_iload_n rfl rfl ?_
  refine pw_imul (z := nI (2 * p)) rfl (pk_mul _ _) ?_
  refine pw_iconst (v := nI (1)) rfl (by decide) ?_
  refine pw_iadd (z := nI (2 * p + 1)) rfl (nI_add _ _) ?_
  refine pw_goto (t := 26) rfl rfl ?_
  refine px_ialdn (x := G (124) (2 * p + 1)) rfl rfl (by omega) (by decide) (rfl) ?_
  refine pw_goto (t := 31) rfl rfl ?_
  exact pw_iret rfl rfl (Nat.zero_le _) (Nat.zero_le _) rfl k
/-- SBModel_there -/
def there_no1_r  : Int32 := nI (0)
theorem t_there_no1 {L : Nat} {p x : Int32} {F G : FN} {R : RN} (hp : p < 0 ∨ nI 4 ≤ p) {Q : Option PV → PH → Prop} (k : Q (some (.inl (there_no1_r ))) (hb (sL L) F G R sO)) : pz pP mSBModel_there [.inr (some (103)), .inl (p), .inl (nI (1)), .inl (x)] (hb (sL L) F G R sO) Q := by
  show pw pP mSBModel_there (0, [some (.inr (some (103))), some (.inl (p)), some (.inl (nI (1))), some (.inl (x))], [], 0, 0, hb (sL L) F G R sO) _
  refine pw_iload_n rfl rfl ?_
  refine pw_calls (as := [.inl (p)]) (rest := []) rfl rfl (by decide) rfl (Nat.le_of_ble_eq_true rfl) (Nat.le_of_ble_eq_true rfl) (Nat.le_of_ble_eq_true rfl) (Nat.le_of_ble_eq_true rfl) rfl rfl ?_
  refine t_path_out hp ?_
  show pw pP mSBModel_there (4, [some (.inr (some (103))), some (.inl (p)), some (.inl (nI (1))), some (.inl (x))], [.inl (nI (0))], 0, 0, hb (sL L) F G R sO) _
  refine pw_if1 (t := 39) rfl rfl (fun _ => ?_) (fun q => absurd q (by decide))
  refine pw_iconst (v := nI (0)) rfl (by decide) ?_
  exact pw_iret rfl rfl (Nat.zero_le _) (Nat.zero_le _) rfl k
/-- SBModel_flight -/
def flight_no1_r  : Int32 := (-1)
theorem t_flight_no1 {L : Nat} {p : Int32} {F G : FN} {R : RN} (hp : p < 0 ∨ nI 4 ≤ p) {Q : Option PV → PH → Prop} (k : Q (some (.inl (flight_no1_r ))) (hb (sL L) F G R sO)) : pz pP mSBModel_flight [.inr (some (103)), .inl (p), .inl (nI (1))] (hb (sL L) F G R sO) Q := by
  show pw pP mSBModel_flight (0, [some (.inr (some (103))), some (.inl (p)), some (.inl (nI (1)))], [], 0, 0, hb (sL L) F G R sO) _
  refine pw_iload_n rfl rfl ?_
  refine pw_calls (as := [.inl (p)]) (rest := []) rfl rfl (by decide) rfl (Nat.le_of_ble_eq_true rfl) (Nat.le_of_ble_eq_true rfl) (Nat.le_of_ble_eq_true rfl) (Nat.le_of_ble_eq_true rfl) rfl rfl ?_
  refine t_path_out hp ?_
  show pw pP mSBModel_flight (4, [some (.inr (some (103))), some (.inl (p)), some (.inl (nI (1)))], [.inl (nI (0))], 0, 0, hb (sL L) F G R sO) _
  refine pw_if1 (t := 30) rfl rfl (fun _ => ?_) (fun q => absurd q (by decide))
  refine pw_iconst (v := (-1)) rfl (by decide) ?_
  exact pw_iret rfl rfl (Nat.zero_le _) (Nat.zero_le _) rfl k
/-- SBModel_lose -/
def lose_in1_r (G : FN) (p fl kk : Nat) : Int32 := nI (1)
/-- SBModel_lose -/
def lose_in1_G (G : FN) (p fl kk : Nat) : FN := (tdrop G (2 * p + 1) fl kk)
theorem t_lose_in1 {L p kk fl : Nat} {F G : FN} {R : RN} (hp : p < 4) (hfl : G 124 (2 * p + 1) = nI fl) (hf : fl ≤ 6) (hk : kk < fl) {Q : Option PV → PH → Prop} (k : Q (some (.inl (lose_in1_r G p fl kk))) (hb (sL L) F (lose_in1_G G p fl kk) R sO)) : pz pP mSBModel_lose [.inr (some (103)), .inl (nI (p)), .inl (nI (1)), .inl (nI (kk))] (hb (sL L) F G R sO) Q := by
  show pw pP mSBModel_lose (0, [some (.inr (some (103))), some (.inl (nI (p))), some (.inl (nI (1))), some (.inl (nI (kk))), none], [], 0, 0, hb (sL L) F G R sO) _
  refine pw_aload_n rfl rfl ?_
  refine pw_iload_n rfl rfl ?_
  refine pw_iload_n rfl rfl ?_
  refine pw_iload_n rfl rfl ?_
  refine px_callv (as := [.inr (some (103)), .inl (nI (p)), .inl (nI (1)), .inl (nI (kk))]) (rest := []) rfl rfl (by decide) rfl (Nat.le_of_ble_eq_true rfl) (Nat.le_of_ble_eq_true rfl) (Nat.le_of_ble_eq_true rfl) (Nat.le_of_ble_eq_true rfl) rfl rfl rfl rfl ?_
  refine t_there_in1 hp hfl hf hk ?_
  show pw pP mSBModel_lose (7, [some (.inr (some (103))), some (.inl (nI (p))), some (.inl (nI (1))), some (.inl (nI (kk))), none], [.inl (nI (1))], 0, 0, hb (sL L) F G R sO) _
  refine pw_istore (ls1 := [some (.inr (some (103))), some (.inl (nI (p))), some (.inl (nI (1))), some (.inl (nI (kk))), some (.inl (nI (1)))]) rfl (Nat.le_of_ble_eq_true rfl) rfl ?_
  refine pw_iload rfl rfl ?_
  refine pw_if1 (t := 34) rfl rfl (fun q => absurd q (by decide)) (fun _ => ?_)
  refine pw_aload_n rfl rfl ?_
  refine pw_iload_n rfl rfl ?_
  refine pw_if1 (t := 27) rfl rfl (fun q => absurd q (by decide)) (fun _ => ?_)
  refine pw_iconst (v := nI (2)) rfl (by decide) ?_
  refine pw_iload_n rfl rfl ?_
  refine pw_imul (z := nI (2 * p)) rfl (pk_mul _ _) ?_
  refine pw_iconst (v := nI (1)) rfl (by decide) ?_
  refine pw_iadd (z := nI (2 * p + 1)) rfl (nI_add _ _) ?_
  refine pw_goto (t := 30) rfl rfl ?_
  refine pw_iload_n rfl rfl ?_
  refine px_callv (as := [.inr (some (103)), .inl (nI (2 * p + 1)), .inl (nI (kk))]) (rest := []) rfl rfl (by decide) rfl (Nat.le_of_ble_eq_true rfl) (Nat.le_of_ble_eq_true rfl) (Nat.le_of_ble_eq_true rfl) (Nat.le_of_ble_eq_true rfl) rfl rfl rfl rfl ?_
  refine t_drop (by omega) hfl hf hk ?_
  show pw pP mSBModel_lose (34, [some (.inr (some (103))), some (.inl (nI (p))), some (.inl (nI (1))), some (.inl (nI (kk))), some (.inl (nI (1)))], [], 0, 0, hb (sL L) F (tdrop G (2 * p + 1) fl kk) R sO) _
  refine pw_iload rfl rfl ?_
  exact pw_iret rfl rfl (Nat.zero_le _) (Nat.zero_le _) rfl k
/-- SBModel_lose -/
def lose_out1_r  : Int32 := nI (0)
theorem t_lose_out1 {L p fl : Nat} {x : Int32} {F G : FN} {R : RN} (hp : p < 4) (hfl : G 124 (2 * p + 1) = nI fl) (hk : x < 0 ∨ nI fl ≤ x) {Q : Option PV → PH → Prop} (k : Q (some (.inl (lose_out1_r ))) (hb (sL L) F G R sO)) : pz pP mSBModel_lose [.inr (some (103)), .inl (nI (p)), .inl (nI (1)), .inl (x)] (hb (sL L) F G R sO) Q := by
  show pw pP mSBModel_lose (0, [some (.inr (some (103))), some (.inl (nI (p))), some (.inl (nI (1))), some (.inl (x)), none], [], 0, 0, hb (sL L) F G R sO) _
  refine pw_aload_n rfl rfl ?_
  refine pw_iload_n rfl rfl ?_
  refine pw_iload_n rfl rfl ?_
  refine pw_iload_n rfl rfl ?_
  refine px_callv (as := [.inr (some (103)), .inl (nI (p)), .inl (nI (1)), .inl (x)]) (rest := []) rfl rfl (by decide) rfl (Nat.le_of_ble_eq_true rfl) (Nat.le_of_ble_eq_true rfl) (Nat.le_of_ble_eq_true rfl) (Nat.le_of_ble_eq_true rfl) rfl rfl rfl rfl ?_
  refine t_there_out1 hp hfl hk ?_
  show pw pP mSBModel_lose (7, [some (.inr (some (103))), some (.inl (nI (p))), some (.inl (nI (1))), some (.inl (x)), none], [.inl (nI (0))], 0, 0, hb (sL L) F G R sO) _
  refine pw_istore (ls1 := [some (.inr (some (103))), some (.inl (nI (p))), some (.inl (nI (1))), some (.inl (x)), some (.inl (nI (0)))]) rfl (Nat.le_of_ble_eq_true rfl) rfl ?_
  refine pw_iload rfl rfl ?_
  refine pw_if1 (t := 34) rfl rfl (fun _ => ?_) (fun q => absurd q (by decide))
  refine pw_iload rfl rfl ?_
  exact pw_iret rfl rfl (Nat.zero_le _) (Nat.zero_le _) rfl k
/-- SBModel_lose -/
def lose_no1_r  : Int32 := nI (0)
theorem t_lose_no1 {L : Nat} {p x : Int32} {F G : FN} {R : RN} (hp : p < 0 ∨ nI 4 ≤ p) {Q : Option PV → PH → Prop} (k : Q (some (.inl (lose_no1_r ))) (hb (sL L) F G R sO)) : pz pP mSBModel_lose [.inr (some (103)), .inl (p), .inl (nI (1)), .inl (x)] (hb (sL L) F G R sO) Q := by
  show pw pP mSBModel_lose (0, [some (.inr (some (103))), some (.inl (p)), some (.inl (nI (1))), some (.inl (x)), none], [], 0, 0, hb (sL L) F G R sO) _
  refine pw_aload_n rfl rfl ?_
  refine pw_iload_n rfl rfl ?_
  refine pw_iload_n rfl rfl ?_
  refine pw_iload_n rfl rfl ?_
  refine px_callv (as := [.inr (some (103)), .inl (p), .inl (nI (1)), .inl (x)]) (rest := []) rfl rfl (by decide) rfl (Nat.le_of_ble_eq_true rfl) (Nat.le_of_ble_eq_true rfl) (Nat.le_of_ble_eq_true rfl) (Nat.le_of_ble_eq_true rfl) rfl rfl rfl rfl ?_
  refine t_there_no1 hp ?_
  show pw pP mSBModel_lose (7, [some (.inr (some (103))), some (.inl (p)), some (.inl (nI (1))), some (.inl (x)), none], [.inl (nI (0))], 0, 0, hb (sL L) F G R sO) _
  refine pw_istore (ls1 := [some (.inr (some (103))), some (.inl (p)), some (.inl (nI (1))), some (.inl (x)), some (.inl (nI (0)))]) rfl (Nat.le_of_ble_eq_true rfl) rfl ?_
  refine pw_iload rfl rfl ?_
  refine pw_if1 (t := 34) rfl rfl (fun _ => ?_) (fun q => absurd q (by decide))
  refine pw_iload rfl rfl ?_
  exact pw_iret rfl rfl (Nat.zero_le _) (Nat.zero_le _) rfl k
/-- SBModel_twice -/
def twice_in1_r (F G : FN) (p fl kk : Nat) (z : Int32) : Int32 := (if z < nI (1) then nI (0) else (if z ≤ nI (40) then (if fl < 6 then nI (1) else nI (0)) else nI (0)))
/-- SBModel_twice -/
def twice_in1_G (F G : FN) (p fl kk : Nat) (z : Int32) : FN := (if z < nI (1) then G else (if z ≤ nI (40) then (if fl < 6 then (tput G (2 * p + 1) fl (G (125) (6 * (2 * p + 1) + kk)) (G (126) (6 * (2 * p + 1) + kk)) (G (127) (6 * (2 * p + 1) + kk)) (G (128) (6 * (2 * p + 1) + kk)) (G (129) (6 * (2 * p + 1) + kk)) ((F (103) (3)) + z)) else G) else G))
theorem t_twice_in1 {L p kk fl : Nat} {z : Int32} {F G : FN} {R : RN} (hp : p < 4) (hfl : G 124 (2 * p + 1) = nI fl) (hf : fl ≤ 6) (hk : kk < fl) {Q : Option PV → PH → Prop} (k : Q (some (.inl (twice_in1_r F G p fl kk z))) (hb (sL L) F (twice_in1_G F G p fl kk z) R sO)) : pz pP mSBModel_twice [.inr (some (103)), .inl (nI (p)), .inl (nI (1)), .inl (nI (kk)), .inl (z)] (hb (sL L) F G R sO) Q := by
  show pw pP mSBModel_twice (0, [some (.inr (some (103))), some (.inl (nI (p))), some (.inl (nI (1))), some (.inl (nI (kk))), some (.inl (z)), none, none], [], 0, 0, hb (sL L) F G R sO) _
  refine pw_aload_n rfl rfl ?_
  refine pw_iload_n rfl rfl ?_
  refine pw_iload_n rfl rfl ?_
  refine pw_iload_n rfl rfl ?_
  refine px_callv (as := [.inr (some (103)), .inl (nI (p)), .inl (nI (1)), .inl (nI (kk))]) (rest := []) rfl rfl (by decide) rfl (Nat.le_of_ble_eq_true rfl) (Nat.le_of_ble_eq_true rfl) (Nat.le_of_ble_eq_true rfl) (Nat.le_of_ble_eq_true rfl) rfl rfl rfl rfl ?_
  refine t_there_in1 hp hfl hf hk ?_
  show pw pP mSBModel_twice (7, [some (.inr (some (103))), some (.inl (nI (p))), some (.inl (nI (1))), some (.inl (nI (kk))), some (.inl (z)), none, none], [.inl (nI (1))], 0, 0, hb (sL L) F G R sO) _
  refine pw_if1 (t := 23) rfl rfl (fun q => absurd q (by decide)) (fun _ => ?_)
  refine pw_iload rfl rfl ?_
  refine pw_iconst (v := nI (1)) rfl (by decide) ?_
  refine pw_if2p (A := z < nI (1)) rfl rfl (t := 23) rfl (fun c1 => ?_) (fun c1 => ?_)
  · -- 23
    refine pw_iconst (v := nI (0)) rfl (by decide) ?_
    exact pw_iret rfl rfl (Nat.zero_le _) (Nat.zero_le _) rfl (by simp only [twice_in1_r, twice_in1_G, c1, if_true, if_false] at k; exact k)
  · -- 16
    refine pw_iload rfl rfl ?_
    refine pw_bipush (v := nI (40)) rfl (by decide) ?_
    refine pw_if2p (A := z ≤ nI (40)) rfl rfl (t := 25) rfl (fun c2 => ?_) (fun c2 => ?_)
    · -- 25
      refine pw_iload_n rfl rfl ?_
      refine pw_if1 (t := 37) rfl rfl (fun q => absurd q (by decide)) (fun _ => ?_)
      refine pw_iconst (v := nI (2)) rfl (by decide) ?_
      refine pw_iload_n rfl rfl ?_
      refine pw_imul (z := nI (2 * p)) rfl (pk_mul _ _) ?_
      refine pw_iconst (v := nI (1)) rfl (by decide) ?_
      refine pw_iadd (z := nI (2 * p + 1)) rfl (nI_add _ _) ?_
      refine pw_goto (t := 40) rfl rfl ?_
      refine pw_istore (ls1 := [some (.inr (some (103))), some (.inl (nI (p))), some (.inl (nI (1))), some (.inl (nI (kk))), some (.inl (z)), some (.inl (nI (2 * p + 1))), none]) rfl (Nat.le_of_ble_eq_true rfl) rfl ?_
      refine pw_aload_n rfl rfl ?_
      refine px_getr (r := some (124)) rfl rfl rfl rfl rfl ?_
      refine pw_iload rfl rfl ?_
      refine px_ialdn (x := nI (fl)) rfl rfl (by omega) (by decide) (hfl) ?_
      refine pw_bipush (v := nI (6)) rfl (by decide) ?_
      refine pw_if2p (cn_lt (by omega) (by omega)) rfl (t := 56) rfl (fun c3 => ?_) (fun c3 => ?_)
      · -- 56
        refine pw_bipush (v := nI (6)) rfl (by decide) ?_
        refine pw_iload rfl rfl ?_
        refine pw_imul (z := nI (6 * (2 * p + 1))) rfl (pk_mul _ _) ?_
        refine pw_iload_n rfl rfl ?_
        refine pw_iadd (z := nI (6 * (2 * p + 1) + kk)) rfl (nI_add _ _) ?_
        refine pw_istore (ls1 := [some (.inr (some (103))), some (.inl (nI (p))), some (.inl (nI (1))), some (.inl (nI (kk))), some (.inl (z)), some (.inl (nI (2 * p + 1))), some (.inl (nI (6 * (2 * p + 1) + kk)))]) rfl (Nat.le_of_ble_eq_true rfl) rfl ?_
        refine pw_aload_n rfl rfl ?_
        refine pw_iload rfl rfl ?_
        refine pw_aload_n rfl rfl ?_
        refine px_getr (r := some (125)) rfl rfl rfl rfl rfl ?_
        refine pw_iload rfl rfl ?_
        refine px_ialdn (x := G (125) (6 * (2 * p + 1) + kk)) rfl rfl (by omega) (by decide) (rfl) ?_
        refine pw_aload_n rfl rfl ?_
        refine px_getr (r := some (126)) rfl rfl rfl rfl rfl ?_
        refine pw_iload rfl rfl ?_
        refine px_ialdn (x := G (126) (6 * (2 * p + 1) + kk)) rfl rfl (by omega) (by decide) (rfl) ?_
        refine pw_aload_n rfl rfl ?_
        refine px_getr (r := some (127)) rfl rfl rfl rfl rfl ?_
        refine pw_iload rfl rfl ?_
        refine px_ialdn (x := G (127) (6 * (2 * p + 1) + kk)) rfl rfl (by omega) (by decide) (rfl) ?_
        refine pw_aload_n rfl rfl ?_
        refine px_getr (r := some (128)) rfl rfl rfl rfl rfl ?_
        refine pw_iload rfl rfl ?_
        refine px_ialdn (x := G (128) (6 * (2 * p + 1) + kk)) rfl rfl (by omega) (by decide) (rfl) ?_
        refine pw_aload_n rfl rfl ?_
        refine px_getr (r := some (129)) rfl rfl rfl rfl rfl ?_
        refine pw_iload rfl rfl ?_
        refine px_ialdn (x := G (129) (6 * (2 * p + 1) + kk)) rfl rfl (by omega) (by decide) (rfl) ?_
        refine pw_aload_n rfl rfl ?_
        refine px_getv (x := F (103) (3)) rfl rfl rfl rfl (rfl) ?_
        refine pw_iload rfl rfl ?_
        refine pw_iadd (z := (F (103) (3)) + z) rfl rfl ?_
        refine px_callv (as := [.inr (some (103)), .inl (nI (2 * p + 1)), .inl (G (125) (6 * (2 * p + 1) + kk)), .inl (G (126) (6 * (2 * p + 1) + kk)), .inl (G (127) (6 * (2 * p + 1) + kk)), .inl (G (128) (6 * (2 * p + 1) + kk)), .inl (G (129) (6 * (2 * p + 1) + kk)), .inl ((F (103) (3)) + z)]) (rest := []) rfl rfl (by decide) rfl (Nat.le_of_ble_eq_true rfl) (Nat.le_of_ble_eq_true rfl) (Nat.le_of_ble_eq_true rfl) (Nat.le_of_ble_eq_true rfl) rfl rfl rfl rfl ?_
        refine t_put (by omega) hfl (by omega) ?_
        show pw pP mSBModel_twice (113, [some (.inr (some (103))), some (.inl (nI (p))), some (.inl (nI (1))), some (.inl (nI (kk))), some (.inl (z)), some (.inl (nI (2 * p + 1))), some (.inl (nI (6 * (2 * p + 1) + kk)))], [], 0, 0, hb (sL L) F (tput G (2 * p + 1) fl (G (125) (6 * (2 * p + 1) + kk)) (G (126) (6 * (2 * p + 1) + kk)) (G (127) (6 * (2 * p + 1) + kk)) (G (128) (6 * (2 * p + 1) + kk)) (G (129) (6 * (2 * p + 1) + kk)) ((F (103) (3)) + z)) R sO) _
        refine pw_iconst (v := nI (1)) rfl (by decide) ?_
        exact pw_iret rfl rfl (Nat.zero_le _) (Nat.zero_le _) rfl (by simp only [twice_in1_r, twice_in1_G, c1, c2, c3, if_true, if_false] at k; exact k)
      · -- 54
        refine pw_iconst (v := nI (0)) rfl (by decide) ?_
        exact pw_iret rfl rfl (Nat.zero_le _) (Nat.zero_le _) rfl (by simp only [twice_in1_r, twice_in1_G, c1, c2, c3, if_true, if_false] at k; exact k)
    · -- 23
      refine pw_iconst (v := nI (0)) rfl (by decide) ?_
      exact pw_iret rfl rfl (Nat.zero_le _) (Nat.zero_le _) rfl (by simp only [twice_in1_r, twice_in1_G, c1, c2, if_true, if_false] at k; exact k)
/-- SBModel_twice -/
def twice_out1_r  : Int32 := nI (0)
theorem t_twice_out1 {L p fl : Nat} {x z : Int32} {F G : FN} {R : RN} (hp : p < 4) (hfl : G 124 (2 * p + 1) = nI fl) (hk : x < 0 ∨ nI fl ≤ x) {Q : Option PV → PH → Prop} (k : Q (some (.inl (twice_out1_r ))) (hb (sL L) F G R sO)) : pz pP mSBModel_twice [.inr (some (103)), .inl (nI (p)), .inl (nI (1)), .inl (x), .inl (z)] (hb (sL L) F G R sO) Q := by
  show pw pP mSBModel_twice (0, [some (.inr (some (103))), some (.inl (nI (p))), some (.inl (nI (1))), some (.inl (x)), some (.inl (z)), none, none], [], 0, 0, hb (sL L) F G R sO) _
  refine pw_aload_n rfl rfl ?_
  refine pw_iload_n rfl rfl ?_
  refine pw_iload_n rfl rfl ?_
  refine pw_iload_n rfl rfl ?_
  refine px_callv (as := [.inr (some (103)), .inl (nI (p)), .inl (nI (1)), .inl (x)]) (rest := []) rfl rfl (by decide) rfl (Nat.le_of_ble_eq_true rfl) (Nat.le_of_ble_eq_true rfl) (Nat.le_of_ble_eq_true rfl) (Nat.le_of_ble_eq_true rfl) rfl rfl rfl rfl ?_
  refine t_there_out1 hp hfl hk ?_
  show pw pP mSBModel_twice (7, [some (.inr (some (103))), some (.inl (nI (p))), some (.inl (nI (1))), some (.inl (x)), some (.inl (z)), none, none], [.inl (nI (0))], 0, 0, hb (sL L) F G R sO) _
  refine pw_if1 (t := 23) rfl rfl (fun _ => ?_) (fun q => absurd q (by decide))
  refine pw_iconst (v := nI (0)) rfl (by decide) ?_
  exact pw_iret rfl rfl (Nat.zero_le _) (Nat.zero_le _) rfl k
/-- SBModel_twice -/
def twice_no1_r  : Int32 := nI (0)
theorem t_twice_no1 {L : Nat} {p x z : Int32} {F G : FN} {R : RN} (hp : p < 0 ∨ nI 4 ≤ p) {Q : Option PV → PH → Prop} (k : Q (some (.inl (twice_no1_r ))) (hb (sL L) F G R sO)) : pz pP mSBModel_twice [.inr (some (103)), .inl (p), .inl (nI (1)), .inl (x), .inl (z)] (hb (sL L) F G R sO) Q := by
  show pw pP mSBModel_twice (0, [some (.inr (some (103))), some (.inl (p)), some (.inl (nI (1))), some (.inl (x)), some (.inl (z)), none, none], [], 0, 0, hb (sL L) F G R sO) _
  refine pw_aload_n rfl rfl ?_
  refine pw_iload_n rfl rfl ?_
  refine pw_iload_n rfl rfl ?_
  refine pw_iload_n rfl rfl ?_
  refine px_callv (as := [.inr (some (103)), .inl (p), .inl (nI (1)), .inl (x)]) (rest := []) rfl rfl (by decide) rfl (Nat.le_of_ble_eq_true rfl) (Nat.le_of_ble_eq_true rfl) (Nat.le_of_ble_eq_true rfl) (Nat.le_of_ble_eq_true rfl) rfl rfl rfl rfl ?_
  refine t_there_no1 hp ?_
  show pw pP mSBModel_twice (7, [some (.inr (some (103))), some (.inl (p)), some (.inl (nI (1))), some (.inl (x)), some (.inl (z)), none, none], [.inl (nI (0))], 0, 0, hb (sL L) F G R sO) _
  refine pw_if1 (t := 23) rfl rfl (fun _ => ?_) (fun q => absurd q (by decide))
  refine pw_iconst (v := nI (0)) rfl (by decide) ?_
  exact pw_iret rfl rfl (Nat.zero_le _) (Nat.zero_le _) rfl k
/-- SBModel_state -/
def state_no_r  : Int32 := (-1)
theorem t_state_no {L : Nat} {p : Int32} {F G : FN} {R : RN} (hp : p < 0 ∨ nI 4 ≤ p) {Q : Option PV → PH → Prop} (k : Q (some (.inl (state_no_r ))) (hb (sL L) F G R sO)) : pz pP mSBModel_state [.inr (some (103)), .inl (p)] (hb (sL L) F G R sO) Q := by
  show pw pP mSBModel_state (0, [some (.inr (some (103))), some (.inl (p))], [], 0, 0, hb (sL L) F G R sO) _
  refine pw_iload_n rfl rfl ?_
  refine pw_calls (as := [.inl (p)]) (rest := []) rfl rfl (by decide) rfl (Nat.le_of_ble_eq_true rfl) (Nat.le_of_ble_eq_true rfl) (Nat.le_of_ble_eq_true rfl) (Nat.le_of_ble_eq_true rfl) rfl rfl ?_
  refine t_path_out hp ?_
  show pw pP mSBModel_state (4, [some (.inr (some (103))), some (.inl (p))], [.inl (nI (0))], 0, 0, hb (sL L) F G R sO) _
  refine pw_if1 (t := 16) rfl rfl (fun _ => ?_) (fun q => absurd q (by decide))
  refine pw_iconst (v := (-1)) rfl (by decide) ?_
  exact pw_iret rfl rfl (Nat.zero_le _) (Nat.zero_le _) rfl k
/-- SBModel_timeout -/
def timeout_no_r  : Int32 := (-1)
theorem t_timeout_no {L : Nat} {p : Int32} {F G : FN} {R : RN} (hp : p < 0 ∨ nI 4 ≤ p) {Q : Option PV → PH → Prop} (k : Q (some (.inl (timeout_no_r ))) (hb (sL L) F G R sO)) : pz pP mSBModel_timeout [.inr (some (103)), .inl (p)] (hb (sL L) F G R sO) Q := by
  show pw pP mSBModel_timeout (0, [some (.inr (some (103))), some (.inl (p))], [], 0, 0, hb (sL L) F G R sO) _
  refine pw_iload_n rfl rfl ?_
  refine pw_calls (as := [.inl (p)]) (rest := []) rfl rfl (by decide) rfl (Nat.le_of_ble_eq_true rfl) (Nat.le_of_ble_eq_true rfl) (Nat.le_of_ble_eq_true rfl) (Nat.le_of_ble_eq_true rfl) rfl rfl ?_
  refine t_path_out hp ?_
  show pw pP mSBModel_timeout (4, [some (.inr (some (103))), some (.inl (p))], [.inl (nI (0))], 0, 0, hb (sL L) F G R sO) _
  refine pw_if1 (t := 16) rfl rfl (fun _ => ?_) (fun q => absurd q (by decide))
  refine pw_iconst (v := (-1)) rfl (by decide) ?_
  exact pw_iret rfl rfl (Nat.zero_le _) (Nat.zero_le _) rfl k
/-- SBModel_sent -/
def sent_no_r  : Int32 := (-1)
theorem t_sent_no {L : Nat} {p : Int32} {F G : FN} {R : RN} (hp : p < 0 ∨ nI 4 ≤ p) {Q : Option PV → PH → Prop} (k : Q (some (.inl (sent_no_r ))) (hb (sL L) F G R sO)) : pz pP mSBModel_sent [.inr (some (103)), .inl (p)] (hb (sL L) F G R sO) Q := by
  show pw pP mSBModel_sent (0, [some (.inr (some (103))), some (.inl (p))], [], 0, 0, hb (sL L) F G R sO) _
  refine pw_iload_n rfl rfl ?_
  refine pw_calls (as := [.inl (p)]) (rest := []) rfl rfl (by decide) rfl (Nat.le_of_ble_eq_true rfl) (Nat.le_of_ble_eq_true rfl) (Nat.le_of_ble_eq_true rfl) (Nat.le_of_ble_eq_true rfl) rfl rfl ?_
  refine t_path_out hp ?_
  show pw pP mSBModel_sent (4, [some (.inr (some (103))), some (.inl (p))], [.inl (nI (0))], 0, 0, hb (sL L) F G R sO) _
  refine pw_if1 (t := 16) rfl rfl (fun _ => ?_) (fun q => absurd q (by decide))
  refine pw_iconst (v := (-1)) rfl (by decide) ?_
  exact pw_iret rfl rfl (Nat.zero_le _) (Nat.zero_le _) rfl k
/-- SBModel_smooth -/
def smooth_no_r  : Int32 := (-1)
theorem t_smooth_no {L : Nat} {p : Int32} {F G : FN} {R : RN} (hp : p < 0 ∨ nI 4 ≤ p) {Q : Option PV → PH → Prop} (k : Q (some (.inl (smooth_no_r ))) (hb (sL L) F G R sO)) : pz pP mSBModel_smooth [.inr (some (103)), .inl (p)] (hb (sL L) F G R sO) Q := by
  show pw pP mSBModel_smooth (0, [some (.inr (some (103))), some (.inl (p))], [], 0, 0, hb (sL L) F G R sO) _
  refine pw_iload_n rfl rfl ?_
  refine pw_calls (as := [.inl (p)]) (rest := []) rfl rfl (by decide) rfl (Nat.le_of_ble_eq_true rfl) (Nat.le_of_ble_eq_true rfl) (Nat.le_of_ble_eq_true rfl) (Nat.le_of_ble_eq_true rfl) rfl rfl ?_
  refine t_path_out hp ?_
  show pw pP mSBModel_smooth (4, [some (.inr (some (103))), some (.inl (p))], [.inl (nI (0))], 0, 0, hb (sL L) F G R sO) _
  refine pw_if1 (t := 25) rfl rfl (fun _ => ?_) (fun q => absurd q (by decide))
  refine pw_iconst (v := (-1)) rfl (by decide) ?_
  exact pw_iret rfl rfl (Nat.zero_le _) (Nat.zero_le _) rfl k
/-- SBModel_unacked -/
def unacked_no_r  : Int32 := (-1)
theorem t_unacked_no {L : Nat} {p : Int32} {F G : FN} {R : RN} (hp : p < 0 ∨ nI 4 ≤ p) {Q : Option PV → PH → Prop} (k : Q (some (.inl (unacked_no_r ))) (hb (sL L) F G R sO)) : pz pP mSBModel_unacked [.inr (some (103)), .inl (p)] (hb (sL L) F G R sO) Q := by
  show pw pP mSBModel_unacked (0, [some (.inr (some (103))), some (.inl (p))], [], 0, 0, hb (sL L) F G R sO) _
  refine pw_iload_n rfl rfl ?_
  refine pw_calls (as := [.inl (p)]) (rest := []) rfl rfl (by decide) rfl (Nat.le_of_ble_eq_true rfl) (Nat.le_of_ble_eq_true rfl) (Nat.le_of_ble_eq_true rfl) (Nat.le_of_ble_eq_true rfl) rfl rfl ?_
  refine t_path_out hp ?_
  show pw pP mSBModel_unacked (4, [some (.inr (some (103))), some (.inl (p))], [.inl (nI (0))], 0, 0, hb (sL L) F G R sO) _
  refine pw_if1 (t := 11) rfl rfl (fun q => absurd q (by decide)) (fun _ => ?_)
  refine pw_iconst (v := (-1)) rfl (by decide) ?_
  refine pw_goto (t := 38) rfl rfl ?_
  exact pw_iret rfl rfl (Nat.zero_le _) (Nat.zero_le _) rfl k
/-- SBModel_smooth -/
def smooth_r (G : FN) (p : Nat) : Int32 := (if G (112) (p) = 0 then (-1) else G (113) (p))
theorem t_smooth {L p : Nat} {F G : FN} {R : RN} (hp : p < 4) {Q : Option PV → PH → Prop} (k : Q (some (.inl (smooth_r G p))) (hb (sL L) F G R sO)) : pz pP mSBModel_smooth [.inr (some (103)), .inl (nI (p))] (hb (sL L) F G R sO) Q := by
  show pw pP mSBModel_smooth (0, [some (.inr (some (103))), some (.inl (nI (p)))], [], 0, 0, hb (sL L) F G R sO) _
  refine pw_iload_n rfl rfl ?_
  refine pw_calls (as := [.inl (nI (p))]) (rest := []) rfl rfl (by decide) rfl (Nat.le_of_ble_eq_true rfl) (Nat.le_of_ble_eq_true rfl) (Nat.le_of_ble_eq_true rfl) (Nat.le_of_ble_eq_true rfl) rfl rfl ?_
  refine t_path_in hp ?_
  show pw pP mSBModel_smooth (4, [some (.inr (some (103))), some (.inl (nI (p)))], [.inl (nI (1))], 0, 0, hb (sL L) F G R sO) _
  refine pw_if1 (t := 25) rfl rfl (fun q => absurd q (by decide)) (fun _ => ?_)
  refine pw_aload_n rfl rfl ?_
  refine px_getr (r := some (112)) rfl rfl rfl rfl rfl ?_
  refine pw_iload_n rfl rfl ?_
  refine px_zaldn (x := G (112) (p)) rfl rfl (by omega) (by decide) (rfl) ?_
  refine pw_if1p (A := G (112) (p) = 0) rfl rfl (t := 25) rfl (fun c1 => ?_) (fun c1 => ?_)
  · -- 25
    refine pw_iconst (v := (-1)) rfl (by decide) ?_
    exact pw_iret rfl rfl (Nat.zero_le _) (Nat.zero_le _) rfl (by simp only [smooth_r, c1, if_true, if_false] at k; exact k)
  · -- 16
    refine pw_aload_n rfl rfl ?_
    refine px_getr (r := some (113)) rfl rfl rfl rfl rfl ?_
    refine pw_iload_n rfl rfl ?_
    refine px_ialdn (x := G (113) (p)) rfl rfl (by omega) (by decide) (rfl) ?_
    refine pw_goto (t := 26) rfl rfl ?_
    exact pw_iret rfl rfl (Nat.zero_le _) (Nat.zero_le _) rfl (by simp only [smooth_r, c1, if_true, if_false] at k; exact k)
/-- SBModel_unacked -/
def unacked_r (G : FN) (p : Nat) : Int32 := (if ¬ G (107) (p) = nI (4) then (G (116) (p)) - (G (115) (p)) else nI (0))
theorem t_unacked {L p : Nat} {F G : FN} {R : RN} (hp : p < 4) {Q : Option PV → PH → Prop} (k : Q (some (.inl (unacked_r G p))) (hb (sL L) F G R sO)) : pz pP mSBModel_unacked [.inr (some (103)), .inl (nI (p))] (hb (sL L) F G R sO) Q := by
  show pw pP mSBModel_unacked (0, [some (.inr (some (103))), some (.inl (nI (p)))], [], 0, 0, hb (sL L) F G R sO) _
  refine pw_iload_n rfl rfl ?_
  refine pw_calls (as := [.inl (nI (p))]) (rest := []) rfl rfl (by decide) rfl (Nat.le_of_ble_eq_true rfl) (Nat.le_of_ble_eq_true rfl) (Nat.le_of_ble_eq_true rfl) (Nat.le_of_ble_eq_true rfl) rfl rfl ?_
  refine t_path_in hp ?_
  show pw pP mSBModel_unacked (4, [some (.inr (some (103))), some (.inl (nI (p)))], [.inl (nI (1))], 0, 0, hb (sL L) F G R sO) _
  refine pw_if1 (t := 11) rfl rfl (fun _ => ?_) (fun q => absurd q (by decide))
  refine pw_aload_n rfl rfl ?_
  refine px_getr (r := some (107)) rfl rfl rfl rfl rfl ?_
  refine pw_iload_n rfl rfl ?_
  refine px_ialdn (x := G (107) (p)) rfl rfl (by omega) (by decide) (rfl) ?_
  refine pw_iconst (v := nI (4)) rfl (by decide) ?_
  refine pw_if2p (A := ¬ G (107) (p) = nI (4)) rfl rfl (t := 25) rfl (fun c1 => ?_) (fun c1 => ?_)
  · -- 25
    refine pw_aload_n rfl rfl ?_
    refine px_getr (r := some (116)) rfl rfl rfl rfl rfl ?_
    refine pw_iload_n rfl rfl ?_
    refine px_ialdn (x := G (116) (p)) rfl rfl (by omega) (by decide) (rfl) ?_
    refine pw_aload_n rfl rfl ?_
    refine px_getr (r := some (115)) rfl rfl rfl rfl rfl ?_
    refine pw_iload_n rfl rfl ?_
    refine px_ialdn (x := G (115) (p)) rfl rfl (by omega) (by decide) (rfl) ?_
    refine pw_isub (z := (G (116) (p)) - (G (115) (p))) rfl rfl ?_
    exact pw_iret rfl rfl (Nat.zero_le _) (Nat.zero_le _) rfl (by simp only [unacked_r, c1, if_true, if_false] at k; exact k)
  · -- 21
    refine pw_iconst (v := nI (0)) rfl (by decide) ?_
    refine pw_goto (t := 38) rfl rfl ?_
    exact pw_iret rfl rfl (Nat.zero_le _) (Nat.zero_le _) rfl (by simp only [unacked_r, c1, if_true, if_false] at k; exact k)
/-- SBModel_delay -/
def delay_no_r  : Int32 := nI (0)
theorem t_delay_no {L : Nat} {p x : Int32} {F G : FN} {R : RN} (hp : p < 0 ∨ nI 4 ≤ p) {Q : Option PV → PH → Prop} (k : Q (some (.inl (delay_no_r ))) (hb (sL L) F G R sO)) : pz pP mSBModel_delay [.inr (some (103)), .inl (p), .inl (x)] (hb (sL L) F G R sO) Q := by
  show pw pP mSBModel_delay (0, [some (.inr (some (103))), some (.inl (p)), some (.inl (x))], [], 0, 0, hb (sL L) F G R sO) _
  refine pw_iload_n rfl rfl ?_
  refine pw_calls (as := [.inl (p)]) (rest := []) rfl rfl (by decide) rfl (Nat.le_of_ble_eq_true rfl) (Nat.le_of_ble_eq_true rfl) (Nat.le_of_ble_eq_true rfl) (Nat.le_of_ble_eq_true rfl) rfl rfl ?_
  refine t_path_out hp ?_
  show pw pP mSBModel_delay (4, [some (.inr (some (103))), some (.inl (p)), some (.inl (x))], [.inl (nI (0))], 0, 0, hb (sL L) F G R sO) _
  refine pw_if1 (t := 17) rfl rfl (fun _ => ?_) (fun q => absurd q (by decide))
  refine pw_iconst (v := nI (0)) rfl (by decide) ?_
  exact pw_iret rfl rfl (Nat.zero_le _) (Nat.zero_le _) rfl k
/-- SBModel_delay -/
def delay_r (G : FN) (p : Nat) (x : Int32) : Int32 := (if x < 0 then nI (0) else (if x ≤ nI (40) then (if G (107) (p) = 0 then nI (0) else (if ¬ G (107) (p) = nI (4) then nI (1) else nI (0))) else nI (0)))
/-- SBModel_delay -/
def delay_G (G : FN) (p : Nat) (x : Int32) : FN := (if x < 0 then G else (if x ≤ nI (40) then (if G (107) (p) = 0 then G else (if ¬ G (107) (p) = nI (4) then (up2 G (108) (p) (x)) else G)) else G))
theorem t_delay {L p : Nat} {x : Int32} {F G : FN} {R : RN} (hp : p < 4) {Q : Option PV → PH → Prop} (k : Q (some (.inl (delay_r G p x))) (hb (sL L) F (delay_G G p x) R sO)) : pz pP mSBModel_delay [.inr (some (103)), .inl (nI (p)), .inl (x)] (hb (sL L) F G R sO) Q := by
  show pw pP mSBModel_delay (0, [some (.inr (some (103))), some (.inl (nI (p))), some (.inl (x))], [], 0, 0, hb (sL L) F G R sO) _
  refine pw_iload_n rfl rfl ?_
  refine pw_calls (as := [.inl (nI (p))]) (rest := []) rfl rfl (by decide) rfl (Nat.le_of_ble_eq_true rfl) (Nat.le_of_ble_eq_true rfl) (Nat.le_of_ble_eq_true rfl) (Nat.le_of_ble_eq_true rfl) rfl rfl ?_
  refine t_path_in hp ?_
  show pw pP mSBModel_delay (4, [some (.inr (some (103))), some (.inl (nI (p))), some (.inl (x))], [.inl (nI (1))], 0, 0, hb (sL L) F G R sO) _
  refine pw_if1 (t := 17) rfl rfl (fun q => absurd q (by decide)) (fun _ => ?_)
  refine pw_iload_n rfl rfl ?_
  refine pw_if1p (A := x < 0) rfl rfl (t := 17) rfl (fun c1 => ?_) (fun c1 => ?_)
  · -- 17
    refine pw_iconst (v := nI (0)) rfl (by decide) ?_
    exact pw_iret rfl rfl (Nat.zero_le _) (Nat.zero_le _) rfl (by simp only [delay_r, delay_G, c1, if_true, if_false] at k; exact k)
  · -- 11
    refine pw_iload_n rfl rfl ?_
    refine pw_bipush (v := nI (40)) rfl (by decide) ?_
    refine pw_if2p (A := x ≤ nI (40)) rfl rfl (t := 19) rfl (fun c2 => ?_) (fun c2 => ?_)
    · -- 19
      refine pw_aload_n rfl rfl ?_
      refine px_getr (r := some (107)) rfl rfl rfl rfl rfl ?_
      refine pw_iload_n rfl rfl ?_
      refine px_ialdn (x := G (107) (p)) rfl rfl (by omega) (by decide) (rfl) ?_
      refine pw_if1p (A := G (107) (p) = 0) rfl rfl (t := 38) rfl (fun c3 => ?_) (fun c3 => ?_)
      · -- 38
        refine pw_iconst (v := nI (0)) rfl (by decide) ?_
        exact pw_iret rfl rfl (Nat.zero_le _) (Nat.zero_le _) rfl (by simp only [delay_r, delay_G, c1, c2, c3, if_true, if_false] at k; exact k)
      · -- 28
        refine pw_aload_n rfl rfl ?_
        refine px_getr (r := some (107)) rfl rfl rfl rfl rfl ?_
        refine pw_iload_n rfl rfl ?_
        refine px_ialdn (x := G (107) (p)) rfl rfl (by omega) (by decide) (rfl) ?_
        refine pw_iconst (v := nI (4)) rfl (by decide) ?_
        refine pw_if2p (A := ¬ G (107) (p) = nI (4)) rfl rfl (t := 40) rfl (fun c4 => ?_) (fun c4 => ?_)
        · -- 40
          refine pw_aload_n rfl rfl ?_
          refine px_getr (r := some (108)) rfl rfl rfl rfl rfl ?_
          refine pw_iload_n rfl rfl ?_
          refine pw_iload_n rfl rfl ?_
          refine px_iastn rfl rfl (by omega) (by decide) ?_
          refine pw_iconst (v := nI (1)) rfl (by decide) ?_
          exact pw_iret rfl rfl (Nat.zero_le _) (Nat.zero_le _) rfl (by simp only [delay_r, delay_G, c1, c2, c3, c4, if_true, if_false] at k; exact k)
        · -- 38
          refine pw_iconst (v := nI (0)) rfl (by decide) ?_
          exact pw_iret rfl rfl (Nat.zero_le _) (Nat.zero_le _) rfl (by simp only [delay_r, delay_G, c1, c2, c3, c4, if_true, if_false] at k; exact k)
    · -- 17
      refine pw_iconst (v := nI (0)) rfl (by decide) ?_
      exact pw_iret rfl rfl (Nat.zero_le _) (Nat.zero_le _) rfl (by simp only [delay_r, delay_G, c1, c2, if_true, if_false] at k; exact k)
/-- SBModel_close -/
def close_no_r  : Int32 := nI (0)
theorem t_close_no {L : Nat} {p : Int32} {F G : FN} {R : RN} (hp : p < 0 ∨ nI 4 ≤ p) {Q : Option PV → PH → Prop} (k : Q (some (.inl (close_no_r ))) (hb (sL L) F G R sO)) : pz pP mSBModel_close [.inr (some (103)), .inl (p)] (hb (sL L) F G R sO) Q := by
  show pw pP mSBModel_close (0, [some (.inr (some (103))), some (.inl (p))], [], 0, 0, hb (sL L) F G R sO) _
  refine pw_iload_n rfl rfl ?_
  refine pw_calls (as := [.inl (p)]) (rest := []) rfl rfl (by decide) rfl (Nat.le_of_ble_eq_true rfl) (Nat.le_of_ble_eq_true rfl) (Nat.le_of_ble_eq_true rfl) (Nat.le_of_ble_eq_true rfl) rfl rfl ?_
  refine t_path_out hp ?_
  show pw pP mSBModel_close (4, [some (.inr (some (103))), some (.inl (p))], [.inl (nI (0))], 0, 0, hb (sL L) F G R sO) _
  refine pw_if1 (t := 26) rfl rfl (fun _ => ?_) (fun q => absurd q (by decide))
  refine pw_iconst (v := nI (0)) rfl (by decide) ?_
  exact pw_iret rfl rfl (Nat.zero_le _) (Nat.zero_le _) rfl k
/-- SBModel_close -/
def close_r (G : FN) (p : Nat) : Int32 := (if G (107) (p) = 0 then nI (0) else (if ¬ G (107) (p) = nI (4) then nI (1) else nI (0)))
/-- SBModel_close -/
def close_G (G : FN) (p : Nat) : FN := (if G (107) (p) = 0 then G else (if ¬ G (107) (p) = nI (4) then (shut_G G p) else G))
theorem t_close {L p : Nat} {F G : FN} {R : RN} (hp : p < 4) {Q : Option PV → PH → Prop} (k : Q (some (.inl (close_r G p))) (hb (sL L) F (close_G G p) R sO)) : pz pP mSBModel_close [.inr (some (103)), .inl (nI (p))] (hb (sL L) F G R sO) Q := by
  show pw pP mSBModel_close (0, [some (.inr (some (103))), some (.inl (nI (p)))], [], 0, 0, hb (sL L) F G R sO) _
  refine pw_iload_n rfl rfl ?_
  refine pw_calls (as := [.inl (nI (p))]) (rest := []) rfl rfl (by decide) rfl (Nat.le_of_ble_eq_true rfl) (Nat.le_of_ble_eq_true rfl) (Nat.le_of_ble_eq_true rfl) (Nat.le_of_ble_eq_true rfl) rfl rfl ?_
  refine t_path_in hp ?_
  show pw pP mSBModel_close (4, [some (.inr (some (103))), some (.inl (nI (p)))], [.inl (nI (1))], 0, 0, hb (sL L) F G R sO) _
  refine pw_if1 (t := 26) rfl rfl (fun q => absurd q (by decide)) (fun _ => ?_)
  refine pw_aload_n rfl rfl ?_
  refine px_getr (r := some (107)) rfl rfl rfl rfl rfl ?_
  refine pw_iload_n rfl rfl ?_
  refine px_ialdn (x := G (107) (p)) rfl rfl (by omega) (by decide) (rfl) ?_
  refine pw_if1p (A := G (107) (p) = 0) rfl rfl (t := 26) rfl (fun c1 => ?_) (fun c1 => ?_)
  · -- 26
    refine pw_iconst (v := nI (0)) rfl (by decide) ?_
    exact pw_iret rfl rfl (Nat.zero_le _) (Nat.zero_le _) rfl (by simp only [close_r, close_G, c1, if_true, if_false] at k; exact k)
  · -- 16
    refine pw_aload_n rfl rfl ?_
    refine px_getr (r := some (107)) rfl rfl rfl rfl rfl ?_
    refine pw_iload_n rfl rfl ?_
    refine px_ialdn (x := G (107) (p)) rfl rfl (by omega) (by decide) (rfl) ?_
    refine pw_iconst (v := nI (4)) rfl (by decide) ?_
    refine pw_if2p (A := ¬ G (107) (p) = nI (4)) rfl rfl (t := 28) rfl (fun c2 => ?_) (fun c2 => ?_)
    · -- 28
      refine pw_aload_n rfl rfl ?_
      refine pw_iload_n rfl rfl ?_
      refine px_callv (as := [.inr (some (103)), .inl (nI (p))]) (rest := []) rfl rfl (by decide) rfl (Nat.le_of_ble_eq_true rfl) (Nat.le_of_ble_eq_true rfl) (Nat.le_of_ble_eq_true rfl) (Nat.le_of_ble_eq_true rfl) rfl rfl rfl rfl ?_
      refine t_shut hp ?_
      show pw pP mSBModel_close (33, [some (.inr (some (103))), some (.inl (nI (p)))], [], 0, 0, hb (sL L) F (shut_G G p) R sO) _
      refine pw_iconst (v := nI (1)) rfl (by decide) ?_
      exact pw_iret rfl rfl (Nat.zero_le _) (Nat.zero_le _) rfl (by simp only [close_r, close_G, c1, c2, if_true, if_false] at k; exact k)
    · -- 26
      refine pw_iconst (v := nI (0)) rfl (by decide) ?_
      exact pw_iret rfl rfl (Nat.zero_le _) (Nat.zero_le _) rfl (by simp only [close_r, close_G, c1, c2, if_true, if_false] at k; exact k)
/-- SBModel_finish -/
def finish_r (F : FN) : Int32 := (if ¬ F (103) (6) = 0 then nI (0) else nI (1))
/-- SBModel_finish -/
def finish_F (F : FN) : FN := (up2 F (103) (6) (nI (1)))
theorem t_finish {L : Nat} {F G : FN} {R : RN} {Q : Option PV → PH → Prop} (k : Q (some (.inl (finish_r F))) (hb (sL L) (finish_F F) G R sO)) : pz pP mSBModel_finish [.inr (some (103))] (hb (sL L) F G R sO) Q := by
  show pw pP mSBModel_finish (0, [some (.inr (some (103))), none], [], 0, 0, hb (sL L) F G R sO) _
  refine pw_aload_n rfl rfl ?_
  refine px_getv (x := F (103) (6)) rfl rfl rfl rfl (rfl) ?_
  refine pw_istore_n (ls1 := [some (.inr (some (103))), some (.inl (F (103) (6)))]) rfl (Nat.le_of_ble_eq_true rfl) rfl ?_
  refine pw_aload_n rfl rfl ?_
  refine pw_iconst (v := nI (1)) rfl (by decide) ?_
  refine px_put rfl rfl rfl rfl rfl ?_
  refine pw_iload_n rfl rfl ?_
  refine pw_if1p (A := ¬ F (103) (6) = 0) rfl rfl (t := 18) rfl (fun c1 => ?_) (fun c1 => ?_)
  · -- 18
    refine pw_iconst (v := nI (0)) rfl (by decide) ?_
    exact pw_iret rfl rfl (Nat.zero_le _) (Nat.zero_le _) rfl (by simp only [finish_r, finish_F, c1, if_true, if_false] at k; exact k)
  · -- 14
    refine pw_iconst (v := nI (1)) rfl (by decide) ?_
    refine pw_goto (t := 19) rfl rfl ?_
    exact pw_iret rfl rfl (Nat.zero_le _) (Nat.zero_le _) rfl (by simp only [finish_r, finish_F, c1, if_true, if_false] at k; exact k)
/-- SBModel_read -/
def read_r (F G : FN) (nx : Nat) : Int32 := (if 400 < nx then (-1) else (if ¬ G (106) (nx) = 0 then (if F (103) (6) = 0 then G (104) (nx + 1 - 1) else (if ¬ nI (nx) = F (103) (5) then G (104) (nx + 1 - 1) else (-2))) else (-1)))
/-- SBModel_read -/
def read_F (F G : FN) (nx : Nat) : FN := (if 400 < nx then F else (if ¬ G (106) (nx) = 0 then (if F (103) (6) = 0 then (up2 F (103) (10) (nI (nx + 1))) else (if ¬ nI (nx) = F (103) (5) then (up2 F (103) (10) (nI (nx + 1))) else F)) else F))
theorem t_read {L nx : Nat} {F G : FN} {R : RN} (hn : F 103 10 = nI nx) (hn4 : nx ≤ 401) (hx : nx ≤ 400 → ¬ G 106 nx = 0 → (F 103 6 = 0 ∨ ¬ nI nx = F 103 5) → nx < 400) {Q : Option PV → PH → Prop} (k : Q (some (.inl (read_r F G nx))) (hb (sL L) (read_F F G nx) G R sO)) : pz pP mSBModel_read [.inr (some (103))] (hb (sL L) F G R sO) Q := by
  show pw pP mSBModel_read (0, [some (.inr (some (103)))], [], 0, 0, hb (sL L) F G R sO) _
  refine pw_aload_n rfl rfl ?_
  refine px_getv (x := nI (nx)) rfl rfl rfl rfl (hn) ?_
  refine pw_sipush (v := nI (400)) rfl (by decide) ?_
  refine pw_if2p (cn_gt (by omega) (by omega)) rfl (t := 22) rfl (fun c1 => ?_) (fun c1 => ?_)
  · -- 22
    refine pw_iconst (v := (-1)) rfl (by decide) ?_
    exact pw_iret rfl rfl (Nat.zero_le _) (Nat.zero_le _) rfl (by simp only [read_r, read_F, c1, if_true, if_false] at k; exact k)
  · -- 10
    refine pw_aload_n rfl rfl ?_
    refine px_getr (r := some (106)) rfl rfl rfl rfl rfl ?_
    refine pw_aload_n rfl rfl ?_
    refine px_getv (x := nI (nx)) rfl rfl rfl rfl (hn) ?_
    refine px_zaldn (x := G (106) (nx)) rfl rfl (by omega) (by decide) (rfl) ?_
    refine pw_if1p (A := ¬ G (106) (nx) = 0) rfl rfl (t := 24) rfl (fun c2 => ?_) (fun c2 => ?_)
    · -- 24
      refine pw_aload_n rfl rfl ?_
      refine px_getv (x := F (103) (6)) rfl rfl rfl rfl (rfl) ?_
      refine pw_if1p (A := F (103) (6) = 0) rfl rfl (t := 45) rfl (fun c3 => ?_) (fun c3 => ?_)
      · -- 45
        have hx2 : nx < 400 := hx (by omega) (by first | exact c2 | assumption) (by first | exact Or.inl c3 | exact Or.inr c4)
        refine pw_aload_n rfl rfl ?_
        refine pw_dup rfl ?_
        refine px_getv (x := nI (nx)) rfl rfl rfl rfl (hn) ?_
        refine pw_iconst (v := nI (1)) rfl (by decide) ?_
        refine pw_iadd (z := nI (nx + 1)) rfl (nI_add _ _) ?_
        refine px_put rfl rfl rfl rfl rfl ?_
        refine pw_aload_n rfl rfl ?_
        refine px_getr (r := some (104)) rfl rfl rfl rfl rfl ?_
        refine pw_aload_n rfl rfl ?_
        refine px_getv (x := nI (nx + 1)) rfl rfl rfl rfl (up2_eq) ?_
        refine pw_iconst (v := nI (1)) rfl (by decide) ?_
        refine pw_isub (z := nI (nx + 1 - 1)) rfl (pk_sub (by omega)) ?_
        refine px_ialdn (x := G (104) (nx + 1 - 1)) rfl rfl (by omega) (by decide) (rfl) ?_
        exact pw_iret rfl rfl (Nat.zero_le _) (Nat.zero_le _) rfl (by simp only [read_r, read_F, c1, c2, c3, if_true, if_false] at k; exact k)
      · -- 31
        refine pw_aload_n rfl rfl ?_
        refine px_getv (x := nI (nx)) rfl rfl rfl rfl (hn) ?_
        refine pw_aload_n rfl rfl ?_
        refine px_getv (x := F (103) (5)) rfl rfl rfl rfl (rfl) ?_
        refine pw_if2p (A := ¬ nI (nx) = F (103) (5)) rfl rfl (t := 45) rfl (fun c4 => ?_) (fun c4 => ?_)
        · -- 45
          have hx2 : nx < 400 := hx (by omega) (by first | exact c2 | assumption) (by first | exact Or.inl c3 | exact Or.inr c4)
          refine pw_aload_n rfl rfl ?_
          refine pw_dup rfl ?_
          refine px_getv (x := nI (nx)) rfl rfl rfl rfl (hn) ?_
          refine pw_iconst (v := nI (1)) rfl (by decide) ?_
          refine pw_iadd (z := nI (nx + 1)) rfl (nI_add _ _) ?_
          refine px_put rfl rfl rfl rfl rfl ?_
          refine pw_aload_n rfl rfl ?_
          refine px_getr (r := some (104)) rfl rfl rfl rfl rfl ?_
          refine pw_aload_n rfl rfl ?_
          refine px_getv (x := nI (nx + 1)) rfl rfl rfl rfl (up2_eq) ?_
          refine pw_iconst (v := nI (1)) rfl (by decide) ?_
          refine pw_isub (z := nI (nx + 1 - 1)) rfl (pk_sub (by omega)) ?_
          refine px_ialdn (x := G (104) (nx + 1 - 1)) rfl rfl (by omega) (by decide) (rfl) ?_
          exact pw_iret rfl rfl (Nat.zero_le _) (Nat.zero_le _) rfl (by simp only [read_r, read_F, c1, c2, c3, c4, if_true, if_false] at k; exact k)
        · -- 42
          refine pw_bipush (v := (-2)) rfl (by decide) ?_
          exact pw_iret rfl rfl (Nat.zero_le _) (Nat.zero_le _) rfl (by simp only [read_r, read_F, c1, c2, c3, c4, if_true, if_false] at k; exact k)
    · -- 22
      refine pw_iconst (v := (-1)) rfl (by decide) ?_
      exact pw_iret rfl rfl (Nat.zero_le _) (Nat.zero_le _) rfl (by simp only [read_r, read_F, c1, c2, if_true, if_false] at k; exact k)
