/-! WHO WRITES WHERE: the class below place 103, the reference from 103 on. -/
theorem cship_fr {F : FN} {a e x sz i k : Nat} {t k1 k2 k3 k4 k5 : Int32} (h1 : ¬ i = e) (h2 : ¬ i = x) : cship F a e x sz t k1 k2 k3 k4 k5 i k = F i k := by
  unfold cship
  split
  · rfl
  · split
    · rfl
    · unfold cfill_F append_F
      (repeat (first | rw [up2_eq] | rw [up2_ne (by omega)]))
theorem chd_G_fr {G : FN} {e c b m nx bu i : Nat} (h1 : ¬ i = e + 1) (h2 : ¬ i = 94) : chd_G G e c b m nx bu i = G i := by
  unfold chd_G ctake_G
  split
  · split
    · rw [(chu_spec _ _ _).2 i h2, (ctk_spec _ _ _).2 i h1]
    · rfl
  · rfl
theorem cshut_fr {F : FN} {a i k : Nat} (h : ¬ (a ≤ i ∧ i ≤ a + 9)) : cshut_F F a i k = F i k := by
  unfold cshut_F
  (repeat (first | rw [up2_eq] | rw [up2_ne (by omega)]))
theorem cae_fr {F : FN} {a y sc i k : Nat} {t : Int32} (h1 : ¬ i = a) (h2 : ¬ i = 89) : cae F a y sc t i k = F i k := by
  unfold cae
  dsimp only
  rw [up2_ne (by omega), up2_ne (by omega), up2_ne (by omega)]
  split
  · rfl
  · exact cmeas_o (by omega)
theorem cadd_fr {F : FN} {a x sc hi m u un i k : Nat} (h1 : ¬ i = a) (h2 : ¬ i = x) : cadd_F F a x sc hi m u un i k = F i k := by
  unfold cadd_F
  (repeat (first | rw [up2_eq] | rw [up2_ne (by omega)]))
theorem ctr0_fr {F : FN} {a s x sz i k : Nat} {t : Int32} (h1 : ¬ i = a) (h2 : ¬ i = s) (h3 : ¬ i = a + 1) (h4 : ¬ i = x) : ctr0_F F a s x sz t i k = F i k := by
  unfold ctr0_F
  rw [cship_fr h3 h4, ctr_ne (by omega) (by omega) (by omega)]
theorem ctr1_fr {F G : FN} {a s x sz c u m ln i k : Nat} {t : Int32} (h1 : ¬ i = a) (h2 : ¬ i = s) (h3 : ¬ i = a + 1) (h4 : ¬ i = x) : ctr1_F F G a s x sz t c u m ln i k = F i k := by
  unfold ctr1_F
  rw [cship_fr h3 h4, ctr_ne (by omega) (by omega) (by omega)]
theorem cns_F_fr {F G : FN} {a s sc hi u m i k : Nat} (h1 : ¬ i = a) (h2 : ¬ i = s) (h3 : ¬ i = 89) : cns_F F G a s sc hi u m i k = F i k := by
  unfold cns_F
  rw [cadd_fr h1 h2, ccn_F (by omega)]
theorem cns_G_fr {F G : FN} {u m i : Nat} (h : ¬ i = 91) : cns_G F G u m i = G i := ccn_G h m u (F, G)
theorem csyn_fr {F : FN} {a s sc hi i k : Nat} {tk : Int32} (h1 : ¬ i = a) (h2 : ¬ i = s) : csyn F a s sc hi tk i k = F i k := by
  unfold csyn
  rw [cadd_fr h1 h2]
  (repeat (first | rw [up2_eq] | rw [up2_ne (by omega)]))
/-! the reference -/
theorem tship_fr {F G : FN} {q fl i : Nat} {x1 x2 x3 x4 x5 : Int32} (h : i < 124) : tship F G q fl x1 x2 x3 x4 x5 i = G i := by
  unfold tship
  split
  · rfl
  · split
    · rfl
    · exact tput_row (by omega)
theorem trans_fr {F G : FN} {p f fl i : Nat} (h : i < 103) : trans_G F G p f fl i = G i := by
  by_cases e : f = 0
  · subst e
    rw [trans_0, tship_fr (by omega)]
    unfold tcnt
    rw [up2_row (by omega), up2_row (by omega)]
  · rw [trans_1 e, tship_fr (by omega)]
    unfold tcnt
    rw [up2_row (by omega), up2_row (by omega)]
theorem ring_fr {F G : FN} {p lw fl i : Nat} (h : i < 103) : ring_G F G p lw fl i = G i := by
  unfold ring_G
  split
  · split <;> rw [trans_fr h, up2_row (by omega), up2_row (by omega), up2_row (by omega)]
  · split <;> rw [trans_fr h, up2_row (by omega), up2_row (by omega), up2_row (by omega)]
theorem meas_fr {G : FN} {p i : Nat} {x : Int32} (h : i < 103) : meas_G G p x i = G i := by
  funext w
  exact meas_o (by omega)
theorem aeG_fr {F G : FN} {p l i : Nat} (h : i < 103) : aeG F G p l i = G i := by
  unfold aeG
  split
  · split <;> rw [up2_row (by omega), up2_row (by omega), up2_row (by omega)]
  · split <;> rw [up2_row (by omega), up2_row (by omega), meas_fr h, up2_row (by omega)]
theorem a5G_fr {F G : FN} {p lw hi i : Nat} {a : Int32} (h : i < 103) : a5G F G p a lw hi i = G i := by
  unfold a5G
  cases tla G p a (hi - lw) lw none with
  | none => rfl
  | some l => exact aeG_fr h
theorem a5F_fr {F G : FN} {p lw hi i k : Nat} {a : Int32} (h : i < 103) : a5F F G p a lw hi i k = F i k := by
  unfold a5F
  cases tla G p a (hi - lw) lw none with
  | none => rfl
  | some l =>
    show aeF F i k = F i k
    unfold aeF
    (repeat (first | rw [up2_eq] | rw [up2_ne (by omega)]))
theorem akF_fr {F : FN} {b c : Int32} {i k : Nat} (h : i < 103) : akF F b c i k = F i k := by
  unfold akF
  (repeat (first | rw [up2_eq] | rw [up2_ne (by omega)]))
theorem tans_fr {F G : FN} {p fl nx bu i : Nat} (h : i < 124) : tans F G p fl nx bu i = G i := tship_fr h
theorem abSF_fr {F G : FN} {p i k : Nat} {b : Int32} (h : i < 103) : abSF F G p b i k = F i k := by
  unfold abSF
  split
  · split
    · rfl
    · (repeat (first | rw [up2_eq] | rw [up2_ne (by omega)]))
  · rfl
theorem abSG_fr {F G : FN} {p fl nx bu i : Nat} {b : Int32} (h : i < 103) : abSG F G p b fl nx bu i = G i := by
  unfold abSG
  split
  · split
    · exact tship_fr (by omega)
    · rw [tans_fr (by omega), up2_row (by omega)]
  · exact tans_fr (by omega)
theorem abDG_fr {F G : FN} {p a b m fl nx bu i : Nat} (h : i < 103) : abDG F G p a b m fl nx bu i = G i := by
  unfold abDG
  split
  · exact tans_fr (by omega)
  · split
    · exact tans_fr (by omega)
    · rw [tans_fr (by omega), tdn_row (by omega) (by omega)]
theorem shut_fr {G : FN} {p i : Nat} (h : i < 103) : shut_G G p i = G i := by
  unfold shut_G
  rw [up2_row (by omega), up2_row (by omega), up2_row (by omega), up2_row (by omega)]
theorem bend_fr {F G : FN} {p m hi fl i : Nat} (h : i < 103) : bend F G p m hi fl i = G i := by
  unfold bend
  split
  · rw [trans_fr h, up2_row (by omega)]
  · rw [trans_fr h, up2_row (by omega), up2_row (by omega)]
theorem bendS_fr {F G : FN} {p hi fl i : Nat} (h : i < 103) : bendS F G p hi fl i = G i := by
  unfold bendS
  split
  · rw [trans_fr h, up2_row (by omega)]
  · rw [trans_fr h, up2_row (by omega), up2_row (by omega)]
theorem tb0_fr {F G : FN} {p m hi i : Nat} (h : i < 103) : tb0 F G p m hi i = G i := by
  unfold tb0
  rw [up2_row (by omega), up2_row (by omega)]
theorem tbegin_fr {F G : FN} {p u m hi fl i : Nat} (h : i < 103) : (tbegin F G p u m hi fl).1 i = F i ∧ (tbegin F G p u m hi fl).2 i = G i := by
  refine ⟨?_, ?_⟩
  · funext k
    exact tbn_F (by omega) m 0 _
  · show bend _ _ p m hi fl i = G i
    rw [bend_fr h, tbn_row (by omega) (by omega) (by omega)]
    exact tb0_fr h
/-! the coupling looks at no other place -/
def frC (F F2 G G2 : FN) : Prop := (∀ i k, 103 ≤ i ∨ i = 0 → F2 i k = F i k) ∧ ∀ i, 103 ≤ i ∨ i = 0 → G2 i = G i
def frT (f f2 g g2 : FN) : Prop := (∀ i k, i < 103 → f2 i k = f i k) ∧ ∀ i, i < 103 → g2 i = g i
theorem frC_trans {F F2 F3 G G2 G3 : FN} (h1 : frC F F2 G G2) (h2 : frC F2 F3 G2 G3) : frC F F3 G G3 := ⟨fun i k a => (h2.1 i k a).trans (h1.1 i k a), fun i a => (h2.2 i a).trans (h1.2 i a)⟩
theorem frT_trans {F F2 F3 G G2 G3 : FN} (h1 : frT F F2 G G2) (h2 : frT F2 F3 G2 G3) : frT F F3 G G3 := ⟨fun i k a => (h2.1 i k a).trans (h1.1 i k a), fun i a => (h2.2 i a).trans (h1.2 i a)⟩
theorem frC_id {F G : FN} : frC F F G G := ⟨fun _ _ _ => rfl, fun _ _ => rfl⟩
theorem frT_id {F G : FN} : frT F F G G := ⟨fun _ _ _ => rfl, fun _ _ => rfl⟩
theorem CI_t {θ : TG} {Γ : Nat → PG} {F G f g f2 g2 : FN} {R : RN} (h : CI θ Γ F G R f g) (hf : frC f f2 g g2) : CI θ Γ F G R f2 g2 := by
  refine CI.mk h.rw (CT_congr h.ct (fun _ _ _ _ => rfl) (fun _ _ _ => rfl) (fun k => hf.1 103 k (by omega)) (fun r a => hf.2 r (by omega))) h.st (fun p hp => ?_) (fun p hp => ?_)
  · exact CX_congr (h.rw.sg p hp) (h.px p hp) (Nat.le_refl _) rfl (fun _ _ => rfl) (fun _ _ _ _ => rfl) (fun r a b => by rw [hf.2 r (by omega)]) (fun r m a b c => by rw [hf.2 r (by omega)])
  · exact CY_congr (h.rw.pf p hp) (h.rw.pb p hp) (h.py p hp) (Nat.le_refl _) (Nat.le_refl _) rfl rfl id rfl rfl (fun _ _ _ _ => rfl) (fun q _ => by rw [hf.2 124 (by omega)]) (fun q r k _ a b _ => by rw [hf.2 r (by omega)])
theorem CI_c {θ : TG} {Γ : Nat → PG} {F G f g F2 G2 : FN} {R : RN} (h : CI θ Γ F G R f g) (hf : frT F F2 G G2) : CI θ Γ F2 G2 R f g := by
  refine CI.mk h.rw (CT_congr h.ct (fun i k _ b => hf.1 i k b) (fun i a _ => hf.2 i a) (fun _ => rfl) (fun _ _ => rfl)) (fun u hu => by rw [hf.2 90 (by omega)]; exact h.st u hu) (fun p hp => ?_) (fun p hp => ?_)
  · exact CX_congr (h.rw.sg p hp) (h.px p hp) (Nat.le_refl _) rfl (fun k _ => hf.1 _ k (by omega)) (fun i k a b => hf.1 i k (by omega)) (fun _ _ _ => rfl) (fun _ _ _ _ _ => rfl)
  · exact CY_congr (h.rw.pf p hp) (h.rw.pb p hp) (h.py p hp) (Nat.le_refl _) (Nat.le_refl _) rfl rfl id rfl rfl (fun i k a b => hf.1 i k (by omega)) (fun _ _ => rfl) (fun _ _ _ _ _ _ _ => rfl)
