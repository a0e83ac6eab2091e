/-! THE START: out of the tables' words, what pr_K asks. -/
theorem pl_K {P : PP} {ws : List Cond} (oK : pk_K P ws) (oA : pk_A ws) {args : Array Value} {s : State} (hts : ∀ w ∈ ws, w.before args s = true) (hAO : ∀ (ci : Nat) (r : vw_C × List FieldType × Bool), (pp_cl P)[ci]? = some r → r.2.2 = true → va_AO r.1.1 s) : ∃ (D : va_G) (dA : Nat → ClassId), pr_K P D dA s := by
  have h1 : ∀ ci : Nat, ∃ x : ClassId × (Nat → Nat), ∀ r, (pp_cl P)[ci]? = some r → u_Kn s r.1.1 r.1.2.1 r.1.2.2 x.1 x.2 := by
    intro ci
    cases hr : (pp_cl P)[ci]? with
    | none => exact ⟨(0, fun _ => 0), fun r h => by cases h⟩
    | some r =>
      obtain ⟨hin, -, -, -, -, hinst, -⟩ := oK ci r hr
      obtain ⟨cC, iS, hK⟩ := u_known hts hin (hts _ hinst)
      exact ⟨(cC, iS), fun r2 h2 => by cases h2; exact hK⟩
  have h2 : ∀ ci : Nat, ∃ x : ClassId, ∀ r, (pp_cl P)[ci]? = some r → r.2.2 = true → ArrOfT s x (.object r.1.1) ∧ va_RA s x (.object r.1.1) := by
    intro ci
    cases hr : (pp_cl P)[ci]? with
    | none => exact ⟨0, fun r h => by cases h⟩
    | some r =>
      by_cases hb : r.2.2 = true
      · obtain ⟨comp, c, k, f1, f2, f3, f4, f5⟩ := Cond.arrayOver_spec (hAO ci r hr hb)
        exact ⟨c, fun r2 h2 _ => by cases h2; exact ⟨fun n z => ⟨fun k h => (by cases h), k, f3, comp, f4⟩, k, comp, f3, f4, f1, f5⟩⟩
      · exact ⟨0, fun r2 h2 h3 => by cases h2; exact absurd h3 hb⟩
  obtain ⟨cI, kI, compI, i1, i2, i3⟩ := Cond.arrayClass_spec (hts _ oA.1)
  obtain ⟨cZ, kZ, compZ, z1, z2, z3⟩ := Cond.arrayClass_spec (hts _ oA.2)
  refine ⟨(fun ci => (Classical.choose (h1 ci)).1, fun ci => (Classical.choose (h1 ci)).2), fun k => if k = 0 then cI else if k = 1 then cZ else Classical.choose (h2 (k - 3)), ⟨fun c q hq => ?_, fun k q hk => (by cases hk)⟩, ⟨fun n z => ⟨fun k h => (by cases h), kI, i2, compI, i3⟩, i1⟩, ⟨fun n z => ⟨fun k h => (by cases h), kZ, z2, compZ, z3⟩, z1⟩, fun ci r hr hb => ⟨hAO ci r hr hb, ?_⟩⟩
  · rw [List.getElem?_map] at hq
    cases hr : (pp_cl P)[c]? with
    | none => rw [hr] at hq; cases hq
    | some r =>
      rw [hr] at hq
      cases hq
      exact Classical.choose_spec (h1 c) r hr
  · have e : (if ci + 3 = 0 then cI else if ci + 3 = 1 then cZ else Classical.choose (h2 (ci + 3 - 3))) = Classical.choose (h2 ci) := by
      rw [if_neg (by omega), if_neg (by omega)]
    show ArrOfT s (if ci + 3 = 0 then cI else if ci + 3 = 1 then cZ else Classical.choose (h2 (ci + 3 - 3))) _ ∧ va_RA s (if ci + 3 = 0 then cI else if ci + 3 = 1 then cZ else Classical.choose (h2 (ci + 3 - 3))) _
    rw [e]
    exact Classical.choose_spec (h2 ci) r hr hb
