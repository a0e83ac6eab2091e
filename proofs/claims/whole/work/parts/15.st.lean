def R_law : String := "SubflowBundleLaw"
def lw_P (b : Addr) (xs : List Int32) (args : Array Value) (s : State) : Prop := args = #[.ref b] ∧ s.IntsAt b xs ∧ xs.length ≤ 2563 ∧ (Jvm.Cond.and given_1 narrow_1).before args s = true
def lw_Q (_ : Array Value) (s : State) (o : Outcome) (t : State) : Prop := o = .returned (some (.int 1)) ∧ Framed s o t [] 600000 7302250
def lw_Z (below : List Frame) (a : Array Value) (s : State) : State → Prop := fun t => ∃ o, t.status = .running ∧ Ended t below o ∧ lw_Q a s o t
/-- the law's own end, with 1 on the stack, nothing written that was there before, its room as the claim has it -/
theorem lw_ret {p : Program} {l : Launch} {e : Env} {s : State} {m : MethodId} {below : List Frame} {meth : Method} {c : Code} {b : Nat} (hx : p.tables.exec = Jvm.exec) (hb : c.code = code) (hr : meth.sig.returnType = ret) (hlocks : meth.locks = false) {pc : Nat} {H : Heap} {ls : Array Slot} (hdg : decode code pc = .ok (.ireturn, 1)) : W p l e room_1 s m #[Value.ref b] below meth c H [] 600000 7302250 (lw_Z below #[Value.ref b] s) (F0 m pc ls [.int 1]) := by
  intro T hT X
  obtain ⟨fs, hret, hrun, hended, hW, hframe⟩ := X.leave (v := some (.int 1)) (hlocks := hlocks) (fun h => by rw [hr] at h; cases h)
  have hmeth' : T.vm.method? m = some meth := X.method'
  refine ⟨T.setFrames fs, ?_, .returned (some (.int 1)), hrun, hended, rfl, ⟨_, rfl⟩, hW, hframe⟩
  jvm_step X.here [X.here.top, hx, hb, hdg, hmeth', hr, ret, narrow_b1]
  (try refine ⟨rfl, ?_⟩); (try refine ⟨rfl, ?_⟩)
  first | (intro acts; rw [hret _ acts rfl rfl rfl]) | rw [hret _ _ rfl rfl rfl]
  exact Steps.refl _
/-- what holds at the law's entry: the machine, the code, the tables' words (any of lw_tbl by 'hts w (by decide +kernel)'), the script of L ints xs at the cell b, what the Statement gives of the start (any of its parts by flat_of_before) -/
def lw_At (p : Program) (s : State) (m : MethodId) (meth : Method) (c : Code) (b L : Nat) (xs : Nat → Int32) : Prop :=
  p.tables.exec = Jvm.exec ∧ c.code = code ∧ meth.sig.returnType = ret ∧ c.maxLocals = 4 ∧ s.vm.findClass R_law = some m.cls ∧ (∀ w ∈ lw_tbl, w.before #[Value.ref b] s = true) ∧ va_X b L xs s s.heap ∧ b < s.heap.size ∧ meth.locks = false ∧ (Jvm.Cond.and given_1 narrow_1).before #[Value.ref b] s = true
theorem stAO (ci : Nat) (r : vw_C × List FieldType × Bool) (hr : (pp_cl pP)[ci]? = some r) (hb : r.2.2 = true) : Cond.arrayOver (.object r.1.1) ∈ lw_tbl := by
  have hr : pCl[ci]? = some r := hr
  match ci, hr with
  | 0, hr =>
    cases Option.some.inj hr
    exact List.mem_append_right _ (List.mem_append_right _ (List.mem_append_left _ (List.mem_of_getElem? (i := 12) rfl)))
  | 1, hr =>
    cases Option.some.inj hr
    exact List.mem_append_right _ (List.mem_append_left _ (List.mem_of_getElem? (i := 70) rfl))
  | 2, hr =>
    cases Option.some.inj hr
    exact absurd hb (by decide)
  | 3, hr =>
    cases Option.some.inj hr
    exact absurd hb (by decide)
  | 4, hr =>
    cases Option.some.inj hr
    exact List.mem_append_right _ (List.mem_append_left _ (List.mem_of_getElem? (i := 57) rfl))
  | 5, hr =>
    cases Option.some.inj hr
    exact absurd hb (by decide)
  | 6, hr =>
    cases Option.some.inj hr
    exact List.mem_append_right _ (List.mem_append_left _ (List.mem_of_getElem? (i := 117) rfl))
  | 7, hr =>
    cases Option.some.inj hr
    exact absurd hb (by decide)
  | 8, hr =>
    cases Option.some.inj hr
    exact absurd hb (by decide)
  | 9, hr =>
    cases Option.some.inj hr
    exact absurd hb (by decide)
  | n + 10, hr => cases hr
/-- the claim out of ONE run of the pure machine -/
theorem st_open (hrun : ∀ (L : Nat) (xs : Nat → Int32), L ≤ 2563 → ∃ (n : Nat) (h1 : PH), pm_run pP n mSBLaw_law (pm_en pP mSBLaw_law [.inr (some 0)] [.inl (2, L, xs)]) = some (some (.inl 1), h1))
    {p : Program} {e : Env} {s : State} {m : MethodId} {below : List Frame} {meth : Method} {c : Code} (l : Launch) {b L : Nat} {xs : Nat → Int32} (hL : L ≤ 2563) (C0 : lw_At p s m meth c b L xs) : W p l e room_1 s m #[Value.ref b] below meth c s.heap [] 0 0 (lw_Z below #[Value.ref b] s) (entryFrame m ([Value.ref b] : List Value).toArray 4) := by
  obtain ⟨hx, hb, hr, hml, hown, hts, hX, hbl, hlocks, -⟩ := C0
  have hW : ∀ w ∈ pWs, w.before #[Value.ref b] s = true := fun w hw => hts w (List.mem_filter.mp hw).1
  have hN : ∀ w ∈ pNs, va_Nw w s := by
    intro w hw
    have h1 := hts w (List.mem_filter.mp hw).1
    rcases nkS w hw with ⟨a1, i1, c1, n1, d1, x1, rfl⟩ | ⟨a1, i1, c1, x1, rfl⟩
    · exact va_Nw.of rfl h1
    · exact va_Nw.of rfl h1
  obtain ⟨D, dA, hK⟩ := pl_K nkK nkA hW (fun ci r hr hb => va_AO.of (hts _ (stAO ci r hr hb)))
  obtain ⟨n, h1, hrun⟩ := hrun L xs hL
  have C : ps_C (p, l, e, room_1, s, m, #[Value.ref b], below, meth, c, lw_Z below #[Value.ref b] s) pP D dA b s.heap.size mSBLaw_law pWs pNs :=
    ⟨hx, hb, hml, hown, hW, hN, hK, rfl, fun q => absurd q (by decide), hbl⟩
  have T := ps_run pP pWs pNs nkAll n mSBLaw_law _ (some (.inl 1)) h1 hrun _ D dA b s.heap.size C (fun pc ins ls st kc ks hc hi => ?_)
  · rw [lg_entry_eq]
    refine T s.heap [] _ ⟨⟨⟨L, xs, rfl⟩, rfl, fun i c1 hi => ?_⟩, pr_L.entry b s.heap.size [.inr (some 0)] 4 (by decide), fun q hq => (by cases hq), fun _ _ => rfl⟩
    cases i with
    | zero =>
      cases hi
      exact Or.inl ⟨rfl, hX⟩
    | succ i => cases hi
  · intro H locs a J
    obtain ⟨len, hd, hlen⟩ := nkC mSBLaw_law pc ins hc
    obtain ⟨g1, g2, g3⟩ := pm_ret_ret (pm_i_ret hi)
    rcases g3 with ⟨x1, ty, rfl, rfl, -, -, q⟩ | ⟨x1, ty, rfl, rfl, -, -, q⟩ | ⟨-, -, -, q⟩
    · cases q
      cases hlen 1 rfl
      exact va_forget J.2.2.1 (W.widen g1 g2 (lw_ret hx hb hr hlocks hd))
    · cases q
    · cases q
