/-! THE CLAIM OUT OF ONE WALK OF THE LAW'S BODY. Your part is whole_start (and what it stands on); all else here is the same for every law, but numbers. -/
def R_law : String := "ToldHouseLaw"
def lw_P (b : Addr) (xs : List Int32) (args : Array Value) (s : State) : Prop := args = #[.ref b] ∧ s.IntsAt b xs ∧ xs.length ≤ 4096 ∧ (Jvm.Cond.and given_1 narrow_1).before args s = true
def lw_Q (_ : Array Value) (s : State) (o : Outcome) (t : State) : Prop := o = .returned (some (.int 1)) ∧ Framed s o t [] 600000 7302250
def lw_Z (below : List Frame) (a : Array Value) (s : State) : State → Prop := fun t => ∃ o, t.status = .running ∧ Ended t below o ∧ lw_Q a s o t
/-- the law's own end, with 1 on the stack, nothing written that was there before, its room as the claim has it -/
theorem lw_ret {p : Program} {l : Launch} {e : Env} {s : State} {m : MethodId} {below : List Frame} {meth : Method} {c : Code} {b : Nat} (hx : p.tables.exec = Jvm.exec) (hb : c.code = code) (hr : meth.sig.returnType = ret) (hlocks : meth.locks = false) {pc : Nat} {H : Heap} {ls : Array Slot} (hdg : decode code pc = .ok (.ireturn, 1)) : W p l e room_1 s m #[Value.ref b] below meth c H [] 600000 7302250 (lw_Z below #[Value.ref b] s) (F0 m pc ls [.int 1]) := by
  intro T hT X
  obtain ⟨fs, hret, hrun, hended, hW, hframe⟩ := X.leave (v := some (.int 1)) (hlocks := hlocks) (fun h => by rw [hr] at h; cases h)
  have hmeth' : T.vm.method? m = some meth := X.method'
  refine ⟨T.setFrames fs, ?_, .returned (some (.int 1)), hrun, hended, rfl, ⟨_, rfl⟩, hW, hframe⟩
  jvm_step X.here [X.here.top, hx, hb, hdg, hmeth', hr, ret, narrow_b1]
  (try refine ⟨rfl, ?_⟩); (try refine ⟨rfl, ?_⟩)
  first | (intro acts; rw [hret _ acts rfl rfl rfl]) | rw [hret _ _ rfl rfl rfl]
  exact Steps.refl _
/-- what holds at the law's entry: the machine, the code, the tables' words (any of lw_tbl by 'hts w (by decide +kernel)'), the script of L ints xs at the cell b, what the Statement gives of the start (any of its parts by flat_of_before) -/
def lw_At (p : Program) (s : State) (m : MethodId) (meth : Method) (c : Code) (b L : Nat) (xs : Nat → Int32) : Prop :=
  p.tables.exec = Jvm.exec ∧ c.code = code ∧ meth.sig.returnType = ret ∧ c.maxLocals = 4 ∧ s.vm.findClass R_law = some m.cls ∧ (∀ w ∈ lw_tbl, w.before #[Value.ref b] s = true) ∧ va_X b L xs s s.heap ∧ b < s.heap.size ∧ meth.locks = false ∧ (Jvm.Cond.and given_1 narrow_1).before #[Value.ref b] s = true
/-! THE LAW OUT OF ONE RUN OF THE ABSTRACT MACHINE -/
theorem x_known {s : State} {args : Array Value} (hts : ∀ w ∈ xG, w.before args s = true) : ∃ D : va_G, ∀ (k : Nat) (q : vw_C), vwCl[k]? = some q → u_Kn s q.1 q.2.1 q.2.2 (D.1 k) (D.2 k) := by
  have h : ∀ a, ∃ q : ClassId × (Nat → Nat), a < 10 → u_Kn s (xon a) (xcT a) (xfn a) q.1 q.2 := by
    intro a
    by_cases ha : a < 10
    · obtain ⟨h1, h2, h3⟩ := xcw_use ha
      obtain ⟨cC, iS, hk⟩ := u_known (C := xon a) (T := xcT a) (N := xfn a) (n := xfn a) hts h3 (hts _ h1)
      exact ⟨(cC, iS), fun _ => hk⟩
    · exact ⟨(0, fun _ => 0), fun h => absurd h ha⟩
  refine ⟨(fun a => (Classical.choose (h a)).1, fun a => (Classical.choose (h a)).2), fun k q hq => ?_⟩
  have hk : k < 10 := (List.getElem?_eq_some_iff.mp hq).1
  rw [xvw hk] at hq
  cases hq
  exact Classical.choose_spec (h k) hk
theorem x_prim {s : State} {args : Array Value} {ty : FieldType} (hts : (Cond.arrayClass ty).before args s = true) : ∃ cA, ArrOfT s cA ty ∧ s.vm.findClass ("[" ++ ty.toString) = some cA := by
  obtain ⟨c, k, comp, h1, h2, h3⟩ := Cond.arrayClass_spec hts
  exact ⟨c, fun n z => ⟨fun k h => (by cases h), k, h2, comp, h3⟩, h1⟩
theorem x_obj {s : State} {C : String} (h : va_AO C s) : ∃ cA, ArrOfT s cA (.object C) ∧ va_RA s cA (.object C) := by
  obtain ⟨comp, c, k, h1, h2, h3, h4, h5⟩ := Cond.arrayOver_spec h
  exact ⟨c, fun n z => ⟨fun k h => (by cases h), k, h3, comp, h4⟩, k, comp, h3, h4, h1, h5⟩
theorem x_arrs {s : State} {args : Array Value} (hts : ∀ w ∈ xG, w.before args s = true) (hnw : ∀ w ∈ xNW, va_Nw w s) : ∃ dA : Nat → ClassId, ∀ (k : Nat) (q : ClassId × FieldType), (xtys dA)[k]? = some q → ArrOfT s q.1 q.2 ∧ va_RA s q.1 q.2 := by
  obtain ⟨c0, a0, b0⟩ := x_prim (hts _ xw_aint)
  obtain ⟨c1, a1, b1⟩ := x_prim (hts _ xw_along)
  obtain ⟨c2, a2, b2⟩ := x_prim (hts _ xw_aboolean)
  obtain ⟨c3, d3⟩ := x_obj (hnw _ (xao (t := 3) (by decide)))
  obtain ⟨c4, d4⟩ := x_obj (hnw _ (xao (t := 4) (by decide)))
  obtain ⟨c5, d5⟩ := x_obj (hnw _ (xao (t := 5) (by decide)))
  obtain ⟨c6, d6⟩ := x_obj (hnw _ (xao (t := 6) (by decide)))
  obtain ⟨c7, d7⟩ := x_obj (hnw _ (xao (t := 7) (by decide)))
  obtain ⟨c8, d8⟩ := x_obj (hnw _ (xao (t := 8) (by decide)))
  refine ⟨fun t => [c0, c1, c2, c3, c4, c5, c6, c7, c8].getD t 0, fun k q hq => ?_⟩
  have hk : k < 9 := (List.getElem?_eq_some_iff.mp hq).1
  match k, hk, hq with
  | 0, _, hq => cases hq; exact ⟨a0, b0⟩
  | 1, _, hq => cases hq; exact ⟨a1, b1⟩
  | 2, _, hq => cases hq; exact ⟨a2, b2⟩
  | 3, _, hq => cases hq; exact d3
  | 4, _, hq => cases hq; exact d4
  | 5, _, hq => cases hq; exact d5
  | 6, _, hq => cases hq; exact d6
  | 7, _, hq => cases hq; exact d7
  | 8, _, hq => cases hq; exact d8
/-- what is left to prove: the law's run, in pure Lean -/
def xLaw : Prop := ∀ X : Nat × (Nat → Int32), X.1 ≤ 4096 → ∃ n h', xrun X n (xTab 131).1 (0, xent 4 [.retAddr 0], []) (0, 0, fun _ => none) = some (some (.int 1), h') ∧ h'.1 ≤ 600000 ∧ h'.2.1 ≤ 7302250
set_option maxHeartbeats 4000000 in
theorem whole_of (hlaw : xLaw) {p : Program} {e : Env} {s : State} {m : MethodId} {below : List Frame} {meth : Method} {c : Code} (l : Launch) {b L : Nat} {xs : Nat → Int32} (hL : L ≤ 4096) (C0 : lw_At p s m meth c b L xs) : W p l e room_1 s m #[Value.ref b] below meth c s.heap [] 0 0 (lw_Z below #[Value.ref b] s) (entryFrame m ([Value.ref b] : List Value).toArray 4) := by
  obtain ⟨hx, hb, hr, hml, hown, hts, hX, hbl, hlocks, hgv⟩ := id C0
  have hG : ∀ w ∈ xG, w.before #[Value.ref b] s = true := fun w hw => hts w (List.mem_filter.mp hw).1
  have hnw : ∀ w ∈ xNW, va_Nw w s := by
    intro w hw
    have h1 := hts w (List.mem_filter.mp hw).1
    rcases xNW_is hw with ⟨a, i, y, o, rfl⟩ | ⟨C, rfl⟩
    · exact va_Nw.of rfl h1
    · exact va_AO.of h1
  obtain ⟨D, hD⟩ := x_known hG
  obtain ⟨dA, hdA⟩ := x_arrs hG hnw
  obtain ⟨n, h', hrun, hc, hs⟩ := hlaw (L, xs) hL
  have hK : xKx D dA s := ⟨⟨hD, hdA⟩, hnw⟩
  have hC : xCt p s m #[Value.ref b] meth c (xby 131) D dA s.heap.size (xow 131) 131 room_1 := ⟨hx, hb, hown, fun h => absurd h (by decide), hG, hK, Nat.le_refl _, by decide, by decide⟩
  have hrep : xrep D dA s.heap.size b (0, 0, fun _ => none) s.heap := ⟨rfl, fun k e h => by cases h⟩
  rw [lg_entry_eq]
  refine x_walk (l := l) (e := e) (below := below) (Q := lw_Z below #[Value.ref b] s) (j := 131) (D := D) (dA := dA) (b := s.heap.size) (scr := b) (X := (L, xs)) (f := (0, xent 4 [.retAddr 0], [])) (by decide) hC hml hX hbl n (fun k _ => x_met l D dA s.heap.size b hbl (L, xs) k) (0, 0, fun _ => none) (some (.int 1)) h' hrun _ s.heap [] 0 0 (xent_ok (vs := [.retAddr 0]) (by decide)) hrep va_S.rf (by show 0 + (h'.1 - 0) ≤ 600000; omega) (by show 0 + (h'.2.1 - 0) ≤ 7302250; omega) ?_
  intro I pc ls1 H1 locs1 hd hc2 hln hcase hr1 hS1
  obtain ⟨k, i, len, a, b0⟩ := I
  dsimp only at hd hc2 hln hcase
  rcases hcase with ⟨-, hz⟩ | ⟨rfl, v, hv, hrt⟩
  · cases hz
  · cases hv
    obtain rfl : len = 1 := by simpa [xlnk] using hln
    have hi : i = .ireturn := by
      simp only [xck] at hc2
      unfold xrt at hrt
      split at hrt
      · simp only [Bool.and_eq_true, decide_eq_true_eq] at hc2; exact hc2.1
      · simp only [Bool.and_eq_true, decide_eq_true_eq] at hc2; exact hc2.1
      · cases ‹Value.int 1 = _›
      · cases ‹Value.int 1 = _›
      · cases ‹Value.int 1 = _›
      · cases hrt
    subst hi
    refine va_forget (fun q hq => hS1.2.2 q hq) ?_
    refine W.widen (k := 600000) (n := 7302250) (by show 0 + (h'.1 - 0) ≤ _; omega) (by show 0 + (h'.2.1 - 0) ≤ _; omega) ?_
    exact lw_ret hx hb hr hlocks hd
