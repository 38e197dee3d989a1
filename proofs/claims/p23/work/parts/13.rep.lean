/-! WHAT THE ABSTRACT STATE SAYS OF THE MACHINE -/
abbrev vwCl : List vw_C := [(RX0, TX0, 2), (RX1, TX1, 6), (RX2, TX2, 13), (RX3, TX3, 9), (RX4, TX4, 3), (RX5, TX5, 2), (RX6, TX6, 2), (RX7, TX7, 3), (RX8, TX8, 10), (RX9, TX9, 30)]
/-- a value: addresses count from b; the script lies at scr -/
def xv (b scr : Nat) (v : Value) : Value := match v with
  | .ref a => .ref (b + a)
  | .retAddr _ => .ref scr
  | v => v
theorem xv_cat (b scr : Nat) (v : Value) : (xv b scr v).category = v.category := by cases v <;> rfl
/-- a cell -/
def xce (dA : Nat → ClassId) (b scr : Nat) (e : xE) : va_E := match e with
  | .inl (t, n, .inl f) => .inl (dA t, n, .inl f)
  | .inl (t, n, .inr (.inl f)) => .inl (dA t, n, .inr (.inl f))
  | .inl (t, n, .inr (.inr f)) => .inl (dA t, n, .inr (.inr (.inr (.inr (fun j => (f j).map (fun a => b + a))))))
  | .inr (ci, fs) => .inr (ci, fs.map (xv b scr))
def xrep (D : va_G) (dA : Nat → ClassId) (b scr : Nat) (h : xH) (H : Heap) : Prop := H.size = b + h.1 ∧ ∀ (k : Nat) (e : xE), h.2.2 k = some e → k < h.1 ∧ va_at D vwCl (b + k, xce dA b scr e) H
theorem xrep.at {D : va_G} {dA : Nat → ClassId} {b scr : Nat} {h : xH} {H : Heap} (hr : xrep D dA b scr h H) {q : Nat} {e : xE} (he : h.2.2 q = some e) : va_P D vwCl [(b + q, xce dA b scr e)] H := by
  intro k x hx
  have hz : k < 1 := (List.getElem?_eq_some_iff.mp hx).1
  rw [show k = 0 by omega] at hx
  cases hx
  exact (hr.2 q e he).2
theorem xrep.set {D : va_G} {dA : Nat → ClassId} {b scr : Nat} {h : xH} {H H1 : Heap} (hr : xrep D dA b scr h H) {q : Nat} {e0 e : xE} (he : h.2.2 q = some e0) (z : H1.size = H.size) (o : ∀ p : Nat, p ≠ b + q → H1[p]? = H[p]?) (ha : va_at D vwCl (b + q, xce dA b scr e) H1) : xrep D dA b scr (xput h q e) H1 := by
  refine ⟨by rw [z]; exact hr.1, fun k e' hk => ?_⟩
  show k < h.1 ∧ _
  by_cases hkq : k = q
  · subst hkq
    have hk : some e = some e' := by simpa [xput, xup] using hk
    cases hk
    exact ⟨(hr.2 k e0 he).1, ha⟩
  · have hk : h.2.2 k = some e' := by simpa [xput, xup, hkq] using hk
    exact ⟨(hr.2 k e' hk).1, ((hr.2 k e' hk).2).kept (o (b + k) (by omega))⟩
theorem xrep.push {D : va_G} {dA : Nat → ClassId} {b scr n : Nat} {h : xH} {H H1 : Heap} (hr : xrep D dA b scr h H) {e : xE} (z : H1.size = H.size + 1) (o : ∀ p : Nat, p < H.size → H1[p]? = H[p]?) (ha : va_at D vwCl (b + h.1, xce dA b scr e) H1) : xrep D dA b scr (xnew h n e) H1 := by
  refine ⟨by rw [z, hr.1]; show b + h.1 + 1 = b + (h.1 + 1); omega, fun k e' hk => ?_⟩
  show k < h.1 + 1 ∧ _
  by_cases hkq : k = h.1
  · subst hkq
    have hk : some e = some e' := by simpa [xnew, xup] using hk
    cases hk
    exact ⟨Nat.lt_succ_self _, ha⟩
  · have hk : h.2.2 k = some e' := by simpa [xnew, xup, hkq] using hk
    have h2 := hr.2 k e' hk
    exact ⟨by omega, h2.2.kept (o (b + k) (by rw [hr.1]; omega))⟩
/-- the array classes of the tags -/
def xtys (dA : Nat → ClassId) : List (ClassId × FieldType) := [(dA 0, .int), (dA 1, .long), (dA 2, .boolean), (dA 3, .object RX5), (dA 4, .object RX7), (dA 5, .object RX1), (dA 6, .object RX6), (dA 7, .object RX2), (dA 8, .object RX4)]
/-- the words that go by the state -/
def xNW : List Cond := lw_tbl.filter (fun w => match w with
  | .methodLinkNest _ _ _ _ => true
  | .arrayOver (.object _) => true
  | _ => false)
def xKx (D : va_G) (dA : Nat → ClassId) (U : State) : Prop := va_K D vwCl (xtys dA) U ∧ ∀ w ∈ xNW, va_Nw w U
theorem xNW_is {w : Cond} (h : w ∈ xNW) : (∃ a i y o, w = .methodLinkNest a i y o) ∨ ∃ C, w = .arrayOver (.object C) := by
  have h := (List.mem_filter.mp h).2
  split at h
  · exact Or.inl ⟨_, _, _, _, rfl⟩
  · exact Or.inr ⟨_, rfl⟩
  · cases h
theorem xKx.warm {D : va_G} {dA : Nat → ClassId} {s U : State} (hW : s.WarmedH U.vm) (h : xKx D dA s) : xKx D dA U := by
  refine ⟨va_K.moved hW.alike h.1, fun w hw => ?_⟩
  rcases xNW_is hw with ⟨a, i, y, o, rfl⟩ | ⟨C, rfl⟩
  · exact va_Nw.warmM hW (h.2 _ hw)
  · exact va_AO.moved hW.alike (h.2 _ hw)
theorem xKx.same {D : va_G} {dA : Nat → ClassId} {s U : State} (hvm : s.vm = U.vm) (h : xKx D dA s) : xKx D dA U := by
  have hal : s.vm.Alike U.vm := hvm ▸ Vm.Alike.refl s.vm
  refine ⟨va_K.moved hal h.1, fun w hw => ?_⟩
  rcases xNW_is hw with ⟨a, i, y, o, rfl⟩ | ⟨C, rfl⟩
  · exact va_Nw.same rfl hvm (h.2 _ hw)
  · exact va_AO.moved hal (h.2 _ hw)
/-! the locals -/
def xas (b scr : Nat) (L : List (Option Value)) : List (Nat × Value) := (List.range L.length).filterMap (fun i => (xget L i).map (fun v => (i, xv b scr v)))
theorem xget_lt {L : List (Option Value)} {i : Nat} {v : Value} (h : xget L i = some v) : i < L.length := by
  rcases Nat.lt_or_ge i L.length with q | q
  · exact q
  · unfold xget at h
    rw [List.getElem?_eq_none q] at h
    cases h
theorem xas_mem {b scr : Nat} {L : List (Option Value)} {i : Nat} {w : Value} : (i, w) ∈ xas b scr L ↔ ∃ v, xget L i = some v ∧ w = xv b scr v := by
  unfold xas
  rw [List.mem_filterMap]
  constructor
  · rintro ⟨k, -, hk⟩
    cases hg : xget L k with
    | none => rw [hg] at hk; cases hk
    | some v => rw [hg] at hk; cases hk; exact ⟨v, hg, rfl⟩
  · rintro ⟨v, hv, rfl⟩
    exact ⟨i, List.mem_range.mpr (xget_lt hv), by rw [hv]; rfl⟩
def xlv (b scr : Nat) (ls : Array Slot) (n : Nat) (L : List (Option Value)) : Prop := L.length = n ∧ lv_has ls n (xas b scr L)
theorem xlv.get {b scr : Nat} {ls : Array Slot} {n i : Nat} {L : List (Option Value)} {v : Value} (h : xlv b scr ls n L) (hg : xget L i = some v) : ls[i]? = some (.val (xv b scr v)) := h.2.2.2 (i, xv b scr v) (xas_mem.mpr ⟨v, hg, rfl⟩)
theorem lv_less {ls : Array Slot} {n : Nat} {l l' : List (Nat × Value)} (h : lv_has ls n l) (hs : ∀ q ∈ l', q ∈ l) : lv_has ls n l' := ⟨h.1, h.2.1, fun q hq => h.2.2 q (hs q hq)⟩
theorem xcl_len (L : List (Option Value)) (i : Nat) : (xcl L i).length = L.length := by
  unfold xcl
  split
  · rfl
  · split
    · split
      · simp
      · rfl
    · rfl
theorem xget_set {L : List (Option Value)} {i j : Nat} {o : Option Value} {v : Value} (h : xget (L.set i o) j = some v) : (j = i ∧ o = some v) ∨ (j ≠ i ∧ xget L j = some v) := by
  by_cases hji : j = i
  · subst hji
    have hl : j < (L.set j o).length := xget_lt h
    rw [List.length_set] at hl
    refine Or.inl ⟨rfl, ?_⟩
    unfold xget at h
    rw [List.getElem?_set_self hl] at h
    exact h
  · refine Or.inr ⟨hji, ?_⟩
    unfold xget at h ⊢
    rw [List.getElem?_set_ne (Ne.symm hji)] at h
    exact h
theorem xcl_get {L : List (Option Value)} {i j : Nat} {v : Value} (h : xget (xcl L i) j = some v) : xget L j = some v ∧ ¬ (j + 1 = i ∧ v.category = 2) := by
  unfold xcl at h
  split at h
  · exact ⟨h, fun q => by omega⟩
  · rename_i k
    split at h
    · rename_i u hu
      split at h
      · rcases xget_set h with ⟨rfl, q⟩ | ⟨q, h⟩
        · cases q
        · exact ⟨h, fun z => q (by omega)⟩
      · rename_i hno
        refine ⟨h, ?_⟩
        rintro ⟨q1, q2⟩
        have : j = k := by omega
        subst this
        rw [hu] at h
        cases h
        exact hno q2
    · rename_i hno
      refine ⟨h, ?_⟩
      rintro ⟨q1, q2⟩
      have : j = k := by omega
      subst this
      rw [hno] at h
      cases h
theorem xset1_sub {b scr : Nat} {L : List (Option Value)} {i : Nat} {v : Value} : ∀ q ∈ xas b scr (xset1 L i v), q ∈ (i, xv b scr v) :: (xas b scr L).filter (fun q => !(q.1 == i) && !(q.1 + 1 == i && q.2.category == 2)) := by
  rintro ⟨j, w⟩ hq
  obtain ⟨u, hu, rfl⟩ := xas_mem.mp hq
  rcases xget_set hu with ⟨rfl, q⟩ | ⟨hji, hu⟩
  · cases q
    exact List.mem_cons_self
  · obtain ⟨hu, hno⟩ := xcl_get hu
    refine List.mem_cons_of_mem _ (List.mem_filter.mpr ⟨xas_mem.mpr ⟨u, hu, rfl⟩, ?_⟩)
    simp only [Bool.and_eq_true, Bool.not_eq_true', beq_eq_false_iff_ne, ne_eq, Bool.and_eq_false_iff]
    refine ⟨hji, ?_⟩
    by_cases h1 : j + 1 = i
    · exact Or.inr (fun h2 => hno ⟨h1, by rw [xv_cat] at h2; exact h2⟩)
    · exact Or.inl h1
theorem xset2_sub {b scr : Nat} {L : List (Option Value)} {i : Nat} {v : Value} : ∀ q ∈ xas b scr (xset2 L i v), q ∈ (i, xv b scr v) :: (xas b scr L).filter (fun q => !(q.1 == i) && (!(q.1 == i + 1) && !(q.1 + 1 == i && q.2.category == 2))) := by
  rintro ⟨j, w⟩ hq
  obtain ⟨u, hu, rfl⟩ := xas_mem.mp hq
  rcases xget_set hu with ⟨rfl, q⟩ | ⟨hj1, hu⟩
  · cases q
  rcases xget_set hu with ⟨rfl, q⟩ | ⟨hji, hu⟩
  · cases q
    exact List.mem_cons_self
  · obtain ⟨hu, hno⟩ := xcl_get hu
    refine List.mem_cons_of_mem _ (List.mem_filter.mpr ⟨xas_mem.mpr ⟨u, hu, rfl⟩, ?_⟩)
    simp only [Bool.and_eq_true, Bool.not_eq_true', beq_eq_false_iff_ne, ne_eq, Bool.and_eq_false_iff]
    refine ⟨hji, hj1, ?_⟩
    by_cases h1 : j + 1 = i
    · exact Or.inr (fun h2 => hno ⟨h1, by rw [xv_cat] at h2; exact h2⟩)
    · exact Or.inl h1
theorem xset1_len (L : List (Option Value)) (i : Nat) (v : Value) : (xset1 L i v).length = L.length := by unfold xset1; rw [List.length_set, xcl_len]
theorem xset2_len (L : List (Option Value)) (i : Nat) (v : Value) : (xset2 L i v).length = L.length := by unfold xset2; rw [List.length_set, List.length_set, xcl_len]
