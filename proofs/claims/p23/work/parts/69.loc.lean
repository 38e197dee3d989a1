/-! WHERE A RUN STAYS: what begins within a set of cells that points only into itself writes nowhere else -/
def rv (R : Nat → Prop) (v : Value) : Prop := match v with
  | .ref q => R q
  | _ => True
def rl (R : Nat → Prop) (L : List (Option Value)) : Prop := ∀ v, some v ∈ L → rv R v
def rs (R : Nat → Prop) (st : List Value) : Prop := ∀ v, v ∈ st → rv R v
def rc (R : Nat → Prop) (e : xE) : Prop := match e with
  | .inr (_, fs) => rs R fs
  | .inl (_, _, .inr (.inr g)) => ∀ i p, g i = some p → R p
  | _ => True
def rH (R : Nat → Prop) (h : xH) : Prop := 79 ≤ h.1 ∧ ∀ q e, R q → h.2.2 q = some e → rc R e
def rO (R : Nat → Prop) (h h' : xH) : Prop := ∀ p, ¬ R p → h'.2.2 p = h.2.2 p
section LOC
variable {R : Nat → Prop}
theorem rs_c {v : Value} {st : List Value} (h1 : rv R v) (h2 : rs R st) : rs R (v :: st) := fun u hu => by
  rcases List.mem_cons.mp hu with rfl | hu
  · exact h1
  · exact h2 u hu
theorem rs_t {v : Value} {st : List Value} (h : rs R (v :: st)) : rs R st := fun u hu => h u (List.mem_cons_of_mem _ hu)
theorem rs_h {v : Value} {st : List Value} (h : rs R (v :: st)) : rv R v := h v List.mem_cons_self
theorem rl_set {L : List (Option Value)} {i : Nat} {o : Option Value} (h : rl R L) (ho : ∀ v, o = some v → rv R v) : rl R (L.set i o) := fun v hv => by
  rcases List.mem_or_eq_of_mem_set hv with h1 | h1
  · exact h v h1
  · exact ho v h1.symm
theorem rl_get {L : List (Option Value)} {i : Nat} {v : Value} (h : rl R L) (hv : xget L i = some v) : rv R v := by
  unfold xget at hv
  split at hv
  · rename_i o ho
    subst hv
    exact h v (List.mem_of_getElem? ho)
  · cases hv
theorem rl_cl {L : List (Option Value)} {i : Nat} (h : rl R L) : rl R (xcl L i) := by
  unfold xcl
  split
  · exact h
  · split
    · split
      · exact rl_set h (fun v hv => by cases hv)
      · exact h
    · exact h
theorem rl_1 {L : List (Option Value)} {i : Nat} {v : Value} (h : rl R L) (hv : rv R v) : rl R (xset1 L i v) := rl_set (rl_cl h) (fun u hu => by cases hu; exact hv)
theorem rl_2 {L : List (Option Value)} {i : Nat} {v : Value} (h : rl R L) (hv : rv R v) : rl R (xset2 L i v) := rl_set (rl_set (rl_cl h) (fun u hu => by cases hu; exact hv)) (fun u hu => by cases hu)
theorem xstore_loc {L : List (Option Value)} {st : List Value} {pc len i ty : Nat} {g : xF} (hl : rl R L) (hs : rs R st) (h : xstore L st pc len i ty = some g) : rl R g.2.1 ∧ rs R g.2.2 := by
  unfold xstore at h
  split at h
  · split at h
    · cases h; exact ⟨rl_1 hl trivial, rs_t hs⟩
    · cases h
  · split at h
    · cases h; exact ⟨rl_2 hl trivial, rs_t hs⟩
    · cases h
  · split at h
    · split at h
      · cases h; exact ⟨rl_1 hl (rs_h hs), rs_t hs⟩
      · cases h
    · cases h
  · cases h
theorem xload_loc {L : List (Option Value)} {st : List Value} {pc len i ty : Nat} {g : xF} (hl : rl R L) (hs : rs R st) (h : xload L st pc len i ty = some g) : rl R g.2.1 ∧ rs R g.2.2 := by
  unfold xload at h
  split at h
  · cases h; exact ⟨hl, rs_c trivial hs⟩
  · cases h; exact ⟨hl, rs_c trivial hs⟩
  · rename_i v hv
    split at h
    · cases h; exact ⟨hl, rs_c (rl_get hl hv) hs⟩
    · cases h
  · cases h
theorem xp0_loc {i : Jvm.ClassFile.Instr} {len : Nat} {f g : xF} (hl : rl R f.2.1) (hs : rs R f.2.2) (h : xp0 i len f = some g) : rl R g.2.1 ∧ rs R g.2.2 := by
  unfold xp0 at h
  split at h
  all_goals first
    | (cases h; done)
    | (exact xload_loc hl hs h)
    | (exact xstore_loc hl hs h)
    | (cases h; exact ⟨hl, rs_c trivial hs⟩)
    | skip
  split at h
  · split at h
    · cases h; exact ⟨rl_1 hl trivial, hs⟩
    · cases h
  · cases h
theorem xp1_loc {i : Jvm.ClassFile.Instr} {f g : xF} (hl : rl R f.2.1) (hs : rs R f.2.2) (h : xp1 i f = some g) : rl R g.2.1 ∧ rs R g.2.2 := by
  unfold xp1 at h
  split at h
  · rename_i y x r he
    rw [he] at hs
    repeat' split at h
    all_goals first
      | (cases h; done)
      | (cases h; exact ⟨hl, rs_c trivial (rs_t (rs_t hs))⟩)
  · cases h
theorem xp2_loc {i : Jvm.ClassFile.Instr} {f g : xF} (hl : rl R f.2.1) (hs : rs R f.2.2) (h : xp2 i f = some g) : rl R g.2.1 ∧ rs R g.2.2 := by
  unfold xp2 at h
  split at h
  · rename_i y x r he
    rw [he] at hs
    repeat' split at h
    all_goals first
      | (cases h; done)
      | (cases h; exact ⟨hl, rs_c trivial (rs_t (rs_t hs))⟩)
  · cases h
theorem xp3_loc {i : Jvm.ClassFile.Instr} {f g : xF} (hl : rl R f.2.1) (hs : rs R f.2.2) (h : xp3 i f = some g) : rl R g.2.1 ∧ rs R g.2.2 := by
  unfold xp3 at h
  split at h
  all_goals first
    | (cases h; done)
    | (rename_i he; rw [he] at hs; cases h; exact ⟨hl, rs_c trivial (rs_t hs)⟩)
    | (rename_i he; rw [he] at hs; cases h; exact ⟨hl, rs_c trivial (rs_t (rs_t hs))⟩)
theorem xp4_loc {i : Jvm.ClassFile.Instr} {f g : xF} (hl : rl R f.2.1) (hs : rs R f.2.2) (h : xp4 i f = some g) : rl R g.2.1 ∧ rs R g.2.2 := by
  unfold xp4 at h
  split at h
  · split at h
    · rename_i a r he
      rw [he] at hs
      split at h
      · cases h; exact ⟨hl, rs_c (rs_h hs) (rs_c (rs_h hs) (rs_t hs))⟩
      · cases h
    · cases h
  · split at h
    · rename_i a r he
      rw [he] at hs
      split at h
      · cases h; exact ⟨hl, rs_t hs⟩
      · cases h
    · cases h
  · split at h
    · rename_i a r he
      rw [he] at hs
      split at h
      · cases h; exact ⟨hl, rs_t hs⟩
      · cases h
    · cases h
  · split at h
    · rename_i a b r he
      rw [he] at hs
      split at h
      · cases h; exact ⟨hl, rs_c (rs_h hs) (rs_c (rs_h (rs_t hs)) (rs_c (rs_h hs) (rs_c (rs_h (rs_t hs)) (rs_t (rs_t hs)))))⟩
      · cases h
    · cases h
  · cases h
theorem xp5_loc {i : Jvm.ClassFile.Instr} {a : Nat} {f g : xF} (hl : rl R f.2.1) (hs : rs R f.2.2) (h : xp5 i a f = some g) : rl R g.2.1 ∧ rs R g.2.2 := by
  unfold xp5 at h
  split at h
  · cases h; exact ⟨hl, hs⟩
  all_goals first
    | (cases h; done)
    | skip
  all_goals
    split at h
    all_goals first
      | (cases h; done)
      | (rename_i he; rw [he] at hs; cases h; first | exact ⟨hl, rs_t hs⟩ | exact ⟨hl, rs_t (rs_t hs)⟩)
theorem xp6_loc {i : Jvm.ClassFile.Instr} {f g : xF} (hl : rl R f.2.1) (hs : rs R f.2.2) (h : xp6 i f = some g) : rl R g.2.1 ∧ rs R g.2.2 := by
  unfold xp6 at h
  split at h
  · rename_i x r he
    rw [he] at hs
    repeat' split at h
    all_goals first
      | (cases h; done)
      | (cases h; exact ⟨hl, rs_t hs⟩)
  · cases h
theorem xq3_loc {X : Nat × (Nat → Int32)} {i : Jvm.ClassFile.Instr} {f g : xF} (hl : rl R f.2.1) (hs : rs R f.2.2) (h : xq3 X i f = some g) : rl R g.2.1 ∧ rs R g.2.2 := by
  unfold xq3 at h
  split at h
  · split at h
    · rename_i he; rw [he] at hs; cases h; exact ⟨hl, rs_c trivial (rs_t hs)⟩
    · cases h
  · split at h
    · rename_i he
      rw [he] at hs
      split at h
      · cases h; exact ⟨hl, rs_c trivial (rs_t (rs_t hs))⟩
      · cases h
    · cases h
  · cases h
theorem put_loc {h : xH} {q : Nat} {e : xE} (hH : rH R h) (hq : R q) (he : rc R e) : rH R (xput h q e) ∧ rO R h (xput h q e) := by
  refine ⟨⟨hH.1, fun p x hp hx => ?_⟩, fun p hp => ?_⟩
  · by_cases hpq : p = q
    · subst hpq
      have h2 : (xput h p e).2.2 p = some e := by simp [xput, xup]
      rw [h2] at hx
      cases hx
      exact he
    · have h2 : (xput h q e).2.2 p = h.2.2 p := by simp [xput, xup, hpq]
      rw [h2] at hx
      exact hH.2 p x hp hx
  · have hpq : p ≠ q := fun z => hp (by rw [z]; exact hq)
    simp [xput, xup, hpq]
theorem new_loc {h : xH} {n : Nat} {e : xE} (hH : rH R h) (hq : R h.1) (he : rc R e) : rH R (xnew h n e) ∧ rO R h (xnew h n e) := by
  refine ⟨⟨Nat.le_succ_of_le hH.1, fun p x hp hx => ?_⟩, fun p hp => ?_⟩
  · by_cases hpq : p = h.1
    · subst hpq
      have h2 : (xnew h n e).2.2 h.1 = some e := by simp [xnew, xup]
      rw [h2] at hx
      cases hx
      exact he
    · have h2 : (xnew h n e).2.2 p = h.2.2 p := by simp [xnew, xup, hpq]
      rw [h2] at hx
      exact hH.2 p x hp hx
  · have hpq : p ≠ h.1 := fun z => hp (by rw [z]; exact hq)
    simp [xnew, xup, hpq]
theorem rs_df (a : Nat) : rs R (xfs a) := fun v hv => by
  unfold xfs at hv
  obtain ⟨b, _, rfl⟩ := List.mem_map.mp hv
  cases xfty a b <;> trivial
theorem rs_set {fs : List Value} {b : Nat} {v : Value} (h : rs R fs) (hv : rv R v) : rs R (fs.set b v) := fun u hu => by
  rcases List.mem_or_eq_of_mem_set hu with h1 | h1
  · exact h u h1
  · subst h1; exact hv
theorem xq0_loc {i : Jvm.ClassFile.Instr} {a b j : Nat} {f : xF} {h : xH} {g : xF × xH} {len : Nat} (hA : xal j = false ∨ ∀ n, 79 ≤ n → R n) (hw : xwk j (20, i, len, a, b) = true) (hH : rH R h) (hl : rl R f.2.1) (hs : rs R f.2.2) (hx : xq0 i a b f h = some g) : rH R g.2 ∧ rl R g.1.2.1 ∧ rs R g.1.2.2 ∧ rO R h g.2 := by
  have rf : rO R h h := fun _ _ => rfl
  have al : xal j = true → R h.1 := fun hz => hA.elim (fun z => by rw [z] at hz; cases hz) (fun z => z _ hH.1)
  unfold xq0 at hx
  split at hx
  · split at hx
    · rename_i q r he
      rw [he] at hs
      split at hx
      · rename_i ci fs hq
        split at hx
        · split at hx
          · rename_i v hv
            cases hx
            exact ⟨hH, hl, rs_c (hH.2 q _ (rs_h hs) hq v (List.mem_of_getElem? hv)) (rs_t hs), rf⟩
          · cases hx
        · cases hx
      · cases hx
    · cases hx
  · split at hx
    · rename_i v q r he
      rw [he] at hs
      split at hx
      · rename_i ci fs hq
        split at hx
        · cases hx
          obtain ⟨p1, p2⟩ := put_loc (e := .inr (ci, fs.set b v)) hH (rs_h (rs_t hs)) (rs_set (hH.2 q _ (rs_h (rs_t hs)) hq) (rs_h hs))
          exact ⟨p1, hl, rs_t (rs_t hs), p2⟩
        · cases hx
      · cases hx
    · cases hx
  · cases hx
    simp only [xwk, Bool.and_eq_true] at hw
    obtain ⟨p1, p2⟩ := new_loc (n := xfn a) (e := .inr (a, xfs a)) hH (al hw.1) (rs_df a)
    exact ⟨p1, hl, rs_c (al hw.1) hs, p2⟩
  · simp only [xwk] at hw
    split at hx
    · rename_i n r he
      rw [he] at hs
      split at hx
      · split at hx
        all_goals first
          | (cases hx; done)
          | skip
        all_goals
          cases hx
          refine ⟨(new_loc hH (al hw) ?_).1, hl, rs_c (al hw) (rs_t hs), (new_loc hH (al hw) ?_).2⟩
          all_goals trivial
      · cases hx
    · cases hx
  · simp only [xwk, Bool.and_eq_true] at hw
    split at hx
    · rename_i n r he
      rw [he] at hs
      split at hx
      · cases hx
        have he2 : rc R (.inl (a, n.toNatClampNeg, .inr (.inr (fun _ => none)))) := fun i p hp => by cases hp
        exact ⟨(new_loc hH (al hw.1.1) he2).1, hl, rs_c (al hw.1.1) (rs_t hs), (new_loc hH (al hw.1.1) he2).2⟩
      · cases hx
    · cases hx
  · repeat' split at hx
    all_goals first
      | (cases hx; done)
      | (rename_i he _ _ _ _ _; rw [he] at hs; cases hx; exact ⟨hH, hl, rs_c trivial (rs_t hs), rf⟩)
      | (rw [‹f.2.2 = _›] at hs; cases hx; exact ⟨hH, hl, rs_c trivial (rs_t hs), rf⟩)
  · cases hx
theorem xq1_loc {i : Jvm.ClassFile.Instr} {f : xF} {h : xH} {g : xF × xH} (hH : rH R h) (hl : rl R f.2.1) (hs : rs R f.2.2) (hx : xq1 i f h = some g) : rH R g.2 ∧ rl R g.1.2.1 ∧ rs R g.1.2.2 ∧ rO R h g.2 := by
  have rf : rO R h h := fun _ _ => rfl
  unfold xq1 at hx
  split at hx
  · rename_i jj q r he
    rw [he] at hs
    split at hx
    · rename_i t n c hq
      split at hx
      · split at hx
        · repeat' split at hx
          all_goals first
            | (cases hx; done)
            | (cases hx; exact ⟨hH, hl, rs_c trivial (rs_t (rs_t hs)), rf⟩)
        · repeat' split at hx
          all_goals first
            | (cases hx; done)
            | (cases hx; exact ⟨hH, hl, rs_c trivial (rs_t (rs_t hs)), rf⟩)
        · repeat' split at hx
          all_goals first
            | (cases hx; done)
            | (cases hx; exact ⟨hH, hl, rs_c trivial (rs_t (rs_t hs)), rf⟩)
        · split at hx
          · rename_i gg
            split at hx
            · cases hx
              refine ⟨hH, hl, rs_c ?_ (rs_t (rs_t hs)), rf⟩
              have h3 := hH.2 q _ (rs_h (rs_t hs)) hq
              cases hz : gg jj.toNatClampNeg with
              | none => trivial
              | some p => exact h3 _ p hz
            · cases hx
          · cases hx
        · cases hx
      · cases hx
    · cases hx
  · cases hx
theorem xq2_loc {i : Jvm.ClassFile.Instr} {f : xF} {h : xH} {g : xF × xH} (hH : rH R h) (hl : rl R f.2.1) (hs : rs R f.2.2) (hx : xq2 i f h = some g) : rH R g.2 ∧ rl R g.1.2.1 ∧ rs R g.1.2.2 ∧ rO R h g.2 := by
  unfold xq2 at hx
  split at hx
  · rename_i v jj q r he
    rw [he] at hs
    have hR : R q := rs_h (rs_t (rs_t hs))
    have fin : ∀ e, rc R e → rH R (xput h q e) ∧ rl R f.2.1 ∧ rs R r ∧ rO R h (xput h q e) := fun e hce => ⟨(put_loc hH hR hce).1, hl, rs_t (rs_t (rs_t hs)), (put_loc hH hR hce).2⟩
    split at hx
    · rename_i t n c hq
      split at hx
      · split at hx
        · repeat' split at hx
          all_goals first
            | (cases hx; done)
            | (cases hx; exact fin _ trivial)
        · repeat' split at hx
          all_goals first
            | (cases hx; done)
            | (cases hx; exact fin _ trivial)
        · repeat' split at hx
          all_goals first
            | (cases hx; done)
            | (cases hx; exact fin _ trivial)
        · split at hx
          · split at hx
            · cases hx
              refine fin _ (fun i p hp => ?_)
              unfold va_up at hp
              split at hp
              · cases hp
              · exact hH.2 q _ hR hq i p hp
            · cases hx
          · split at hx
            · split at hx
              · cases hx
                refine fin _ (fun i p hp => ?_)
                unfold va_up at hp
                split at hp
                · cases hp; exact rs_h hs
                · exact hH.2 q _ hR hq i p hp
              · cases hx
            · cases hx
          · cases hx
        · cases hx
      · cases hx
    · cases hx
  · cases hx
theorem xst_loc {X : Nat × (Nat → Int32)} {I : xI} {f : xF} {h : xH} {g : xF × xH} {j : Nat} (hA : xal j = false ∨ ∀ n, 79 ≤ n → R n) (hw : xwk j I = true) (hH : rH R h) (hl : rl R f.2.1) (hs : rs R f.2.2) (hx : xst X I f h = some g) : rH R g.2 ∧ rl R g.1.2.1 ∧ rs R g.1.2.2 ∧ rO R h g.2 := by
  have rf : rO R h h := fun _ _ => rfl
  have key : ∀ y : Option xF, (∀ z, y = some z → rl R z.2.1 ∧ rs R z.2.2) → y.map (fun g => (g, h)) = some g → rH R g.2 ∧ rl R g.1.2.1 ∧ rs R g.1.2.2 ∧ rO R h g.2 := fun y hz hy => by
    obtain ⟨e1, e2⟩ := xmap_some (f := f) hy
    obtain ⟨q1, q2⟩ := hz _ e1
    rw [e2]
    exact ⟨hH, q1, q2, rf⟩
  obtain ⟨k, i, len, a0, b0⟩ := I
  unfold xst at hx
  dsimp only at hx
  split at hx
  · exact key _ (fun z hz => xp0_loc hl hs hz) hx
  · exact key _ (fun z hz => xp1_loc hl hs hz) hx
  · exact key _ (fun z hz => xp2_loc hl hs hz) hx
  · exact key _ (fun z hz => xp3_loc hl hs hz) hx
  · exact key _ (fun z hz => xp4_loc hl hs hz) hx
  · exact key _ (fun z hz => xp5_loc hl hs hz) hx
  · exact key _ (fun z hz => xp6_loc hl hs hz) hx
  · cases hx; exact ⟨hH, hl, rs_c trivial hs, rf⟩
  · cases hx; exact ⟨hH, hl, rs_c trivial hs, rf⟩
  · exact xq0_loc hA hw hH hl hs hx
  · exact xq1_loc hH hl hs hx
  · exact xq2_loc hH hl hs hx
  · exact key _ (fun z hz => xq3_loc hl hs hz) hx
  · split at hx
    · rename_i he
      rw [he] at hs
      split at hx
      · cases hx; exact ⟨hH, hl, rs_t hs, rf⟩
      · cases hx
    · cases hx
  · split at hx
    · rename_i he
      rw [he] at hs
      split at hx
      · cases hx; exact ⟨hH, hl, rs_c trivial (rs_t (rs_t hs)), rf⟩
      · cases hx
    · cases hx
  · split at hx
    · rename_i he
      rw [he] at hs
      split at hx
      · cases hx; exact ⟨hH, hl, rs_c trivial (rs_t (rs_t hs)), rf⟩
      · cases hx
    · cases hx
  · cases hx
theorem rl_ent {n : Nat} {vs : List Value} (h : rs R vs) : rl R (xent n vs) := fun v hv => by
  unfold xent at hv
  rcases List.mem_append.mp hv with h1 | h1
  · unfold xsl at h1
    obtain ⟨u, h2, h3⟩ := List.mem_flatMap.mp h1
    split at h3
    · simp only [List.mem_cons, Option.some.injEq, List.not_mem_nil, or_false, reduceCtorEq] at h3
      rw [h3]; exact h u h2
    · simp only [List.mem_cons, Option.some.injEq, List.not_mem_nil, or_false] at h3
      rw [h3]; exact h u h2
  · have := List.eq_of_mem_replicate h1
    cases this
theorem rs_app {a b : List Value} : rs R (a ++ b) ↔ rs R a ∧ rs R b := ⟨fun h => ⟨fun v hv => h v (List.mem_append_left _ hv), fun v hv => h v (List.mem_append_right _ hv)⟩, fun h v hv => (List.mem_append.mp hv).elim (h.1 v) (h.2 v)⟩
theorem xrun_loc {X : Nat × (Nat → Int32)} : ∀ {n j : Nat} {f : xF} {h : xH} {r : Option Value} {h' : xH}, j < 132 → (xal j = false ∨ ∀ n, 79 ≤ n → R n) → rH R h → rl R f.2.1 → rs R f.2.2 → xrun X n (xTab j).1 f h = some (r, h') → rH R h' ∧ (∀ v, r = some v → rv R v) ∧ rO R h h'
  | 0, _, _, _, _, _, _, _, _, _, _, hs => by cases hs
  | n + 1, j, f, h, r, h', hj, hA, hH, hl, ht, hs => by
    obtain ⟨I, hI, ⟨-, -, rfl, rfl⟩ | ⟨-, v, e1, -, rfl, rfl⟩ | ⟨vs, rest, v, h1, hk, e1, -, -, -, -, hr, hs⟩ | ⟨g, hg, hs⟩⟩ := xrun_cases hs
    · exact ⟨hH, fun v hv => (by cases hv), fun _ _ => rfl⟩
    · refine ⟨hH, fun u hu => ?_, fun _ _ => rfl⟩
      cases hu
      rw [e1] at ht
      exact rs_h ht
    · have hw := xwk_at hj hI
      have hw : ((xwf I.2.2.2.1).all (fun q => (xwf j).any (fun p => Nat.beq p q)) && (xwt I.2.2.2.1).all (fun q => (xwt j).any (fun p => Nat.beq p q)) && (xal j || !(xal I.2.2.2.1)) && Nat.blt I.2.2.2.1 132) = true := by
        obtain ⟨k, i, len, a0, b0⟩ := I
        dsimp only at hk hw ⊢
        rcases hk with rfl | rfl | rfl <;> exact hw
      simp only [Bool.and_eq_true, Bool.or_eq_true, Bool.not_eq_true'] at hw
      obtain ⟨⟨⟨-, -⟩, w3⟩, w4⟩ := hw
      have hA2 : xal I.2.2.2.1 = false ∨ ∀ n, 79 ≤ n → R n := hA.elim (fun z => Or.inl (w3.elim (fun y => by rw [y] at z; cases z) id)) Or.inr
      rw [e1, rs_app] at ht
      have hvs : rs R vs := fun u hu => ht.1 u (List.mem_reverse.mpr hu)
      obtain ⟨a1, a2, a3⟩ := xrun_loc (Nat.lt_of_succ_le (Nat.le_of_ble_eq_true w4)) hA2 hH (rl_ent hvs) (fun u hu => by cases hu) hr
      have hst : rs R (v.toList ++ rest) := rs_app.mpr ⟨fun u hu => by
        cases v with
        | none => cases hu
        | some w =>
          have : u = w := by simpa using hu
          rw [this]; exact a2 w rfl, ht.2⟩
      obtain ⟨b1, b2, b3⟩ := xrun_loc (f := (f.1 + 3, f.2.1, v.toList ++ rest)) hj hA a1 hl hst hs
      exact ⟨b1, b2, fun p hp => (b3 p hp).trans (a3 p hp)⟩
    · obtain ⟨a1, a2, a3, a4⟩ := xst_loc hA (xwk_at hj hI) hH hl ht hg
      obtain ⟨b1, b2, b3⟩ := xrun_loc hj hA a1 a2 a3 hs
      exact ⟨b1, b2, fun p hp => (b3 p hp).trans (a4 p hp)⟩
/-- a call with where it stays -/
theorem okM_loc {X : Nat × (Nat → Int32)} {j : Nat} {vs : List Value} {h : xH} {P : Option Value → xH → Prop} (hj : j < 132) (hA : xal j = false ∨ ∀ n, 79 ≤ n → R n) (hH : rH R h) (hv : rs R vs) (hM : okM X j vs h P) : okM X j vs h (fun v h' => P v h' ∧ rH R h' ∧ rO R h h') := by
  obtain ⟨n, r, h', h1, h2⟩ := hM
  obtain ⟨a1, -, a3⟩ := xrun_loc hj hA hH (rl_ent hv) (fun u hu => by cases hu) h1
  exact ⟨n, r, h', h1, h2, a1, a3⟩
end LOC
/-- the model's cells, and all others -/
def mRg (q : Nat) : Prop := 57 ≤ q ∧ q ≤ 78
def cRg (q : Nat) : Prop := q < 57 ∨ 78 < q
theorem cRg_n {p : Nat} : ¬ cRg p ↔ mRg p := by unfold cRg mRg; omega
theorem mRg_n {p : Nat} : ¬ mRg p ↔ cRg p := by unfold cRg mRg; omega
theorem mC.lo {S : Nat → Int32} {A : Nat → Nat → Int32} {B : Nat → Nat → Int64} {h h' : xH} (hm : mC S A B h) (ho : rO cRg h h') : mC S A B h' := by
  have e : ∀ p, 57 ≤ p → p ≤ 78 → h'.2.2 p = h.2.2 p := fun p h1 h2 => ho p (cRg_n.mpr ⟨h1, h2⟩)
  refine ⟨(e 57 (by decide) (by decide)).trans hm.1, fun q hq => ?_, fun q hq => ?_⟩
  · have := hq
    simp only [mQ, List.mem_cons, List.not_mem_nil, or_false] at this
    rw [e q (by omega) (by omega)]; exact hm.2.1 q hq
  · have := hq
    simp only [mL, List.mem_cons, List.not_mem_nil, or_false] at this
    rw [e q (by omega) (by omega)]; exact hm.2.2 q hq
theorem mC.rh {S : Nat → Int32} {A : Nat → Nat → Int32} {B : Nat → Nat → Int64} {h : xH} (hm : mC S A B h) (hs : 79 ≤ h.1) : rH mRg h := by
  refine ⟨hs, fun q e hq he => ?_⟩
  obtain ⟨h1, h2⟩ := hq
  by_cases hz : q = 57
  · subst hz
    rw [hm.1] at he
    cases he
    intro v hv
    simp only [mF, List.mem_cons, List.not_mem_nil, or_false] at hv
    rcases hv with rfl | rfl | rfl | rfl | rfl | rfl | rfl | rfl | rfl | rfl | rfl | rfl | rfl | rfl | rfl | rfl | rfl | rfl | rfl | rfl | rfl | rfl | rfl | rfl | rfl | rfl | rfl | rfl | rfl | rfl <;> first | trivial | exact ⟨by decide, by decide⟩
  · by_cases hl : q ∈ mL
    · rw [hm.2.2 q hl] at he
      cases he
      trivial
    · have hq : q ∈ mQ := by
        simp only [mL, List.mem_cons, List.not_mem_nil, or_false] at hl
        simp only [mQ, List.mem_cons, List.not_mem_nil, or_false]
        omega
      rw [hm.2.1 q hq] at he
      cases he
      trivial
