/-! RULES: a heap behind a write is a new one that keeps what was not written -/
theorem okS_some {X : Nat × (Nat → Int32)} {C : xC} {Q : Option Value → xH → Prop} {f : xF} {h : xH} : okS X C Q (some (f, h)) = ok X C f h Q := rfl
theorem xget_0 {a : Option Value} {l : List (Option Value)} : xget (a :: l) 0 = a := by cases a <;> rfl
theorem xget_s {a : Option Value} {l : List (Option Value)} {n : Nat} : xget (a :: l) (n + 1) = xget l n := rfl
theorem xs_0 {a : Option Value} {l : List (Option Value)} {v : Value} : xset1 (a :: l) 0 v = some v :: l := rfl
theorem xs_1n {b : Option Value} {l : List (Option Value)} {v : Value} : xset1 (none :: b :: l) 1 v = none :: some v :: l := rfl
theorem xs_1i {x : Int32} {b : Option Value} {l : List (Option Value)} {v : Value} : xset1 (some (.int x) :: b :: l) 1 v = some (.int x) :: some v :: l := rfl
theorem xs_1r {x : Nat} {b : Option Value} {l : List (Option Value)} {v : Value} : xset1 (some (.ref x) :: b :: l) 1 v = some (.ref x) :: some v :: l := rfl
theorem xs_1u {b : Option Value} {l : List (Option Value)} {v : Value} : xset1 (some .null :: b :: l) 1 v = some .null :: some v :: l := rfl
theorem xs_1q {x : Nat} {b : Option Value} {l : List (Option Value)} {v : Value} : xset1 (some (.retAddr x) :: b :: l) 1 v = some (.retAddr x) :: some v :: l := rfl
theorem xs_1l {x : Int64} {b : Option Value} {l : List (Option Value)} {v : Value} : xset1 (some (.long x) :: b :: l) 1 v = none :: some v :: l := rfl
theorem xcl_s {a b : Option Value} {l : List (Option Value)} {n : Nat} : xcl (a :: b :: l) (n + 2) = a :: xcl (b :: l) (n + 1) := by
  show (match xget (b :: l) n with
    | some v => if v.category = 2 then (a :: b :: l).set (n + 1) none else a :: b :: l
    | none => a :: b :: l) = a :: (match xget (b :: l) n with
    | some v => if v.category = 2 then (b :: l).set n none else b :: l
    | none => b :: l)
  cases xget (b :: l) n with
  | none => rfl
  | some v =>
    dsimp only
    split <;> rfl
theorem xs_s {a b : Option Value} {l : List (Option Value)} {v : Value} {n : Nat} : xset1 (a :: b :: l) (n + 2) v = a :: xset1 (b :: l) (n + 1) v := by
  unfold xset1
  rw [xcl_s]
  rfl
theorem xt_0 {a b : Option Value} {l : List (Option Value)} {v : Value} : xset2 (a :: b :: l) 0 v = some v :: none :: l := rfl
theorem xt_1n {b c : Option Value} {l : List (Option Value)} {v : Value} : xset2 (none :: b :: c :: l) 1 v = none :: some v :: none :: l := rfl
theorem xt_1i {x : Int32} {b c : Option Value} {l : List (Option Value)} {v : Value} : xset2 (some (.int x) :: b :: c :: l) 1 v = some (.int x) :: some v :: none :: l := rfl
theorem xt_1r {x : Nat} {b c : Option Value} {l : List (Option Value)} {v : Value} : xset2 (some (.ref x) :: b :: c :: l) 1 v = some (.ref x) :: some v :: none :: l := rfl
theorem xt_1u {b c : Option Value} {l : List (Option Value)} {v : Value} : xset2 (some .null :: b :: c :: l) 1 v = some .null :: some v :: none :: l := rfl
theorem xt_1l {x : Int64} {b c : Option Value} {l : List (Option Value)} {v : Value} : xset2 (some (.long x) :: b :: c :: l) 1 v = none :: some v :: none :: l := rfl
theorem xt_s {a b : Option Value} {l : List (Option Value)} {v : Value} {n : Nat} : xset2 (a :: b :: l) (n + 2) v = a :: xset2 (b :: l) (n + 1) v := by
  unfold xset2
  rw [xcl_s]
  rfl
theorem xWF.arr {h : xH} (hW : xWF h) {q t n : Nat} {c : (Nat → Int32) ⊕ (Nat → Int64) ⊕ (Nat → Option Nat)} (hq : h.2.2 q = some (.inl (t, n, c))) (ht : 3 ≤ t) : ∃ g, c = .inr (.inr g) ∧ t < 9 ∧ ∀ i p, g i = some p → ∃ fs, h.2.2 p = some (.inr (xoc t, fs)) := by
  have h1 := (hW q _ hq).2
  rcases c with c | c | c
  · rcases h1 with h1 | h1 <;> omega
  · have h1 : t = 1 := h1
    omega
  · exact ⟨c, rfl, h1.1.2, h1.2⟩
theorem xWF.lar {h : xH} (hW : xWF h) {q n : Nat} {c : (Nat → Int32) ⊕ (Nat → Int64) ⊕ (Nat → Option Nat)} (hq : h.2.2 q = some (.inl (1, n, c))) : ∃ g, c = .inr (.inl g) := by
  have h1 := (hW q _ hq).2
  rcases c with c | c | c
  · rcases h1 with h1 | h1 <;> omega
  · exact ⟨c, rfl⟩
  · exact absurd h1.1 (by omega)
theorem xfr.obj {w t : List Nat} {h h1 : xH} (f : xfr w t h h1) {q a : Nat} {fs : List Value} (hq : h.2.2 q = some (.inr (a, fs))) (hw : ∀ b, b < fs.length → xany w (100 * a + b) = false) : h1.2.2 q = some (.inr (a, fs)) := by
  obtain ⟨fs', h2, h3, h4⟩ := f.2.2 q _ hq
  have : fs' = fs := by
    refine List.ext_getElem? fun b => ?_
    by_cases hb : b < fs.length
    · exact h4 b (hw b hb)
    · rw [List.getElem?_eq_none (by omega), List.getElem?_eq_none (by omega)]
  rw [this] at h2
  exact h2
theorem xfr.cls {w t : List Nat} {h h1 : xH} (f : xfr w t h h1) {q a : Nat} {fs : List Value} (hq : h.2.2 q = some (.inr (a, fs))) : ∃ fs', h1.2.2 q = some (.inr (a, fs')) := by
  obtain ⟨fs', h2, -⟩ := f.2.2 q _ hq
  exact ⟨fs', h2⟩
theorem xfr.arr {w t : List Nat} {h h1 : xH} (f : xfr w t h h1) {q g n : Nat} {c : (Nat → Int32) ⊕ (Nat → Int64) ⊕ (Nat → Option Nat)} (hq : h.2.2 q = some (.inl (g, n, c))) : ∃ c', h1.2.2 q = some (.inl (g, n, c')) := by
  obtain ⟨c', h2, -⟩ := f.2.2 q _ hq
  exact ⟨c', h2⟩
/-- what a step or a call keeps -/
def xkq (w t m : List Nat) (h h1 : xH) : Prop := xWF h1 ∧ xfr w t h h1 ∧ xbk m h h1
section OK
variable {X : Nat × (Nat → Int32)} {C : xC} {pc : Nat} {L : List (Option Value)} {st : List Value} {h : xH} {Q P : Option Value → xH → Prop}
theorem ok_if {c : Bool} {a b : Nat} (ht : c = true → ok X C (a, L, st) h Q) (hf : c = false → ok X C (b, L, st) h Q) : ok X C (bif c then a else b, L, st) h Q := by
  cases c with
  | true => exact ht rfl
  | false => exact hf rfl
theorem ok_go {I : xI} {g : xF} {h1 : xH} (hI : xlk2 C pc = some I) (hk : Nat.ble 5 I.1 = true) (hs : xst X I (pc, L, st) h = some (g, h1)) (kk : ok X C g h1 Q) : ok X C (pc, L, st) h Q := by
  refine ok_st (f := (pc, L, st)) hI hk ?_
  rw [hs]
  exact kk
theorem ok_pf {x a b q : Nat} {v : Value} {fs : List Value} (hI : xlk2 C pc = some (20, .putfield x, 3, a, b)) (hW : xWF h) (hq : h.2.2 q = some (.inr (a, fs))) (hb : b < fs.length) (hf : fits (xfty a b) v = true) (hr : xrok h (xfcl a b) v = true)
    (kk : ∀ h1, xkq [100 * a + b] [] [] h h1 → h1.2.2 q = some (.inr (a, fs.set b v)) → h1.1 = h.1 ∧ h1.2.1 = h.2.1 → (∀ p, p ≠ q → h1.2.2 p = h.2.2 p) → ok X C (pc + 3, L, st) h1 Q) : ok X C (pc, L, v :: .ref q :: st) h Q := by
  have fr : xfr [100 * a + b] [] h (xput h q (.inr (a, fs.set b v))) := xput_fr hq ⟨_, rfl, List.length_set, fun b' hb' => by
    refine List.getElem?_set_ne (fun hbb => ?_)
    subst hbb
    simp [xany] at hb'⟩
  have wf : xWF (xput h q (.inr (a, fs.set b v))) := by
    refine xput_wf hW hq fr ?_
    have h0 := (hW q _ hq).2
    refine ⟨by rw [List.length_set]; exact h0.1, fun b' u hu => ?_⟩
    by_cases hbb : b' = b
    · subst hbb
      rw [List.getElem?_set_self hb] at hu
      cases hu
      exact ⟨hf, hr⟩
    · rw [List.getElem?_set_ne (Ne.symm hbb)] at hu
      exact h0.2 b' u hu
  refine ok_go (h1 := xput h q (.inr (a, fs.set b v))) hI rfl ?_ (kk _ ⟨wf, fr, xput_bk hq (fun a' fs' e => by cases e; exact ⟨_, rfl⟩)⟩ (by simp [xput, xup]) ⟨rfl, rfl⟩ (fun p hp => by simp [xput, xup, hp]))
  simp [xst, xq0, hq, hb, hf, hr]
theorem ok_nw {x a b : Nat} {fs : List Value} (hI : xlk2 C pc = some (20, .new x, 3, a, b)) (hW : xWF h) (ha : a < 10) (hfs : xfs a = fs)
    (kk : ∀ h1, xkq [] [] [a] h h1 → h1.2.2 h.1 = some (.inr (a, fs)) → h1.1 = h.1 + 1 ∧ h1.2.1 = h.2.1 + xfn a → (∀ p, p ≠ h.1 → h1.2.2 p = h.2.2 p) → ok X C (pc + 3, L, .ref h.1 :: st) h1 Q) : ok X C (pc, L, st) h Q := by
  subst hfs
  exact ok_go (h1 := xnew h (xfn a) (.inr (a, xfs a))) hI rfl rfl (kk _ ⟨xnew_wf hW (xfs_wf ha), xnew_fr hW, xnew_bk (fun a' fs' e => by cases e; simp [xany])⟩ (by simp [xnew, xup]) ⟨rfl, rfl⟩ (fun p hp => by simp [xnew, xup, hp]))
theorem ok_nl {at0 : ArrayType} {b : Nat} {n : Int32} (hI : xlk2 C pc = some (20, .newarray at0, 2, 1, b)) (hW : xWF h) (hn : 0 ≤ n.toInt ∧ n.toInt ≤ 67108864)
    (kk : ∀ h1, xkq [] [] [] h h1 → h1.2.2 h.1 = some (.inl (1, n.toNatClampNeg, .inr (.inl (fun _ => 0)))) → h1.1 = h.1 + 1 ∧ h1.2.1 = h.2.1 + n.toNatClampNeg → ok X C (pc + 2, L, .ref h.1 :: st) h1 Q) : ok X C (pc, L, .int n :: st) h Q := by
  refine ok_go (h1 := xnew h n.toNatClampNeg (.inl (1, n.toNatClampNeg, .inr (.inl (fun _ => 0))))) hI rfl ?_ (kk _ ⟨xnew_wf hW rfl, xnew_fr hW, xnew_bk (fun a' fs' e => by cases e)⟩ (by simp [xnew, xup]) ⟨rfl, rfl⟩)
  simp [xst, xq0, hn]
theorem ok_nq {x t b : Nat} {n : Int32} (hI : xlk2 C pc = some (20, .anewarray x, 3, t, b)) (hW : xWF h) (ht : 3 ≤ t ∧ t < 9) (hn : 0 ≤ n.toInt ∧ n.toInt ≤ 67108864)
    (kk : ∀ h1, xkq [] [] [] h h1 → h1.2.2 h.1 = some (.inl (t, n.toNatClampNeg, .inr (.inr (fun _ => none)))) → h1.1 = h.1 + 1 ∧ h1.2.1 = h.2.1 + n.toNatClampNeg → ok X C (pc + 3, L, .ref h.1 :: st) h1 Q) : ok X C (pc, L, .int n :: st) h Q := by
  refine ok_go (h1 := xnew h n.toNatClampNeg (.inl (t, n.toNatClampNeg, .inr (.inr (fun _ => none))))) hI rfl ?_ (kk _ ⟨xnew_wf hW ⟨ht, fun i q hq => by cases hq⟩, xnew_fr hW, xnew_bk (fun a' fs' e => by cases e)⟩ (by simp [xnew, xup]) ⟨rfl, rfl⟩)
  simp [xst, xq0, hn]
theorem ok_aa {a b q t n : Nat} {j : Int32} {c : (Nat → Int32) ⊕ (Nat → Int64) ⊕ (Nat → Option Nat)} (hI : xlk2 C pc = some (21, .aaload, 1, a, b)) (hW : xWF h) (hq : h.2.2 q = some (.inl (t, n, c))) (ht : 3 ≤ t) (hj : xIn j n)
    (k0 : ok X C (pc + 1, L, .null :: st) h Q) (k1 : ∀ p fs, h.2.2 p = some (.inr (xoc t, fs)) → ok X C (pc + 1, L, .ref p :: st) h Q) : ok X C (pc, L, .int j :: .ref q :: st) h Q := by
  obtain ⟨g, rfl, ht9, hg⟩ := hW.arr hq ht
  refine ok_go (g := (pc + 1, L, va_rf (g j.toNatClampNeg) :: st)) (h1 := h) hI rfl ?_ ?_
  · simp [xst, xq1, hq, hj, ht, ht9]
  · cases hz : g j.toNatClampNeg with
    | none => exact k0
    | some p =>
      obtain ⟨fs, hp⟩ := hg _ p hz
      exact k1 p fs hp
theorem ok_ll {a b q n : Nat} {j : Int32} {c : (Nat → Int32) ⊕ (Nat → Int64) ⊕ (Nat → Option Nat)} (hI : xlk2 C pc = some (21, .laload, 1, a, b)) (hW : xWF h) (hq : h.2.2 q = some (.inl (1, n, c))) (hj : xIn j n)
    (kk : ∀ x : Int64, ok X C (pc + 1, L, .long x :: st) h Q) : ok X C (pc, L, .int j :: .ref q :: st) h Q := by
  obtain ⟨g, rfl⟩ := hW.lar hq
  refine ok_go (g := (pc + 1, L, .long (g j.toNatClampNeg) :: st)) (h1 := h) hI rfl ?_ (kk _)
  simp [xst, xq1, hq, hj]
theorem ok_ls {a b q n : Nat} {j : Int32} {x : Int64} {c : (Nat → Int32) ⊕ (Nat → Int64) ⊕ (Nat → Option Nat)} (hI : xlk2 C pc = some (22, .lastore, 1, a, b)) (hW : xWF h) (hq : h.2.2 q = some (.inl (1, n, c))) (hj : xIn j n)
    (kk : ∀ h1, xkq [] [1] [] h h1 → h1.1 = h.1 ∧ h1.2.1 = h.2.1 → ok X C (pc + 1, L, st) h1 Q) : ok X C (pc, L, .long x :: .int j :: .ref q :: st) h Q := by
  obtain ⟨g, rfl⟩ := hW.lar hq
  have fr : xfr [] [1] h (xput h q (.inl (1, n, .inr (.inl (vp_updL g j.toNatClampNeg x))))) := xput_fr hq ⟨_, rfl, fun hz => by cases hz⟩
  refine ok_go (h1 := xput h q (.inl (1, n, .inr (.inl (vp_updL g j.toNatClampNeg x))))) hI rfl ?_ (kk _ ⟨xput_wf hW hq fr rfl, fr, xput_bk hq (fun a' fs' e => by cases e)⟩ ⟨rfl, rfl⟩)
  simp [xst, xq2, hq, hj]
theorem ok_as {a b q t n : Nat} {j : Int32} {v : Value} {c : (Nat → Int32) ⊕ (Nat → Int64) ⊕ (Nat → Option Nat)} (hI : xlk2 C pc = some (22, .aastore, 1, a, b)) (hW : xWF h) (hq : h.2.2 q = some (.inl (t, n, c))) (ht : 3 ≤ t) (hj : xIn j n) (hv : v = .null ∨ ∃ p fs, v = .ref p ∧ h.2.2 p = some (.inr (xoc t, fs)))
    (kk : ∀ h1, xkq [] [3] [] h h1 → h1.1 = h.1 ∧ h1.2.1 = h.2.1 → ok X C (pc + 1, L, st) h1 Q) : ok X C (pc, L, v :: .int j :: .ref q :: st) h Q := by
  obtain ⟨g, rfl, ht9, hg⟩ := hW.arr hq ht
  have fr : ∀ c', xfr [] [3] h (xput h q (.inl (t, n, c'))) := fun c' => xput_fr hq ⟨_, rfl, fun hz => by
    rw [show min t 3 = 3 by omega] at hz
    cases hz⟩
  rcases hv with rfl | ⟨p, fs, rfl, hp⟩
  · refine ok_go (h1 := xput h q (.inl (t, n, .inr (.inr (va_up g j.toNatClampNeg none))))) hI rfl ?_ (kk _ ⟨xput_wf hW hq (fr _) ⟨⟨ht, ht9⟩, fun i p hp => ?_⟩, fr _, xput_bk hq (fun a' fs' e => by cases e)⟩ ⟨rfl, rfl⟩)
    · simp [xst, xq2, hq, hj, ht, ht9]
    · unfold va_up at hp
      split at hp
      · cases hp
      · exact hg i p hp
  · refine ok_go (h1 := xput h q (.inl (t, n, .inr (.inr (va_up g j.toNatClampNeg (some p)))))) hI rfl ?_ (kk _ ⟨xput_wf hW hq (fr _) ⟨⟨ht, ht9⟩, fun i p' hp' => ?_⟩, fr _, xput_bk hq (fun a' fs' e => by cases e)⟩ ⟨rfl, rfl⟩)
    · simp [xst, xq2, hq, hj, ht, ht9, hp]
    · unfold va_up at hp'
      split at hp'
      · cases hp'; exact ⟨fs, hp⟩
      · exact hg i p' hp'
/-- a call, with what every run keeps -/
theorem ok_cm {k a b : Nat} {i : Jvm.ClassFile.Instr} {vs rest : List Value} (hI : xlk2 C pc = some (k, i, 3, a, b)) (hk : (Nat.ble 2 k && Nat.ble k 4) = true) (hs : st = vs.reverse ++ rest) (hn : vs.length = (xTab a).2.1) (hc : xcat rest ≤ 8) (hl : (xsl vs).length ≤ (xTab a).2.2.1) (h0 : xcl0 k (xTab a).2.2.2 vs h = true) (ha : a < 132) (hW : xWF h)
    (hM : okM X a vs h P) (kk : ∀ v h1, P v h1 → xkq (xwf a) (xwt a) (xmk a) h h1 → (xal a = false → h1.1 = h.1 ∧ h1.2.1 = h.2.1) → ok X C (pc + 3, L, v.toList ++ rest) h1 Q) : ok X C (pc, L, st) h Q := by
  obtain ⟨n1, v, h1, r1, p1⟩ := hM
  obtain ⟨i1, i2, i3⟩ := xrun_inv ha hW r1
  exact ok_cl (f := (pc, L, st)) (P := fun v' h1' => v' = v ∧ h1' = h1) hI hk hs hn hc hl h0 ⟨n1, v, h1, r1, rfl, rfl⟩ (fun v' h1' hp => by
    obtain ⟨rfl, rfl⟩ := hp
    exact kk _ _ p1 ⟨i1, i2, xrun_bk ha r1⟩ i3)
end OK
