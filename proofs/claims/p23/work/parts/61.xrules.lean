/-! EXACT RULES -/
theorem ok.and {X : Nat × (Nat → Int32)} {C : xC} {f : xF} {h : xH} {P Q : Option Value → xH → Prop} (a : ok X C f h P) (b : ok X C f h Q) : ok X C f h (fun r h' => P r h' ∧ Q r h') := by
  obtain ⟨n, r, h', h1, h2⟩ := a
  obtain ⟨m, r2, h2', g1, g2⟩ := b
  have e1 := xrun_fuel (Nat.le_max_left n m) h1
  have e2 := xrun_fuel (Nat.le_max_right n m) g1
  rw [e1] at e2
  cases e2
  exact ⟨n, r, h', h1, h2, g2⟩
theorem xcn_eq_t {x y : Int32} (h : x = y) : xcnd .eq x y = true := decide_eq_true h
theorem xcn_eq_f {x y : Int32} (h : ¬ x = y) : xcnd .eq x y = false := decide_eq_false h
theorem xcn_ne_t {x y : Int32} (h : ¬ x = y) : xcnd .ne x y = true := by simp [xcnd, h]
theorem xcn_ne_f {x y : Int32} (h : x = y) : xcnd .ne x y = false := by simp [xcnd, h]
theorem xcn_lt_t {x y : Int32} (h : x < y) : xcnd .lt x y = true := decide_eq_true h
theorem xcn_lt_f {x y : Int32} (h : ¬ x < y) : xcnd .lt x y = false := decide_eq_false h
theorem xcn_ge_t {x y : Int32} (h : y ≤ x) : xcnd .ge x y = true := decide_eq_true h
theorem xcn_ge_f {x y : Int32} (h : ¬ y ≤ x) : xcnd .ge x y = false := decide_eq_false h
theorem xcn_gt_t {x y : Int32} (h : y < x) : xcnd .gt x y = true := decide_eq_true h
theorem xcn_gt_f {x y : Int32} (h : ¬ y < x) : xcnd .gt x y = false := decide_eq_false h
theorem xcn_le_t {x y : Int32} (h : x ≤ y) : xcnd .le x y = true := decide_eq_true h
theorem xcn_le_f {x y : Int32} (h : ¬ x ≤ y) : xcnd .le x y = false := decide_eq_false h
theorem ne_oo {h : xH} {p q a b : Nat} {fs gs : List Value} (hp : h.2.2 p = some (.inr (a, fs))) (hq : h.2.2 q = some (.inr (b, gs))) (hab : a ≠ b) : p ≠ q := fun e => by
  rw [e, hq] at hp
  cases hp
  exact hab rfl
theorem ne_aa {h : xH} {p q a b n m : Nat} {c d : xK} (hp : h.2.2 p = some (.inl (a, n, c))) (hq : h.2.2 q = some (.inl (b, m, d))) (hab : a ≠ b) : p ≠ q := fun e => by
  rw [e, hq] at hp
  cases hp
  exact hab rfl
theorem ne_oa {h : xH} {p q a b m : Nat} {fs : List Value} {d : xK} (hp : h.2.2 p = some (.inr (a, fs))) (hq : h.2.2 q = some (.inl (b, m, d))) : p ≠ q := fun e => by
  rw [e, hq] at hp
  cases hp
theorem ne_new {h : xH} {p q : Nat} {x : xE} (hW : xWF h) (hp : h.2.2 p = some x) (hq : q = h.1) : p ≠ q := fun e => by
  have := (hW p _ hp).1
  omega
section OK
variable {X : Nat × (Nat → Int32)} {C : xC} {pc : Nat} {L : List (Option Value)} {st : List Value} {h : xH} {Q P : Option Value → xH → Prop}
theorem ok_ax {a b q t n : Nat} {j : Int32} {g : Nat → Option Nat} (hI : xlk2 C pc = some (21, .aaload, 1, a, b)) (hq : h.2.2 q = some (.inl (t, n, .inr (.inr g)))) (ht : 3 ≤ t ∧ t < 9) (hj : xIn j n)
    (kk : ok X C (pc + 1, L, va_rf (g j.toNatClampNeg) :: st) h Q) : ok X C (pc, L, .int j :: .ref q :: st) h Q := by
  refine ok_go (g := (pc + 1, L, va_rf (g j.toNatClampNeg) :: st)) (h1 := h) hI rfl ?_ kk
  simp [xst, xq1, hq, hj, ht.1, ht.2]
theorem ok_lx {a b q n : Nat} {j : Int32} {g : Nat → Int64} (hI : xlk2 C pc = some (21, .laload, 1, a, b)) (hq : h.2.2 q = some (.inl (1, n, .inr (.inl g)))) (hj : xIn j n)
    (kk : ok X C (pc + 1, L, .long (g j.toNatClampNeg) :: st) h Q) : ok X C (pc, L, .int j :: .ref q :: st) h Q := by
  refine ok_go (g := (pc + 1, L, .long (g j.toNatClampNeg) :: st)) (h1 := h) hI rfl ?_ kk
  simp [xst, xq1, hq, hj]
theorem ok_sx {a b q n : Nat} {j : Int32} {x : Int64} {g : Nat → Int64} (hI : xlk2 C pc = some (22, .lastore, 1, a, b)) (hW : xWF h) (hq : h.2.2 q = some (.inl (1, n, .inr (.inl g)))) (hj : xIn j n)
    (kk : ∀ h1, xkq [] [1] [] h h1 → h1.2.2 q = some (.inl (1, n, .inr (.inl (vp_updL g j.toNatClampNeg x)))) → h1.1 = h.1 ∧ h1.2.1 = h.2.1 → (∀ p, p ≠ q → h1.2.2 p = h.2.2 p) → ok X C (pc + 1, L, st) h1 Q) : ok X C (pc, L, .long x :: .int j :: .ref q :: st) h Q := by
  have fr : xfr [] [1] h (xput h q (.inl (1, n, .inr (.inl (vp_updL g j.toNatClampNeg x))))) := xput_fr hq ⟨_, rfl, fun hz => by cases hz⟩
  refine ok_go (h1 := xput h q (.inl (1, n, .inr (.inl (vp_updL g j.toNatClampNeg x))))) hI rfl ?_ (kk _ ⟨xput_wf hW hq fr rfl, fr, xput_bk hq (fun a' fs' e => by cases e)⟩ (by simp [xput, xup]) ⟨rfl, rfl⟩ (fun p hp => by simp [xput, xup, hp]))
  simp [xst, xq2, hq, hj]
theorem ok_as0 {a b q t n : Nat} {j : Int32} {g : Nat → Option Nat} (hI : xlk2 C pc = some (22, .aastore, 1, a, b)) (hW : xWF h) (hq : h.2.2 q = some (.inl (t, n, .inr (.inr g)))) (ht : 3 ≤ t) (hj : xIn j n)
    (kk : ∀ h1, xkq [] [3] [] h h1 → h1.2.2 q = some (.inl (t, n, .inr (.inr (va_up g j.toNatClampNeg none)))) → h1.1 = h.1 ∧ h1.2.1 = h.2.1 → (∀ p, p ≠ q → h1.2.2 p = h.2.2 p) → ok X C (pc + 1, L, st) h1 Q) : ok X C (pc, L, .null :: .int j :: .ref q :: st) h Q := by
  obtain ⟨g0, e0, ht9, hg⟩ := hW.arr hq ht
  cases e0
  have fr : ∀ c', xfr [] [3] h (xput h q (.inl (t, n, c'))) := fun c' => xput_fr hq ⟨_, rfl, fun hz => by
    rw [show min t 3 = 3 by omega] at hz
    cases hz⟩
  refine ok_go (h1 := xput h q (.inl (t, n, .inr (.inr (va_up g j.toNatClampNeg none))))) hI rfl ?_ (kk _ ⟨xput_wf hW hq (fr _) ⟨⟨ht, ht9⟩, fun i p hp => ?_⟩, fr _, xput_bk hq (fun a' fs' e => by cases e)⟩ (by simp [xput, xup]) ⟨rfl, rfl⟩ (fun p hp => by simp [xput, xup, hp]))
  · simp [xst, xq2, hq, hj, ht, ht9]
  · unfold va_up at hp
    split at hp
    · cases hp
    · exact hg i p hp
theorem ok_as1 {a b q t n p ci : Nat} {j : Int32} {g : Nat → Option Nat} {fs : List Value} (hI : xlk2 C pc = some (22, .aastore, 1, a, b)) (hW : xWF h) (hq : h.2.2 q = some (.inl (t, n, .inr (.inr g)))) (ht : 3 ≤ t) (hj : xIn j n) (hp : h.2.2 p = some (.inr (ci, fs))) (hci : ci = xoc t)
    (kk : ∀ h1, xkq [] [3] [] h h1 → h1.2.2 q = some (.inl (t, n, .inr (.inr (va_up g j.toNatClampNeg (some p))))) → h1.1 = h.1 ∧ h1.2.1 = h.2.1 → (∀ p, p ≠ q → h1.2.2 p = h.2.2 p) → ok X C (pc + 1, L, st) h1 Q) : ok X C (pc, L, .ref p :: .int j :: .ref q :: st) h Q := by
  subst hci
  obtain ⟨g0, e0, ht9, hg⟩ := hW.arr hq ht
  cases e0
  have fr : ∀ c', xfr [] [3] h (xput h q (.inl (t, n, c'))) := fun c' => xput_fr hq ⟨_, rfl, fun hz => by
    rw [show min t 3 = 3 by omega] at hz
    cases hz⟩
  refine ok_go (h1 := xput h q (.inl (t, n, .inr (.inr (va_up g j.toNatClampNeg (some p)))))) hI rfl ?_ (kk _ ⟨xput_wf hW hq (fr _) ⟨⟨ht, ht9⟩, fun i p' hp' => ?_⟩, fr _, xput_bk hq (fun a' fs' e => by cases e)⟩ (by simp [xput, xup]) ⟨rfl, rfl⟩ (fun p hp => by simp [xput, xup, hp]))
  · simp [xst, xq2, hq, hj, ht, ht9, hp]
  · unfold va_up at hp'
    split at hp'
    · cases hp'; exact ⟨fs, hp⟩
    · exact hg i p' hp'
theorem ok_sw_c {d lo : Int} {offs : List Int} {x : Int32} {p : Nat} (hd : (x.toInt < lo ∨ lo + (offs.length : Int) ≤ x.toInt) → ok X C (((p : Int) + d).toNat, L, st) h Q) (hc : ∀ (i : Nat) (hi : i < offs.length), x.toInt = lo + (i : Int) → ok X C (((p : Int) + offs[i]).toNat, L, st) h Q) : ok X C (xsw p d lo offs x, L, st) h Q := by
  unfold xsw
  by_cases h1 : x.toInt < lo
  · rw [if_pos h1]; exact hd (Or.inl h1)
  · rw [if_neg h1]
    by_cases h2 : (x.toInt - lo).toNat < offs.length
    · rw [List.getElem?_eq_getElem h2]
      exact hc _ h2 (by omega)
    · rw [List.getElem?_eq_none (by omega)]
      exact hd (Or.inr (by omega))
theorem ok_lw_c {d k o : Int} {t : List (Int × Int)} {x : Int32} {p : Nat} (h1 : x.toInt = k → ok X C (((p : Int) + o).toNat, L, st) h Q) (h2 : ¬ x.toInt = k → ok X C (xlw p d x t, L, st) h Q) : ok X C (xlw p d x ((k, o) :: t), L, st) h Q := by
  unfold xlw
  by_cases hk : x.toInt = k
  · rw [if_pos hk]; exact h1 hk
  · rw [if_neg hk]; exact h2 hk
end OK
/-- hundredths -/
def hund (f a : Int32) : Int32 := if f = 0 then 100 * a else a
def isD (x : Int32) : Prop := 0 ≤ x ∧ x ≤ 999
/-- FORM, amount, key, SO as mended -/
def mnd (h : xH) (m : Value) (a5 a6 a7 a8 y5 y6 y7 y8 : Int32) : Prop := (m = .null ∧ y5 = a5 ∧ y6 = a6 ∧ y7 = a7 ∧ y8 = a8) ∨ ∃ (q : Nat) (b0 b1 b2 b3 b4 b9 b10 bv : Int32) (bm : Value), m = .ref q ∧ h.2.2 q = some (.inr (2, [.int b0, .int b1, .int b2, .int b3, .int b4, .int y5, .int y6, .int y7, .int y8, .int b9, .int b10, .int bv, bm]))
def asK (a4 a5 a6 a7 a8 a9 : Int32) : Prop := (a4 = 2 → a5 = 0 ∧ a6 = 0 ∧ a7 = 0) ∧ (a4 = 4 → (a5 = 0 ∧ a6 = 0 ∧ a7 = 0) ∧ a8 = a9)
def isAm (x : Int32) : Prop := -1000000 ≤ x ∧ x ≤ 1000000
def asT (a4 a5 a6 a7 a8 a9 : Int32) : Prop := (0 ≤ a4 ∧ a4 ≤ 4) ∧ (0 ≤ a5 ∧ a5 ≤ 1) ∧ isAm a6 ∧ (0 ≤ a7 ∧ a7 ≤ 9) ∧ isD a8 ∧ isD a9 ∧ asK a4 a5 a6 a7 a8 a9
