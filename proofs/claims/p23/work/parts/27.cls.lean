/-! THE CLASS: what holds of its cells between calls (0 the house, 1 all, 3 streams, 4 trial, 6 judge, 7 to 9 its days, 10 views, 11 doings, 12 senders) -/
abbrev xK : Type := (Nat → Int32) ⊕ (Nat → Int64) ⊕ (Nat → Option Nat)
/-- rows: their size fits their array; nothing is larger than the calls allow -/
def cRI (c : Nat) (h : xH) : Prop := ∀ r fs, h.2.2 r = some (.inr (5, fs)) → ∃ (n : Int32) (t len : Nat) (k : xK), fs = [.int n, .ref t] ∧ h.2.2 t = some (.inl (7, len, k)) ∧ 0 ≤ n.toInt ∧ n.toInt ≤ len ∧ n.toInt ≤ c ∧ 1 ≤ len ∧ len ≤ 2 * c + 8
def cDI (h : xH) : Prop := ∀ d fs, h.2.2 d = some (.inr (1, fs)) → ∃ (a b lc dn un : Int32) (t : Nat) (k : xK), fs = [.int a, .int b, .int lc, .int dn, .int un, .ref t] ∧ h.2.2 t = some (.inl (8, 4, k)) ∧ 0 ≤ lc.toInt ∧ lc.toInt ≤ 4
def cF (h : xH) : Prop := (∃ fs, h.2.2 1 = some (.inr (5, fs))) ∧ (∃ k, h.2.2 3 = some (.inl (3, 20, k))) ∧ (∃ fs, h.2.2 4 = some (.inr (5, fs))) ∧ (∃ fs, h.2.2 6 = some (.inr (3, .ref 7 :: fs))) ∧ h.2.2 7 = some (.inr (0, [.ref 8, .ref 9])) ∧ (∃ k, h.2.2 8 = some (.inl (1, 1000, k))) ∧ (∃ k, h.2.2 9 = some (.inl (1, 16, k))) ∧ (∃ k, h.2.2 10 = some (.inl (4, 4, k))) ∧ (∃ k, h.2.2 11 = some (.inl (5, 10, k))) ∧ (∃ k, h.2.2 12 = some (.inl (6, 4, k)))
def cI (c : Nat) (td vc dc : Int32) (h : xH) : Prop :=
  h.2.2 0 = some (.inr (8, [.ref 1, .ref 3, .ref 4, .ref 6, .ref 10, .ref 11, .ref 12, .int td, .int vc, .int dc])) ∧ ((0 ≤ vc.toInt ∧ vc.toInt ≤ 4) ∧ (0 ≤ dc.toInt ∧ dc.toInt ≤ 10)) ∧ cF h ∧ cRI c h ∧ cDI h
/-- writes and makes that leave it alone -/
def cAv (w m : List Nat) : Bool := [0, 1, 102, 105, 300, 500, 501, 800, 801, 802, 803, 804, 805, 806, 807, 808, 809].all (fun k => !(xany w k)) && !(xany m 1) && !(xany m 5)
theorem cAv_no {w m : List Nat} (h : cAv w m = true) {k : Nat} (hk : k ∈ [0, 1, 102, 105, 300, 500, 501, 800, 801, 802, 803, 804, 805, 806, 807, 808, 809]) : xany w k = false := by
  simp only [cAv, Bool.and_eq_true] at h
  have := List.all_eq_true.mp h.1.1 k hk
  simpa using this
theorem cRI.kp {c : Nat} {w t m : List Nat} {h h1 : xH} (k : xkq w t m h h1) (h5 : xany m 5 = false) (hw : xany w 500 = false ∧ xany w 501 = false) (hR : cRI c h) : cRI c h1 := by
  intro r fs hr
  obtain ⟨-, f, b⟩ := k
  rcases b r 5 fs hr with ⟨fs0, h0⟩ | hz
  · obtain ⟨n, t, len, kk, rfl, ht, h2⟩ := hR r fs0 h0
    have h3 := f.obj h0 (fun b hb => by
      match b, hb with
      | 0, _ => exact hw.1
      | 1, _ => exact hw.2)
    rw [h3] at hr
    cases hr
    obtain ⟨k', h4⟩ := f.arr ht
    exact ⟨n, t, len, k', rfl, h4, h2⟩
  · rw [h5] at hz; cases hz
theorem cDI.kp {w t m : List Nat} {h h1 : xH} (k : xkq w t m h h1) (h5 : xany m 1 = false) (hw : xany w 102 = false ∧ xany w 105 = false) (hR : cDI h) : cDI h1 := by
  intro d fs hd
  obtain ⟨W1, f, b⟩ := k
  rcases b d 1 fs hd with ⟨fs0, h0⟩ | hz
  · obtain ⟨x0, x1, x2, x3, x4, t, kk, rfl, ht, h2⟩ := hR d fs0 h0
    obtain ⟨fs', g1, g2, g3⟩ := f.2.2 d _ h0
    rw [g1] at hd
    cases hd
    obtain ⟨k', h4⟩ := f.arr ht
    have e2 := g3 2 hw.1
    have e5 := g3 5 hw.2
    have hwf := (W1 d _ g1).2
    match fs, g2, e2, e5, hwf with
    | [v0, v1, v2, v3, v4, v5], _, e2, e5, hwf =>
      cases e2
      cases e5
      have i0 := (hwf.2 0 v0 rfl).1
      have i1 := (hwf.2 1 v1 rfl).1
      have i3 := (hwf.2 3 v3 rfl).1
      have i4 := (hwf.2 4 v4 rfl).1
      cases v0 <;> first | (cases i0; done) | skip
      cases v1 <;> first | (cases i1; done) | skip
      cases v3 <;> first | (cases i3; done) | skip
      cases v4 <;> first | (cases i4; done) | skip
      exact ⟨_, _, _, _, _, t, k', rfl, h4, h2⟩
  · rw [h5] at hz; cases hz
theorem cF.kp {w t m : List Nat} {h h1 : xH} (k : xkq w t m h h1) (hw : xany w 0 = false ∧ xany w 1 = false ∧ xany w 300 = false) (hR : cF h) : cF h1 := by
  obtain ⟨-, f, -⟩ := k
  obtain ⟨⟨f1, h1⟩, ⟨k3, h3⟩, ⟨f4, h4⟩, ⟨f6, h6⟩, h7, ⟨k8, h8⟩, ⟨k9, h9⟩, ⟨ka, ha⟩, ⟨kb, hb⟩, ⟨kc, hc⟩⟩ := hR
  refine ⟨f.cls h1, f.arr h3, f.cls h4, ?_, ?_, f.arr h8, f.arr h9, f.arr ha, f.arr hb, f.arr hc⟩
  · obtain ⟨fs', g1, g2, g3⟩ := f.2.2 6 _ h6
    have e0 := g3 0 hw.2.2
    cases fs' with
    | nil => cases e0
    | cons v fs' => cases e0; exact ⟨fs', g1⟩
  · exact f.obj h7 (fun b hb => by
      match b, hb with
      | 0, _ => exact hw.1
      | 1, _ => exact hw.2.1)
theorem cI.kp {c : Nat} {td vc dc : Int32} {w t m : List Nat} {h h1 : xH} (hI : cI c td vc dc h) (k : xkq w t m h h1) (hA : cAv w m = true) : cI c td vc dc h1 := by
  obtain ⟨a1, a2, a3, a4, a5⟩ := hI
  have hm : xany m 1 = false ∧ xany m 5 = false := by
    simp only [cAv, Bool.and_eq_true, Bool.not_eq_true'] at hA
    exact ⟨hA.1.2, hA.2⟩
  refine ⟨k.2.1.obj a1 (fun b hb => ?_), a2, a3.kp k ⟨cAv_no hA (by decide), cAv_no hA (by decide), cAv_no hA (by decide)⟩, a4.kp k hm.2 ⟨cAv_no hA (by decide), cAv_no hA (by decide)⟩, a5.kp k hm.1 ⟨cAv_no hA (by decide), cAv_no hA (by decide)⟩⟩
  have hb : b < 10 := hb
  match b, hb with
  | 0, _ => exact cAv_no hA (by decide)
  | 1, _ => exact cAv_no hA (by decide)
  | 2, _ => exact cAv_no hA (by decide)
  | 3, _ => exact cAv_no hA (by decide)
  | 4, _ => exact cAv_no hA (by decide)
  | 5, _ => exact cAv_no hA (by decide)
  | 6, _ => exact cAv_no hA (by decide)
  | 7, _ => exact cAv_no hA (by decide)
  | 8, _ => exact cAv_no hA (by decide)
  | 9, _ => exact cAv_no hA (by decide)
/-- the fields of an object, by its class -/
theorem sh_int {v : Value} (h : fits .int v = true) : ∃ x, v = .int x := by cases v <;> first | exact ⟨_, rfl⟩ | cases h
theorem sh_long {v : Value} (h : fits .long v = true) : ∃ x, v = .long x := by cases v <;> first | exact ⟨_, rfl⟩ | cases h
theorem sh_bool {v : Value} (h : fits .boolean v = true) : ∃ x, v = .int x ∧ (x = 0 ∨ x = 1) := by
  cases v <;> first | (cases h; done) | skip
  rename_i x
  have h : (x == 0 || x == 1) = true := h
  simp only [Bool.or_eq_true, beq_iff_eq] at h
  exact ⟨x, rfl, h⟩
theorem sh_ref {C : String} {h : xH} {k : Nat} {v : Value} (hk : k < 20) (hf : fits (.object C) v = true) (hr : xrok h k v = true) : v = .null ∨ ∃ p fs, v = .ref p ∧ h.2.2 p = some (.inr (k, fs)) := by
  cases v <;> first | (cases hf; done) | skip
  · exact Or.inl rfl
  · rename_i p
    refine Or.inr ?_
    unfold xrok at hr
    dsimp only at hr
    split at hr
    · rename_i ci fs hp
      rw [Nat.eq_of_beq_eq_true hr] at hp
      exact ⟨p, fs, rfl, hp⟩
    · have := Nat.eq_of_beq_eq_true hr
      omega
    · cases hr
theorem sh2 {h : xH} {p : Nat} {fs : List Value} (hW : xWF h) (hp : h.2.2 p = some (.inr (2, fs))) : ∃ (a0 a1 a2 a3 a4 a5 a6 a7 a8 a9 a10 a11 : Int32) (v : Value), fs = [.int a0, .int a1, .int a2, .int a3, .int a4, .int a5, .int a6, .int a7, .int a8, .int a9, .int a10, .int a11, v] ∧ (a11 = 0 ∨ a11 = 1) ∧ (v = .null ∨ ∃ q f, v = .ref q ∧ h.2.2 q = some (.inr (2, f))) := by
  have hwf := (hW p _ hp).2
  match fs, hwf with
  | [v0, v1, v2, v3, v4, v5, v6, v7, v8, v9, v10, v11, v12], hwf =>
    obtain ⟨a0, rfl⟩ := sh_int (hwf.2 0 v0 rfl).1
    obtain ⟨a1, rfl⟩ := sh_int (hwf.2 1 v1 rfl).1
    obtain ⟨a2, rfl⟩ := sh_int (hwf.2 2 v2 rfl).1
    obtain ⟨a3, rfl⟩ := sh_int (hwf.2 3 v3 rfl).1
    obtain ⟨a4, rfl⟩ := sh_int (hwf.2 4 v4 rfl).1
    obtain ⟨a5, rfl⟩ := sh_int (hwf.2 5 v5 rfl).1
    obtain ⟨a6, rfl⟩ := sh_int (hwf.2 6 v6 rfl).1
    obtain ⟨a7, rfl⟩ := sh_int (hwf.2 7 v7 rfl).1
    obtain ⟨a8, rfl⟩ := sh_int (hwf.2 8 v8 rfl).1
    obtain ⟨a9, rfl⟩ := sh_int (hwf.2 9 v9 rfl).1
    obtain ⟨a10, rfl⟩ := sh_int (hwf.2 10 v10 rfl).1
    obtain ⟨a11, rfl, h11⟩ := sh_bool (hwf.2 11 v11 rfl).1
    exact ⟨a0, a1, a2, a3, a4, a5, a6, a7, a8, a9, a10, a11, v12, rfl, h11, sh_ref (by decide) (hwf.2 12 v12 rfl).1 (hwf.2 12 v12 rfl).2⟩
theorem sh4 {h : xH} {p : Nat} {fs : List Value} (hW : xWF h) (hp : h.2.2 p = some (.inr (4, fs))) : ∃ (a0 a1 : Int32) (v : Value), fs = [.int a0, .int a1, v] ∧ (v = .null ∨ ∃ q f, v = .ref q ∧ h.2.2 q = some (.inr (2, f))) := by
  have hwf := (hW p _ hp).2
  match fs, hwf with
  | [v0, v1, v2], hwf =>
    obtain ⟨a0, rfl⟩ := sh_int (hwf.2 0 v0 rfl).1
    obtain ⟨a1, rfl⟩ := sh_int (hwf.2 1 v1 rfl).1
    exact ⟨a0, a1, v2, rfl, sh_ref (by decide) (hwf.2 2 v2 rfl).1 (hwf.2 2 v2 rfl).2⟩
theorem sh6 {h : xH} {p : Nat} {fs : List Value} (hW : xWF h) (hp : h.2.2 p = some (.inr (6, fs))) : ∃ (a0 a1 : Int32), fs = [.int a0, .int a1] := by
  have hwf := (hW p _ hp).2
  match fs, hwf with
  | [v0, v1], hwf =>
    obtain ⟨a0, rfl⟩ := sh_int (hwf.2 0 v0 rfl).1
    obtain ⟨a1, rfl⟩ := sh_int (hwf.2 1 v1 rfl).1
    exact ⟨a0, a1, rfl⟩
theorem sh7 {h : xH} {p : Nat} {fs : List Value} (hW : xWF h) (hp : h.2.2 p = some (.inr (7, fs))) : ∃ (a0 a1 a2 : Int32), fs = [.int a0, .int a1, .int a2] := by
  have hwf := (hW p _ hp).2
  match fs, hwf with
  | [v0, v1, v2], hwf =>
    obtain ⟨a0, rfl⟩ := sh_int (hwf.2 0 v0 rfl).1
    obtain ⟨a1, rfl⟩ := sh_int (hwf.2 1 v1 rfl).1
    obtain ⟨a2, rfl⟩ := sh_int (hwf.2 2 v2 rfl).1
    exact ⟨a0, a1, a2, rfl⟩
theorem sh3 {h : xH} (hW : xWF h) (hI : cF h) : ∃ (a1 a2 a3 a4 a5 a6 a7 : Int32) (s8 : Int64), h.2.2 6 = some (.inr (3, [.ref 7, .int a1, .int a2, .int a3, .int a4, .int a5, .int a6, .int a7, .long s8])) := by
  obtain ⟨fs, hp⟩ := hI.2.2.2.1
  have hwf := (hW 6 _ hp).2
  match fs, hwf, hp with
  | [v1, v2, v3, v4, v5, v6, v7, v8], hwf, hp =>
    obtain ⟨a1, rfl⟩ := sh_int (hwf.2 1 v1 rfl).1
    obtain ⟨a2, rfl⟩ := sh_int (hwf.2 2 v2 rfl).1
    obtain ⟨a3, rfl⟩ := sh_int (hwf.2 3 v3 rfl).1
    obtain ⟨a4, rfl⟩ := sh_int (hwf.2 4 v4 rfl).1
    obtain ⟨a5, rfl⟩ := sh_int (hwf.2 5 v5 rfl).1
    obtain ⟨a6, rfl⟩ := sh_int (hwf.2 6 v6 rfl).1
    obtain ⟨a7, rfl⟩ := sh_int (hwf.2 7 v7 rfl).1
    obtain ⟨s8, rfl⟩ := sh_long (hwf.2 8 v8 rfl).1
    exact ⟨a1, a2, a3, a4, a5, a6, a7, s8, hp⟩
