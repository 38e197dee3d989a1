/-! THE MODEL's cells: 57 the object, 58 to 78 its arrays (63, 77, 78 of longs, 64, 65, 69 of booleans) -/
def mlen (q : Nat) : Nat := match q with
  | 58 => 4010
  | 59 => 20
  | 60 => 400
  | 61 => 400
  | 62 => 400
  | 63 => 400
  | 64 => 400
  | 65 => 400
  | 66 => 4
  | 67 => 4
  | 68 => 4
  | 69 => 400
  | 70 => 10
  | 71 => 10
  | 72 => 10
  | 73 => 10
  | 74 => 40
  | 75 => 40
  | 76 => 40
  | 77 => 4
  | 78 => 128
  | _ => 0
def mtg (q : Nat) : Nat := match q with
  | 64 => 2
  | 65 => 2
  | 69 => 2
  | _ => 0
def mQ : List Nat := [58, 59, 60, 61, 62, 64, 65, 66, 67, 68, 69, 70, 71, 72, 73, 74, 75, 76]
def mL : List Nat := [63, 77, 78]
def mF (S : Nat → Int32) : List Value := [.ref 58, .int (S 1), .int (S 2), .ref 59, .int (S 4), .int (S 5), .int (S 6), .ref 60, .ref 61, .ref 62, .ref 63, .ref 64, .ref 65, .int (S 13), .int (S 14), .int (S 15), .ref 66, .ref 67, .ref 68, .ref 69, .int (S 20), .ref 70, .ref 71, .ref 72, .ref 73, .ref 74, .ref 75, .ref 76, .ref 77, .ref 78]
def mC (S : Nat → Int32) (A : Nat → Nat → Int32) (B : Nat → Nat → Int64) (h : xH) : Prop := h.2.2 57 = some (.inr (9, mF S)) ∧ (∀ q, q ∈ mQ → h.2.2 q = some (.inl (mtg q, mlen q, .inl (A q)))) ∧ ∀ q, q ∈ mL → h.2.2 q = some (.inl (1, mlen q, .inr (.inl (B q))))
/-- what leaves the model alone, its longs aside -/
def mAv (w t : List Nat) : Bool := (List.range 30).all (fun b => !(xany w (900 + b))) && !(xany t 0) && !(xany t 2)
theorem mC.ka {S : Nat → Int32} {A : Nat → Nat → Int32} {B : Nat → Nat → Int64} {w t m : List Nat} {h h1 : xH} (hm : mC S A B h) (k : xkq w t m h h1) (hA : mAv w t = true) : h1.2.2 57 = some (.inr (9, mF S)) ∧ (∀ q, q ∈ mQ → h1.2.2 q = some (.inl (mtg q, mlen q, .inl (A q)))) := by
  obtain ⟨a1, a2, a3⟩ := hm
  simp only [mAv, Bool.and_eq_true, Bool.not_eq_true'] at hA
  obtain ⟨⟨b1, b2⟩, b3⟩ := hA
  refine ⟨k.2.1.obj a1 (fun b hb => ?_), fun q hq => ?_⟩
  · have := List.all_eq_true.mp b1 b (List.mem_range.mpr hb)
    simpa using this
  · obtain ⟨c', h2, h3⟩ := k.2.1.2.2 q _ (a2 q hq)
    have ht : xany t (min (mtg q) 3) = false := by
      unfold mtg
      split <;> first | exact b3 | exact b2
    rw [h3 ht] at h2
    exact h2
theorem mC.kp {S : Nat → Int32} {A : Nat → Nat → Int32} {B : Nat → Nat → Int64} {w t m : List Nat} {h h1 : xH} (hm : mC S A B h) (k : xkq w t m h h1) (hA : (mAv w t && !(xany t 1)) = true) : mC S A B h1 := by
  simp only [Bool.and_eq_true, Bool.not_eq_true'] at hA
  obtain ⟨c1, c2⟩ := hm.ka k hA.1
  refine ⟨c1, c2, fun q hq => ?_⟩
  obtain ⟨c', h2, h3⟩ := k.2.1.2.2 q _ (hm.2.2 q hq)
  rw [h3 hA.2] at h2
  exact h2
/-- what may change the longs -/
theorem mC.kq {S : Nat → Int32} {A : Nat → Nat → Int32} {B : Nat → Nat → Int64} {w t m : List Nat} {h h1 : xH} (hm : mC S A B h) (k : xkq w t m h h1) (hA : mAv w t = true) : ∃ B', mC S A B' h1 := by
  obtain ⟨c1, c2⟩ := hm.ka k hA
  have hh : ∀ q, q ∈ mL → ∃ b, h1.2.2 q = some (.inl (1, mlen q, .inr (.inl b))) := fun q hq => by
    obtain ⟨c, h2⟩ := k.2.1.arr (hm.2.2 q hq)
    obtain ⟨g, rfl⟩ := k.1.lar h2
    exact ⟨g, h2⟩
  refine ⟨fun q => match h1.2.2 q with | some (.inl (_, _, .inr (.inl b))) => b | _ => fun _ => 0, c1, c2, fun q hq => ?_⟩
  obtain ⟨b, hb⟩ := hh q hq
  dsimp only
  rw [hb]
set_option maxRecDepth 100000 in
theorem hD0_1 : hD0.1 = 79 := by decide +kernel
set_option maxRecDepth 100000 in
theorem hD0_2 : hD0.2.1 ≤ 9000 := by decide +kernel
set_option maxRecDepth 100000 in
theorem hB0_1 : hB0.1 = 57 := by decide +kernel
theorem xWF_nil : xWF (0, 0, fun _ => none) := fun q e he => by cases he
theorem rB0_is : rB0 = some (none, hB0) := by
  have h := rB0_ok
  unfold isv at h
  split at h
  · rename_i hh hr
    have : hB0 = hh := by unfold hB0; rw [hr]
    rw [this]; exact hr
  · cases h
theorem rD0_is : rD0 = some (none, hD0) := by
  have h := rD0_ok
  unfold isv at h
  split at h
  · rename_i hh hr
    have : hD0 = hh := by unfold hD0; rw [hr]
    rw [this]; exact hr
  · cases h
theorem hA0_wf : xWF hA0 := xnew_wf xWF_nil (xfs_wf (by decide))
theorem hB0_wf : xWF hB0 := (xrun_inv (j := 44) (by decide) hA0_wf rB0_is).1
theorem hC0_wf : xWF hC0 := xnew_wf hB0_wf (xfs_wf (by decide))
theorem hD0_wf : xWF hD0 := (xrun_inv (j := 86) (by decide) hC0_wf rD0_is).1
def ckK (e : Option xE) (t n : Nat) : Bool := match e with
  | some (.inl (t', n', _)) => Nat.beq t' t && Nat.beq n' n
  | _ => false
theorem ckK_use {e : Option xE} {t n : Nat} (h : ckK e t n = true) : ∃ k, e = some (.inl (t, n, k)) := by
  unfold ckK at h
  split at h
  · simp only [Bool.and_eq_true] at h
    rw [Nat.eq_of_beq_eq_true h.1, Nat.eq_of_beq_eq_true h.2]
    exact ⟨_, rfl⟩
  · cases h
def ckO (e : Option xE) (a : Nat) (fs : List Value) : Bool := match e with
  | some (.inr (a', fs')) => Nat.beq a' a && decide (fs' = fs)
  | _ => false
theorem ckO_use {e : Option xE} {a : Nat} {fs : List Value} (h : ckO e a fs = true) : e = some (.inr (a, fs)) := by
  unfold ckO at h
  split at h
  · simp only [Bool.and_eq_true, decide_eq_true_eq] at h
    rw [Nat.eq_of_beq_eq_true h.1, h.2]
  · cases h
def ckA (e : Option xE) (a : Nat) : Bool := match e with
  | some (.inr (a', _)) => Nat.beq a' a
  | _ => false
theorem ckA_use {e : Option xE} {a : Nat} (h : ckA e a = true) : ∃ fs, e = some (.inr (a, fs)) := by
  unfold ckA at h
  split at h
  · rw [Nat.eq_of_beq_eq_true h]
    exact ⟨_, rfl⟩
  · cases h
def ckJ (e : Option xE) : Bool := match e with
  | some (.inr (3, .ref 7 :: _)) => true
  | _ => false
theorem ckJ_use {e : Option xE} (h : ckJ e = true) : ∃ fs, e = some (.inr (3, .ref 7 :: fs)) := by
  unfold ckJ at h
  split at h
  · exact ⟨_, rfl⟩
  · cases h
def ckR (h : xH) (r : Nat) : Bool := match h.2.2 r with
  | some (.inr (5, [.int n, .ref t])) => decide (n = 0) && ckK (h.2.2 t) 7 8
  | some (.inr (5, _)) => false
  | some (.inr (1, _)) => false
  | _ => true
set_option maxRecDepth 100000 in
theorem ck0 : (ckO (hD0.2.2 0) 8 [.ref 1, .ref 3, .ref 4, .ref 6, .ref 10, .ref 11, .ref 12, .int 0, .int 0, .int 0] && ckA (hD0.2.2 1) 5 && ckK (hD0.2.2 3) 3 20 && ckA (hD0.2.2 4) 5 && ckJ (hD0.2.2 6) && ckO (hD0.2.2 7) 0 [.ref 8, .ref 9] && ckK (hD0.2.2 8) 1 1000 && ckK (hD0.2.2 9) 1 16 && ckK (hD0.2.2 10) 4 4 && ckK (hD0.2.2 11) 5 10 && ckK (hD0.2.2 12) 6 4) = true := by decide +kernel
set_option maxRecDepth 100000 in
theorem ck1 : (List.range 79).all (ckR hD0) = true := by decide +kernel
theorem cI0 : cI 0 0 0 0 hD0 := by
  have h := ck0
  simp only [Bool.and_eq_true] at h
  obtain ⟨⟨⟨⟨⟨⟨⟨⟨⟨⟨a0, a1⟩, a3⟩, a4⟩, a6⟩, a7⟩, a8⟩, a9⟩, a10⟩, a11⟩, a12⟩ := h
  have hsz := hD0_1
  have hck : ∀ r e, hD0.2.2 r = some e → ckR hD0 r = true := fun r e he => List.all_eq_true.mp ck1 r (List.mem_range.mpr (by rw [← hsz]; exact (hD0_wf r e he).1))
  refine ⟨ckO_use a0, ⟨⟨by decide, by decide⟩, ⟨by decide, by decide⟩⟩, ⟨ckA_use a1, ckK_use a3, ckA_use a4, ckJ_use a6, ckO_use a7, ckK_use a8, ckK_use a9, ckK_use a10, ckK_use a11, ckK_use a12⟩, fun r fs hr => ?_, fun d fs hd => ?_⟩
  · have h1 := hck r _ hr
    unfold ckR at h1
    rw [hr] at h1
    split at h1
    · rename_i n t hh
      cases hh
      simp only [Bool.and_eq_true, decide_eq_true_eq] at h1
      obtain ⟨rfl, h2⟩ := h1
      obtain ⟨k, hk⟩ := ckK_use h2
      exact ⟨0, t, 8, k, rfl, hk, by decide, by decide, by decide, by decide, by decide⟩
    · cases h1
    · cases h1
    · rename_i q1 q2 q3
      exact absurd rfl (q2 fs)
  · have h1 := hck d _ hd
    unfold ckR at h1
    rw [hd] at h1
    split at h1
    · rename_i hh; cases hh
    · cases h1
    · cases h1
    · rename_i q1 q2 q3
      exact absurd rfl (q3 fs)
def mS0 : Nat → Int32 := fun k => if k = 4 then -1 else 0
def mA0 : Nat → Nat → Int32 := fun q => match hD0.2.2 q with
  | some (.inl (_, _, .inl f)) => f
  | _ => fun _ => 0
def mB0 : Nat → Nat → Int64 := fun q => match hD0.2.2 q with
  | some (.inl (_, _, .inr (.inl f))) => f
  | _ => fun _ => 0
def ckI (q : Nat) : Bool := match hD0.2.2 q with
  | some (.inl (t, n, .inl f)) => Nat.beq t (mtg q) && Nat.beq n (mlen q) && (List.range (mlen q)).all (fun i => decide (f i = 0))
  | _ => false
def ckL (q : Nat) : Bool := match hD0.2.2 q with
  | some (.inl (t, n, .inr (.inl f))) => Nat.beq t 1 && Nat.beq n (mlen q) && (List.range (mlen q)).all (fun i => decide (f i = 0))
  | _ => false
set_option maxRecDepth 100000 in
theorem ck2 : (ckO (hD0.2.2 57) 9 (mF mS0) && mQ.all ckI && mL.all ckL) = true := by decide +kernel
theorem mC0 : mC mS0 mA0 mB0 hD0 ∧ (∀ q i, q ∈ mQ → i < mlen q → mA0 q i = 0) ∧ ∀ q i, q ∈ mL → i < mlen q → mB0 q i = 0 := by
  have h := ck2
  simp only [Bool.and_eq_true] at h
  obtain ⟨⟨a0, a1⟩, a2⟩ := h
  refine ⟨⟨ckO_use a0, fun q hq => ?_, fun q hq => ?_⟩, fun q i hq hi => ?_, fun q i hq hi => ?_⟩
  · have h1 := List.all_eq_true.mp a1 q hq
    unfold ckI at h1
    split at h1
    · rename_i t n f hf
      simp only [Bool.and_eq_true] at h1
      rw [hf, Nat.eq_of_beq_eq_true h1.1.1, Nat.eq_of_beq_eq_true h1.1.2]
      unfold mA0
      rw [hf]
    · cases h1
  · have h1 := List.all_eq_true.mp a2 q hq
    unfold ckL at h1
    split at h1
    · rename_i t n f hf
      simp only [Bool.and_eq_true] at h1
      rw [hf, Nat.eq_of_beq_eq_true h1.1.1, Nat.eq_of_beq_eq_true h1.1.2]
      unfold mB0
      rw [hf]
    · cases h1
  · have h1 := List.all_eq_true.mp a1 q hq
    unfold ckI at h1
    split at h1
    · rename_i t n f hf
      simp only [Bool.and_eq_true] at h1
      unfold mA0
      rw [hf]
      exact of_decide_eq_true (List.all_eq_true.mp h1.2 i (List.mem_range.mpr hi))
    · cases h1
  · have h1 := List.all_eq_true.mp a2 q hq
    unfold ckL at h1
    split at h1
    · rename_i t n f hf
      simp only [Bool.and_eq_true] at h1
      unfold mB0
      rw [hf]
      exact of_decide_eq_true (List.all_eq_true.mp h1.2 i (List.mem_range.mpr hi))
    · cases h1
