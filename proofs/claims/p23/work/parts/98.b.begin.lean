/-! THE START: class and model in step -/
def ckP (e : Option xE) (t n : Nat) (f : Nat → Nat) : Bool := match e with
  | some (.inl (t', n', .inr (.inr g))) => Nat.beq t' t && Nat.beq n' n && (List.range n).all (fun i => match g i with | some p => Nat.beq p (f i) | none => false)
  | _ => false
theorem ckP_use {e : Option xE} {t n : Nat} {f : Nat → Nat} (h : ckP e t n f = true) : ∃ g, e = some (.inl (t, n, .inr (.inr g))) ∧ ∀ i, i < n → g i = some (f i) := by
  unfold ckP at h
  split at h
  · rename_i t' n' g
    simp only [Bool.and_eq_true] at h
    obtain ⟨⟨h1, h2⟩, h3⟩ := h
    rw [Nat.eq_of_beq_eq_true h1, Nat.eq_of_beq_eq_true h2]
    refine ⟨g, rfl, fun i hi => ?_⟩
    have h4 := List.all_eq_true.mp h3 i (List.mem_range.mpr hi)
    cases hg : g i with
    | none => rw [hg] at h4; cases h4
    | some p => rw [hg] at h4; rw [Nat.eq_of_beq_eq_true h4]
  · cases h
def ckQ (e : Option xE) (t n : Nat) : Bool := match e with
  | some (.inl (t', n', .inr (.inr _))) => Nat.beq t' t && Nat.beq n' n
  | _ => false
theorem ckQ_use {e : Option xE} {t n : Nat} (h : ckQ e t n = true) : ∃ g, e = some (.inl (t, n, .inr (.inr g))) := by
  unfold ckQ at h
  split at h
  · simp only [Bool.and_eq_true] at h
    rw [Nat.eq_of_beq_eq_true h.1, Nat.eq_of_beq_eq_true h.2]
    exact ⟨_, rfl⟩
  · cases h
def ckW (e : Option xE) (n : Nat) : Bool := match e with
  | some (.inl (t, n', .inr (.inl f))) => Nat.beq t 1 && Nat.beq n' n && (List.range n).all (fun i => decide (f i = 0))
  | _ => false
theorem ckW_use {e : Option xE} {n : Nat} (h : ckW e n = true) : ∃ g, e = some (.inl (1, n, .inr (.inl g))) ∧ ∀ i, i < n → g i = 0 := by
  unfold ckW at h
  split at h
  · simp only [Bool.and_eq_true] at h
    obtain ⟨⟨h1, h2⟩, h3⟩ := h
    rw [Nat.eq_of_beq_eq_true h1, Nat.eq_of_beq_eq_true h2]
    exact ⟨_, rfl, fun i hi => of_decide_eq_true (List.all_eq_true.mp h3 i (List.mem_range.mpr hi))⟩
  · cases h
def ckT (e : Option xE) : Bool := match e with
  | some (.inr (3, [.ref 7, .int _, .int _, .int _, .int _, .int _, .int _, .int _, .long _])) => true
  | _ => false
theorem ckT_use {e : Option xE} (h : ckT e = true) : ∃ (a1 a2 a3 a4 a5 a6 a7 : Int32) (s8 : Int64), e = some (.inr (3, [.ref 7, .int a1, .int a2, .int a3, .int a4, .int a5, .int a6, .int a7, .long s8])) := by
  unfold ckT at h
  split at h
  · exact ⟨_, _, _, _, _, _, _, _, rfl⟩
  · cases h
def ckS (e : Option xE) : Bool := match e with
  | some (.inr (6, [.int g, .int _])) => decide (g = -1)
  | _ => false
theorem ckS_use {e : Option xE} (h : ckS e = true) : ∃ cn, e = some (.inr (6, [.int (-1), .int cn])) := by
  unfold ckS at h
  split at h
  · rw [of_decide_eq_true h]
    exact ⟨_, rfl⟩
  · cases h
def ckV (v : Value) : Bool := match v with
  | .ref p => Nat.blt p 57
  | _ => true
def ckF (e : Option xE) : Bool := match e with
  | some (.inr (_, fs)) => fs.all ckV
  | _ => true
set_option maxRecDepth 100000 in
theorem ck3 : (List.range 57).all (fun q => ckF (hD0.2.2 q)) = true := by decide +kernel
set_option maxRecDepth 100000 in
theorem ck4 : (ckO (hD0.2.2 1) 5 [.int 0, .ref 2] && ckQ (hD0.2.2 2) 7 8 && ckP (hD0.2.2 3) 3 20 rw' && ckO (hD0.2.2 4) 5 [.int 0, .ref 5] && ckQ (hD0.2.2 5) 7 8 && ckT (hD0.2.2 6) && ckO (hD0.2.2 7) 0 [.ref 8, .ref 9] && ckW (hD0.2.2 8) 1000 && ckW (hD0.2.2 9) 16 && ckQ (hD0.2.2 10) 4 4 && ckQ (hD0.2.2 11) 5 10 && ckP (hD0.2.2 12) 6 4 (fun s => 53 + s)) = true := by decide +kernel
set_option maxRecDepth 100000 in
theorem ck5 : (List.range 20).all (fun s => ckO (hD0.2.2 (rw' s)) 5 [.int 0, .ref (14 + 2 * s)] && ckQ (hD0.2.2 (14 + 2 * s)) 7 8) = true := by decide +kernel
set_option maxRecDepth 100000 in
theorem ck6 : (List.range 4).all (fun s => ckS (hD0.2.2 (53 + s))) = true := by decide +kernel
theorem xoc9 {t : Nat} (h : 3 ≤ t ∧ t < 9) : xoc t ≠ 9 := by
  have : t = 3 ∨ t = 4 ∨ t = 5 ∨ t = 6 ∨ t = 7 ∨ t = 8 := by omega
  rcases this with rfl | rfl | rfl | rfl | rfl | rfl <;> decide
set_option maxRecDepth 100000 in
theorem rH0 : rH cRg hD0 := by
  refine ⟨by rw [hD0_1]; decide, fun q e hq he => ?_⟩
  obtain ⟨b1, b2⟩ := hD0_wf q e he
  rw [hD0_1] at b1
  rcases e with ⟨t, n, k⟩ | ⟨c, fs⟩
  · rcases k with k | k | g
    · trivial
    · trivial
    · intro i p hp
      obtain ⟨ht, b3⟩ := b2
      obtain ⟨fs, b4⟩ := b3 i p hp
      have := mC_ne mC0.1 b4 (fun c fs z => by cases z; exact xoc9 ht) (fun _ _ _ z => by cases z)
      unfold mRg at this
      unfold cRg
      omega
  · have hq2 : q < 57 := by unfold cRg at hq; omega
    have h1 := List.all_eq_true.mp ck3 q (List.mem_range.mpr hq2)
    unfold ckF at h1
    rw [he] at h1
    intro v hv
    have h2 := List.all_eq_true.mp h1 v hv
    unfold ckV at h2
    unfold rv
    cases v with
    | ref p => exact Or.inl (Nat.blt_eq.mp h2)
    | _ => exact True.intro
def T00 (i : Nat) : Nat := if i = 0 then 2 else if i = 21 then 5 else 12 + 2 * i
theorem T00_s {s : Nat} (hs : s < 20) : T00 (s + 1) = 14 + 2 * s := by
  unfold T00
  rw [if_neg (by omega), if_neg (by omega)]
  omega
theorem T00_j {i j : Nat} (hi : i ≤ 21) (hj : j ≤ 21) : T00 i = T00 j → i = j := by
  unfold T00
  by_cases a : i = 0
  · rw [if_pos a]
    by_cases b : j = 0
    · intro _; omega
    · rw [if_neg b]
      by_cases c : j = 21
      · rw [if_pos c]; intro h; omega
      · rw [if_neg c]; intro h; omega
  · rw [if_neg a]
    by_cases a2 : i = 21
    · rw [if_pos a2]
      by_cases b : j = 0
      · rw [if_pos b]; intro h; omega
      · rw [if_neg b]
        by_cases c : j = 21
        · intro _; omega
        · rw [if_neg c]; intro h; omega
    · rw [if_neg a2]
      by_cases b : j = 0
      · rw [if_pos b]; intro h; omega
      · rw [if_neg b]
        by_cases c : j = 21
        · rw [if_pos c]; intro h; omega
        · rw [if_neg c]; intro h; omega
set_option maxRecDepth 100000 in
theorem cX0 : cX hD0 mA0 mB0 0 0 0 (fun _ => 0) := by
  have h := ck4
  simp only [Bool.and_eq_true] at h
  obtain ⟨⟨⟨⟨⟨⟨⟨⟨⟨⟨⟨c1, c2⟩, c3⟩, c4⟩, c5⟩, c6⟩, c7⟩, c8⟩, c9⟩, c10⟩, c11⟩, c12⟩ := h
  obtain ⟨g2, e2⟩ := ckQ_use c2
  obtain ⟨g3, e3, f3⟩ := ckP_use c3
  obtain ⟨g5, e5⟩ := ckQ_use c5
  obtain ⟨g8, e8, f8⟩ := ckW_use c8
  obtain ⟨g9, e9, f9⟩ := ckW_use c9
  obtain ⟨g10, e10⟩ := ckQ_use c10
  obtain ⟨g11, e11⟩ := ckQ_use c11
  obtain ⟨g12, e12, f12⟩ := ckP_use c12
  have no : ∀ n : Nat, ¬ n < 0 := Nat.not_lt_zero
  have e1 : hD0.2.2 1 = some (.inr (5, [.int (nI 0), .ref (T00 0)])) := ckO_use c1
  have e4 : hD0.2.2 4 = some (.inr (5, [.int 0, .ref (T00 21)])) := ckO_use c4
  have e2' : hD0.2.2 (T00 0) = some (.inl (7, 8, .inr (.inr g2))) := e2
  have e5' : hD0.2.2 (T00 21) = some (.inl (7, 8, .inr (.inr g5))) := e5
  refine ⟨⟨⟨T00, ⟨e1, 8, g2, e2', Nat.zero_le _, fun n hn => absurd hn (no n)⟩, ⟨g3, e3, f3⟩, fun s hs => ?_, ⟨0, 8, g5, e4, e5'⟩, ⟨fun _ => 0, fun _ => .null, fun n hn => absurd hn (no n)⟩, fun n _ hn => absurd hn (no n), fun i j hi hj => ?_⟩, ⟨ckT_use c6, ckO_use c7, g8, g9, e8, e9, f8, f9⟩, fun _ _ n hn => absurd hn (no n)⟩, ⟨g11, fun _ => 0, fun _ => 0, fun _ _ => none, fun _ _ => 0, fun _ _ => .null, fun _ => 0, fun _ => 0, fun _ => 0, e11, fun n hn => absurd hn (no n), fun n hn => absurd hn (no n), fun n hn => absurd hn (no n), fun n hn => absurd hn (no n), fun n _ hn => absurd hn (no n), fun n _ hn => absurd hn (no n), fun n _ hn => absurd hn (no n), fun n _ hn => absurd hn (no n), fun n _ hn => absurd hn (no n), fun n _ _ _ hn => absurd hn (no n), fun n _ hn => absurd hn (no n)⟩, ⟨⟨g12, e12, f12⟩, fun s hs => ?_⟩, ⟨g10, fun _ => 0, e10, fun n hn => absurd hn (no n), fun n hn => absurd hn (no n), fun n _ hn => absurd hn (no n)⟩⟩
  · have h5 := List.all_eq_true.mp ck5 s (List.mem_range.mpr hs)
    simp only [Bool.and_eq_true] at h5
    obtain ⟨gq, eq⟩ := ckQ_use h5.2
    rw [T00_s hs]
    exact ⟨ckO_use h5.1, 8, gq, eq, Nat.zero_le _, fun n hn => absurd hn (no n)⟩
  · exact T00_j hi hj
  · obtain ⟨cn, q⟩ := ckS_use (List.all_eq_true.mp ck6 s (List.mem_range.mpr hs))
    have z := mC0.2.2
    refine ⟨0, -1, cn, q, ⟨by rw [ktm1]; rfl, by decide, fun i hi => ⟨0, Nat.le_refl _, ?_⟩, fun k hk => absurd hk (no k)⟩, ?_⟩
    · exact z 78 (32 * s + i) (by decide) (by show 32 * s + i < 128; omega)
    · exact z 77 s (by decide) (by show s < 4; exact hs)
set_option maxRecDepth 100000 in
theorem lX0 : lX 0 hD0 := by
  obtain ⟨c1, c2, c3⟩ := mC0
  have z : ∀ q i, q ∈ mQ → i < mlen q → mA0 q i = 0 := c2
  refine ⟨mS0, mA0, mB0, 0, 0, 0, fun _ => 0, cI0, c1, ⟨⟨rfl, by decide, by decide, ⟨fun s hs => z 59 s (by decide) hs, fun n hn => absurd hn (Nat.not_lt_zero n), fun n hn => absurd hn (Nat.not_lt_zero n)⟩, ⟨rfl, by decide, fun v hv => absurd hv (Nat.not_lt_zero v)⟩, rfl, by decide, fun d hd => ⟨fun _ => ⟨z 70 d (by decide) hd, z 71 d (by decide) hd⟩, 0, 0, 0, z 71 d (by decide) hd, z 72 d (by decide) hd, z 73 d (by decide) hd, by decide, by decide, by decide, fun _ => ⟨rfl, rfl⟩, fun q => ?_, fun q => ?_, fun k hk => absurd hk (Nat.not_lt_zero k), fun k hk => absurd hk (Nat.not_lt_zero k)⟩⟩, rfl⟩, by rw [hD0_1]; decide, by have := hD0_2; omega, rH0, cX0⟩
  · rw [z 70 d (by decide) hd] at q; exact absurd q (by decide)
  · rw [z 70 d (by decide) hd] at q; exact absurd q (by decide)
