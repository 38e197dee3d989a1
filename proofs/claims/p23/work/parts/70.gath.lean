/-! THE MODEL'S LIST AND THE CLASS'S ROW -/
/-- the one below M that holds p as the k-th -/
def mix (p : Nat → Bool) : Nat → Nat → Nat
  | 0, _ => 0
  | n + 1, k => if p n = true ∧ mcn p n = k then n else mix p n k
theorem mix_at {p : Nat → Bool} {n : Nat} (hp : p n = true) : ∀ {M}, n < M → mix p M (mcn p n) = n
  | 0, h => absurd h (Nat.not_lt_zero n)
  | M + 1, h => by
    unfold mix
    by_cases he : p M = true ∧ mcn p M = mcn p n
    · rw [if_pos he]
      by_cases h2 : n < M
      · have := mcn_lt p h2 hp; omega
      · omega
    · rw [if_neg he]
      have hne : n ≠ M := fun e => he (by rw [← e]; exact ⟨hp, rfl⟩)
      exact mix_at hp (by omega)
theorem mix_in {p : Nat → Bool} {M k : Nat} (hk : k < mcn p M) : mix p M k < M ∧ p (mix p M k) = true ∧ mcn p (mix p M k) = k := by
  obtain ⟨n, h1, h2, rfl⟩ := mcn_hit p M k hk
  rw [mix_at h2 h1]
  exact ⟨h1, h2, rfl⟩
/-- a happening's numbers, as the class orders them -/
def hfl (A : Nat → Nat → Int32) (n w : Nat) : Int32 := match w with
  | 0 => A 58 (10 * n)
  | 1 => A 58 (10 * n + 9)
  | 2 => nI n
  | 3 => A 58 (10 * n + 1)
  | 4 => A 58 (10 * n + 2)
  | 5 => A 58 (10 * n + 3)
  | 6 => A 58 (10 * n + 4)
  | 7 => A 58 (10 * n + 5)
  | 8 => A 58 (10 * n + 6)
  | 9 => A 58 (10 * n + 7)
  | _ => A 58 (10 * n + 8)
/-- the k-th of those that hold p -/
def lF (A : Nat → Nat → Int32) (p : Nat → Bool) (T k w : Nat) : Int32 := hfl A (mix p T k) w
/-- what is told is as told -/
def dI (A : Nat → Nat → Int32) (p : Nat → Bool) (T : Nat) : Prop := ∀ n, n < T → p n = true → A 58 (10 * n + 1) = nI (mcn p n) ∧ asT (A 58 (10 * n + 2)) (A 58 (10 * n + 3)) (A 58 (10 * n + 4)) (A 58 (10 * n + 5)) (A 58 (10 * n + 6)) (A 58 (10 * n + 7)) ∧ (¬ A 58 (10 * n + 2) ≤ 2 → ∃ k, k < mcn p n ∧ A 58 (10 * n + 8) = nI k)
theorem nI_m1 {n : Nat} (h : n < 2 ^ 31) : ¬ nI n = (-1 : Int32) := fun e => by
  have := congrArg Int32.toInt e
  rw [nI_toInt h, ktm1] at this
  omega
theorem mof_n {S : Nat → Int32} {A : Nat → Nat → Int32} {n w : Nat} (h4 : S 4 = -1) (hn : n < 2 ^ 31) : mof S A n w = A 58 (10 * n + w) := by
  unfold mof
  rw [if_neg (fun z => nI_m1 hn (z.1.trans h4))]
theorem am_i {a : Int32} (h : isAm a) : -1000000 ≤ a.toInt ∧ a.toInt ≤ 1000000 := by
  obtain ⟨h1, h2⟩ := h
  rw [Int32.le_iff_toInt_le] at h1 h2
  rw [ktm1000000] at h1
  rw [kt1000000] at h2
  exact ⟨h1, h2⟩
theorem hund64 {f a : Int32} (h : isAm a) : (hund f a).toInt64 = if f = 0 then 100 * a.toInt64 else a.toInt64 := by
  have hb := am_i h
  unfold hund
  by_cases hf : f = 0
  · rw [if_pos hf, if_pos hf]
    rw [← Int64.toInt_inj, Int32.toInt_toInt64, fb_mulI (by rw [kt100]; omega) (by rw [kt100]; omega), kt100, Int64.toInt_mul, Int32.toInt_toInt64, show (100 : Int64).toInt = 100 by decide, Int.bmod_eq_of_le (by omega) (by omega)]
  · rw [if_neg hf, if_neg hf]
theorem wE_lt {F : Nat → Nat → Int32} {l k : Nat} (hk : k < l) : wE F l k < l := by
  unfold wE
  cases hm : (wS F l l).2 k with
  | none => exact hk
  | some i => exact wS_lt l (Nat.le_refl _) k i hm
theorem dI_F {A : Nat → Nat → Int32} {p : Nat → Bool} {T : Nat} (hd : dI A p T) : ∀ k, k < mcn p T → asT (lF A p T k 4) (lF A p T k 5) (lF A p T k 6) (lF A p T k 7) (lF A p T k 8) (lF A p T k 9) ∧ lF A p T k 3 = nI k ∧ (¬ lF A p T k 4 ≤ 2 → ∃ i, i < k ∧ lF A p T k 10 = nI i) := fun k hk => by
  obtain ⟨h1, h2, h3⟩ := mix_in hk
  obtain ⟨d1, d2, d3⟩ := hd _ h1 h2
  refine ⟨d2, ?_, fun hq => ?_⟩
  · show A 58 (10 * mix p T k + 1) = _
    rw [d1, h3]
  · rw [h3] at d3
    exact d3 hq
theorem kd5 {x : Int32} (h : 0 ≤ x ∧ x ≤ 4) : x ≤ 2 ∨ x = 3 ∨ x = 4 := by
  simp only [Int32.le_iff_toInt_le, ← Int32.toInt_inj, kt0, kt2, kt3, kt4] at *
  omega
theorem kd3 {x : Int32} (h : 0 ≤ x) (h2 : x ≤ 2) : x = 0 ∨ x = 1 ∨ x = 2 := by
  simp only [Int32.le_iff_toInt_le, ← Int32.toInt_inj, kt0, kt1, kt2] at *
  omega
set_option maxHeartbeats 1000000 in
/-- what gather lists is the class's row, settled -/
theorem gath_eq {S : Nat → Int32} {A A' : Nat → Nat → Int32} {B B' : Nat → Nat → Int64} {x1 x3 : Int32} {T : Nat} {p : Nat → Bool} {F : Nat → Nat → Int32} {l : Nat} (h4 : S 4 = -1) (hT : T ≤ 400) (hp : p = mpg S A x1 x3) (hF : F = lF A p T) (hl : l = mcn p T) (hd : dI A p T) (hG : mG S A B x1 x3 T A' B') : ∀ i, i < l → A' 60 i = nI (mix p T i) ∧ A' 64 i = (wS F l l).1 i ∧ (¬ A' 65 i = 0 ↔ (F i 4 ≤ 2 ∧ (wS F l l).1 i = 0)) ∧ (∀ S', S' 4 = -1 → mof S' A' (A' 60 i).toNatClampNeg 2 = F i 4) ∧ A' 61 i = wY F l i 8 ∧ A' 62 i = wY F l i 7 ∧ B' 63 i = (if F i 4 = 2 then 0 else hund (wY F l i 5) (wY F l i 6)).toInt64 := by
  obtain ⟨A1, A2, ⟨-, gA1, gA2⟩, ⟨gV1', gV2⟩, ⟨gR1', -, gR2⟩⟩ := hG
  rw [← hp, ← hl] at gV2 gR2
  rw [← hp] at gA2
  have hll : l ≤ 400 := by rw [hl]; have := mcn_le p T; omega
  have hS1 : ∀ v, (mP S 13 v) 4 = -1 := fun v => by rw [mP_n (by decide)]; exact h4
  have a60 : ∀ i, i < l → A1 60 i = nI (mix p T i) := fun i hi => by
    obtain ⟨h1, h2, h3⟩ := mix_in (p := p) (M := T) (k := i) (by omega)
    have := gA2 _ h1 h2
    rw [h3] at this
    exact this
  have mlt : ∀ i, i < l → mix p T i < 400 := fun i hi => by
    have := (mix_in (p := p) (M := T) (k := i) (by omega)).1
    omega
  have hk : ∀ v i w, i < l → mok (mP S 13 v) A1 i w = A 58 (10 * mix p T i + w) := fun v i w hi => by
    have := mlt i hi
    unfold mok
    rw [a60 i hi, nI_clamp (by omega), mof_n (hS1 v) (by omega), gA1 58 (by decide)]
  have hk2 : ∀ v i w, i < l → mok (mP S 13 v) A2 i w = A 58 (10 * mix p T i + w) := fun v i w hi => by
    rw [mok_A (gV1' 58 (by decide)) (gV1' 60 (by decide))]
    exact hk v i w hi
  have hdf := dI_F hd
  rw [← hF, ← hl] at hdf
  have href : ∀ j, j < l → ¬ F j 4 ≤ 2 → ∃ k, k < j ∧ F j 10 = nI k := fun j hj => (hdf j hj).2.2
  have e2 : ∀ i, A 58 (10 * mix p T i + 2) = F i 4 := fun i => by rw [hF]; rfl
  have e8 : ∀ i, A 58 (10 * mix p T i + 8) = F i 10 := fun i => by rw [hF]; rfl
  have e1 : ∀ i, i < l → A 58 (10 * mix p T i + 1) = nI i := fun i hi => by
    have := (hdf i hi).2.1
    rw [hF] at this
    exact this
  have hv : ∀ i, i < l → A2 64 i = (wS F l l).1 i := by
    have hW : ∀ k, k < l → (A2 64 k = 1 ∧ ∃ j, k < j ∧ j < l ∧ F j 4 = 4 ∧ A2 64 j = 0 ∧ F j 10 = nI k) ∨ (A2 64 k = 0 ∧ ¬ ∃ j, k < j ∧ j < l ∧ F j 4 = 4 ∧ A2 64 j = 0 ∧ F j 10 = nI k) := fun k hk0 => by
      have e : ∀ v, mvd (mP S 13 v) A1 (A2 64) l k ↔ ∃ j, k < j ∧ j < l ∧ F j 4 = 4 ∧ A2 64 j = 0 ∧ F j 10 = nI k := fun v => by
        unfold mvd
        constructor
        · rintro ⟨j, q1, q2, q3, q4, q5⟩
          rw [hk v j 2 q2, e2] at q3
          rw [hk v j 8 q2, hk v k 1 hk0, e8, e1 k hk0] at q5
          exact ⟨j, q1, q2, q3, q4, q5⟩
        · rintro ⟨j, q1, q2, q3, q4, q5⟩
          refine ⟨j, q1, q2, ?_, q4, ?_⟩
          · rw [hk v j 2 q2, e2]; exact q3
          · rw [hk v j 8 q2, hk v k 1 hk0, e8, e1 k hk0]; exact q5
      rcases gV2 k (Nat.zero_le _) hk0 with ⟨q1, q2⟩ | ⟨q1, q2⟩
      · exact Or.inl ⟨q1, (e _).mp q2⟩
      · exact Or.inr ⟨q1, fun z => q2 ((e _).mpr z)⟩
    intro i hi
    exact (void_u (by omega) href (wG_0 (by omega) href).1 hW (l - i) i hi (Nat.le_refl _)).symm
  intro i hi
  obtain ⟨r1, r2, r3, r4⟩ := gR2 i hi
  have f60 : A' 60 = A2 60 := gR1' 60 (by decide) (by decide) (by decide)
  have f58 : A' 58 = A 58 := (gR1' 58 (by decide) (by decide) (by decide)).trans ((gV1' 58 (by decide)).trans (gA1 58 (by decide)))
  have g60 : ∀ i, i < l → A2 60 i = nI (mix p T i) := fun i hi => by rw [gV1' 60 (by decide)]; exact a60 i hi
  have hmb : ∀ v, mby (mpm (mP S 13 v) A2 i) i l = wE F l i := fun v => by
    refine (wE_mby (by omega) hi href (fun j hj => kd5 (hdf j hj).1.1) (fun j hj => ?_)).symm
    unfold mpm
    rw [decide_eq_true_eq, hk2 v j 2 hj, hk2 v j 8 hj, hk2 v i 1 hi, e2, e8, e1 i hi, hv j hj]
  have hEl : wE F l i < l := wE_lt hi
  rw [hmb] at r2 r3 r4
  rw [hk2 _ i 2 hi, e2, hv i hi] at r1
  rw [hk2 _ _ _ hEl] at r2 r3
  rw [hk2 _ i 2 hi, e2] at r4
  have hkd := (hdf i hi).1.1
  refine ⟨by rw [f60]; exact g60 i hi, ?_, ?_, fun S' hS' => ?_, ?_, ?_, ?_⟩
  · rw [gR1' 64 (by decide) (by decide) (by decide)]; exact hv i hi
  · rw [r1]
    by_cases c : 0 ≤ F i 4 ∧ F i 4 ≤ 2 ∧ (wS F l l).1 i = 0
    · rw [if_pos c]
      exact ⟨fun _ => c.2, fun _ => by decide⟩
    · rw [if_neg c]
      exact ⟨fun z => absurd rfl z, fun z => absurd ⟨hkd.1, z⟩ c⟩
  · have := mlt i hi
    rw [f60, g60 i hi, nI_clamp (by omega), mof_n hS' (by omega), f58, e2]
  · rw [r2]; unfold wY; rw [hF]; rfl
  · rw [r3]; unfold wY; rw [hF]; rfl
  · rw [r4]
    by_cases c : F i 4 = 2
    · rw [if_pos c, if_pos c]; rfl
    · rw [if_neg c, if_neg c]
      have hm := mlt _ hEl
      have ham : isAm (wY F l i 6) := (hdf _ hEl).1.2.2.1
      rw [hund64 ham, g60 _ hEl, nI_clamp (by omega)]
      unfold mrd
      rw [mof_n (hS1 _) (by omega), mof_n (hS1 _) (by omega), gV1' 58 (by decide), gA1 58 (by decide)]
      unfold wY
      rw [hF]
      rfl
/-- verdict and wrong -/
theorem vd_model {S S' : Nat → Int32} {A A' : Nat → Nat → Int32} {B B' : Nat → Nat → Int64} {x1 x3 : Int32} {T : Nat} {p : Nat → Bool} {F : Nat → Nat → Int32} {l : Nat} {z8 z9 : Nat → Int64} {x y : Int32} (h4 : S 4 = -1) (hS' : S' 4 = -1) (hT : T ≤ 400) (hp : p = mpg S A x1 x3) (hF : F = lF A p T) (hl : l = mcn p T) (hd : dI A p T) (hG : mG S A B x1 x3 T A' B') (hz : dZ z8 z9) (hx : vdR (wT F l z8 z9) x) (hy : mWr S' A' B' l y) : x = y := by
  have hg := gath_eq h4 hT hp hF hl hd hG
  have hll : l ≤ 400 := by rw [hl]; have := mcn_le p T; omega
  have hdf := dI_F hd
  rw [← hF, ← hl] at hdf
  refine wr_eq hll hz (fun i hi => ?_) (fun i hi => (hg i hi).2.2.2.1 S' hS') (fun i hi => (hg i hi).2.2.2.2.1) (fun i hi => (hg i hi).2.2.2.2.2.2) (fun i hi hv => ?_) (fun i hi hv => ?_) hx hy
  · rw [(hg i hi).2.2.1]
    exact (decide_eq_true_iff).symm
  · exact kd3 (hdf i hi).1.1.1 (of_decide_eq_true hv).1
  · exact (hdf _ (wE_lt hi)).1.2.2.2.2.1
