/-! PURE: what settle finds -/
/-- taken, by one behind m that is not void itself -/
def wvd (F : Nat → Nat → Int32) (V : Nat → Int32) (l m k : Nat) : Prop := ∃ j, m ≤ j ∧ j < l ∧ F j 4 = 4 ∧ V j = 0 ∧ F j 10 = nI k
def wpm (F : Nat → Nat → Int32) (V : Nat → Int32) (k j : Nat) : Prop := ¬ F j 4 ≤ 2 ∧ ¬ F j 4 = 4 ∧ V j = 0 ∧ F j 10 = nI k
def wG (F : Nat → Nat → Int32) (l m : Nat) (s : (Nat → Int32) × (Nat → Option Nat)) : Prop :=
  (∀ k, k < l → (s.1 k = 1 ∧ wvd F s.1 l m k) ∨ (s.1 k = 0 ∧ ¬ wvd F s.1 l m k)) ∧
  ∀ k, k < l → (s.2 k = none ∧ ∀ j, m ≤ j → j < l → ¬ wpm F s.1 k j) ∨ ∃ j, s.2 k = some j ∧ m ≤ j ∧ j < l ∧ wpm F s.1 k j ∧ ∀ j', j < j' → j' < l → ¬ wpm F s.1 k j'
theorem i42 : ¬ (4 : Int32) ≤ 2 := by decide
theorem wvd_c {F : Nat → Nat → Int32} {V V' : Nat → Int32} {l m k : Nat} (h : ∀ j, m ≤ j → V' j = V j) : wvd F V' l m k ↔ wvd F V l m k := by
  constructor
  · rintro ⟨j, h1, h2, h3, h4, h5⟩
    exact ⟨j, h1, h2, h3, by rw [← h j h1]; exact h4, h5⟩
  · rintro ⟨j, h1, h2, h3, h4, h5⟩
    exact ⟨j, h1, h2, h3, by rw [h j h1]; exact h4, h5⟩
theorem wvd_s {F : Nat → Nat → Int32} {V : Nat → Int32} {l j k : Nat} (hj : j < l) : wvd F V l j k ↔ wvd F V l (j + 1) k ∨ (F j 4 = 4 ∧ V j = 0 ∧ F j 10 = nI k) := by
  constructor
  · rintro ⟨i, h1, h2, h3⟩
    by_cases he : i = j
    · subst he; exact Or.inr h3
    · exact Or.inl ⟨i, by omega, h2, h3⟩
  · rintro (⟨i, h1, h2, h3⟩ | h)
    · exact ⟨i, by omega, h2, h3⟩
    · exact ⟨j, Nat.le_refl _, hj, h⟩
theorem wG_s {F : Nat → Nat → Int32} {l j : Nat} {s : (Nat → Int32) × (Nat → Option Nat)} (hj : j < l) (hl : l < 2 ^ 31) (href : ¬ F j 4 ≤ 2 → ∃ k, k < j ∧ F j 10 = nI k) (h : wG F l (j + 1) s) : wG F l j (wst F j s) := by
  obtain ⟨h1, h2⟩ := h
  unfold wst
  by_cases c1 : F j 4 ≤ 2 ∨ ¬ s.1 j = 0
  · rw [if_pos c1]
    have n1 : ¬ (F j 4 = 4 ∧ s.1 j = 0) := by
      rintro ⟨q1, q2⟩
      rcases c1 with c | c
      · rw [q1] at c; exact i42 c
      · exact c q2
    have n2 : ∀ k, ¬ wpm F s.1 k j := by
      rintro k ⟨q1, q2, q3, q4⟩
      rcases c1 with c | c
      · exact q1 c
      · exact c q3
    refine ⟨fun k hk => ?_, fun k hk => ?_⟩
    · have e : wvd F s.1 l j k ↔ wvd F s.1 l (j + 1) k := by
        rw [wvd_s hj]
        exact ⟨fun q => q.elim id (fun q => absurd ⟨q.1, q.2.1⟩ n1), Or.inl⟩
      rw [e]; exact h1 k hk
    · rcases h2 k hk with ⟨q1, q2⟩ | ⟨i, q1, q2, q3⟩
      · refine Or.inl ⟨q1, fun i z1 z2 => ?_⟩
        by_cases he : i = j
        · subst he; exact n2 k
        · exact q2 i (by omega) z2
      · exact Or.inr ⟨i, q1, by omega, q3⟩
  · rw [if_neg c1]
    have c1a : ¬ F j 4 ≤ 2 := fun q => c1 (Or.inl q)
    have c1b : s.1 j = 0 := by
      by_cases q : s.1 j = 0
      · exact q
      · exact absurd (Or.inr q) c1
    obtain ⟨kj, hkj, ekj⟩ := href c1a
    rw [ekj, nI_clamp (by omega)]
    by_cases c2 : F j 4 = 4
    · rw [if_pos c2]
      have hc : ∀ i, j + 1 ≤ i → upd s.1 kj 1 i = s.1 i := fun i hi => pk_un (by omega)
      have hcj : upd s.1 kj 1 j = 0 := by rw [pk_un (by omega)]; exact c1b
      refine ⟨fun k hk => ?_, fun k hk => ?_⟩
      · dsimp only
        have e : wvd F (upd s.1 kj 1) l j k ↔ wvd F s.1 l (j + 1) k ∨ k = kj := by
          rw [wvd_s hj, wvd_c hc, ekj]
          constructor
          · rintro (q | ⟨_, _, q⟩)
            · exact Or.inl q
            · exact Or.inr ((nI_eq (by omega) (by omega)).mp q).symm
          · rintro (q | q)
            · exact Or.inl q
            · exact Or.inr ⟨c2, hcj, by rw [q]⟩
        rw [e]
        by_cases he : k = kj
        · subst he; exact Or.inl ⟨pk_us, Or.inr rfl⟩
        · rw [pk_un he]
          rcases h1 k hk with ⟨q1, q2⟩ | ⟨q1, q2⟩
          · exact Or.inl ⟨q1, Or.inl q2⟩
          · exact Or.inr ⟨q1, fun q => q.elim q2 he⟩
      · dsimp only
        have e : ∀ i, j ≤ i → i < l → (wpm F (upd s.1 kj 1) k i ↔ wpm F s.1 k i) := fun i hi _ => by
          unfold wpm
          rw [pk_un (by omega)]
        have nj : ¬ wpm F s.1 k j := fun q => q.2.1 c2
        rcases h2 k hk with ⟨q1, q2⟩ | ⟨i, q1, q2, q3, q4, q5⟩
        · refine Or.inl ⟨q1, fun i z1 z2 => ?_⟩
          rw [e i z1 z2]
          by_cases he : i = j
          · subst he; exact nj
          · exact q2 i (by omega) z2
        · exact Or.inr ⟨i, q1, by omega, q3, (e i (by omega) q3).mpr q4, fun j' z1 z2 => by rw [e j' (by omega) z2]; exact q5 j' z1 z2⟩
    · rw [if_neg c2]
      have pj : wpm F s.1 kj j := ⟨c1a, c2, c1b, ekj⟩
      have pk : ∀ k, k < l → k ≠ kj → ¬ wpm F s.1 k j := fun k hk hne q => hne (by
        have := q.2.2.2
        rw [ekj, nI_eq (by omega) (by omega)] at this
        exact this.symm)
      have hv : ∀ k, k < l → (s.1 k = 1 ∧ wvd F s.1 l j k) ∨ (s.1 k = 0 ∧ ¬ wvd F s.1 l j k) := fun k hk => by
        have e : wvd F s.1 l j k ↔ wvd F s.1 l (j + 1) k := by
          rw [wvd_s hj]
          exact ⟨fun q => q.elim id (fun q => absurd q.1 c2), Or.inl⟩
        rw [e]; exact h1 k hk
      by_cases c3 : s.2 kj = none
      · rw [if_pos c3]
        refine ⟨hv, fun k hk => ?_⟩
        dsimp only
        by_cases he : k = kj
        · subst he
          refine Or.inr ⟨j, by simp [va_up], Nat.le_refl _, hj, pj, fun j' z1 z2 => ?_⟩
          rcases h2 k hk with ⟨q1, q2⟩ | ⟨i, q1, _⟩
          · exact q2 j' (by omega) z2
          · rw [c3] at q1; cases q1
        · have : va_up s.2 kj (some j) k = s.2 k := by simp [va_up, he]
          rw [this]
          rcases h2 k hk with ⟨q1, q2⟩ | ⟨i, q1, q2, q3⟩
          · refine Or.inl ⟨q1, fun i z1 z2 => ?_⟩
            by_cases hi : i = j
            · subst hi; exact pk k hk he
            · exact q2 i (by omega) z2
          · exact Or.inr ⟨i, q1, by omega, q3⟩
      · rw [if_neg c3]
        refine ⟨hv, fun k hk => ?_⟩
        rcases h2 k hk with ⟨q1, q2⟩ | ⟨i, q1, q2, q3⟩
        · refine Or.inl ⟨q1, fun i z1 z2 => ?_⟩
          by_cases hi : i = j
          · subst hi
            by_cases he : k = kj
            · subst he; exact absurd q1 c3
            · exact pk k hk he
          · exact q2 i (by omega) z2
        · exact Or.inr ⟨i, q1, by omega, q3⟩
theorem wG_all {F : Nat → Nat → Int32} {l : Nat} (hl : l < 2 ^ 31) (href : ∀ j, j < l → ¬ F j 4 ≤ 2 → ∃ k, k < j ∧ F j 10 = nI k) : ∀ c, c ≤ l → wG F l (l - c) (wS F l c)
  | 0, _ => by
    refine ⟨fun k hk => Or.inr ⟨rfl, ?_⟩, fun k hk => Or.inl ⟨rfl, fun j h1 h2 => ?_⟩⟩
    · rintro ⟨j, h1, h2, _⟩; omega
    · omega
  | c + 1, hc => by
    have h := wG_all hl href c (by omega)
    rw [show l - c = (l - (c + 1)) + 1 by omega] at h
    exact wG_s (by omega) hl (href _ (by omega)) h
theorem wG_0 {F : Nat → Nat → Int32} {l : Nat} (hl : l < 2 ^ 31) (href : ∀ j, j < l → ¬ F j 4 ≤ 2 → ∃ k, k < j ∧ F j 10 = nI k) : wG F l 0 (wS F l l) := by
  have h := wG_all hl href l (Nat.le_refl _)
  rw [Nat.sub_self] at h
  exact h
/-- two ways to say which are void are one -/
theorem void_u {F : Nat → Nat → Int32} {V W : Nat → Int32} {l : Nat} (hl : l < 2 ^ 31) (href : ∀ j, j < l → ¬ F j 4 ≤ 2 → ∃ k, k < j ∧ F j 10 = nI k) (hV : ∀ k, k < l → (V k = 1 ∧ wvd F V l 0 k) ∨ (V k = 0 ∧ ¬ wvd F V l 0 k))
    (hW : ∀ k, k < l → (W k = 1 ∧ ∃ j, k < j ∧ j < l ∧ F j 4 = 4 ∧ W j = 0 ∧ F j 10 = nI k) ∨ (W k = 0 ∧ ¬ ∃ j, k < j ∧ j < l ∧ F j 4 = 4 ∧ W j = 0 ∧ F j 10 = nI k)) : ∀ c k, k < l → l - k ≤ c → V k = W k
  | 0, k, hk, hc => by omega
  | c + 1, k, hk, hc => by
    have ih : ∀ j, k < j → j < l → V j = W j := fun j h1 h2 => void_u hl href hV hW c j h2 (by omega)
    have e : wvd F V l 0 k ↔ ∃ j, k < j ∧ j < l ∧ F j 4 = 4 ∧ W j = 0 ∧ F j 10 = nI k := by
      constructor
      · rintro ⟨j, _, h2, h3, h4, h5⟩
        obtain ⟨k', q1, q2⟩ := href j h2 (by rw [h3]; exact i42)
        rw [h5, nI_eq (by omega) (by omega)] at q2
        subst q2
        exact ⟨j, q1, h2, h3, by rw [← ih j q1 h2]; exact h4, h5⟩
      · rintro ⟨j, h1, h2, h3, h4, h5⟩
        exact ⟨j, Nat.zero_le _, h2, h3, by rw [ih j h1 h2]; exact h4, h5⟩
    rcases hV k hk with ⟨a1, a2⟩ | ⟨a1, a2⟩ <;> rcases hW k hk with ⟨b1, b2⟩ | ⟨b1, b2⟩
    · rw [a1, b1]
    · exact absurd (e.mp a2) b2
    · exact absurd (e.mpr b2) a2
    · rw [a1, b1]
theorem mby_c {p : Nat → Bool} {d : Nat} : ∀ n, (mby p d n = d ∧ ∀ j, j < n → p j = false) ∨ (mby p d n < n ∧ p (mby p d n) = true ∧ ∀ j, mby p d n < j → j < n → p j = false)
  | 0 => Or.inl ⟨rfl, fun j h => absurd h (Nat.not_lt_zero j)⟩
  | n + 1 => by
    cases hp : p n with
    | true => exact Or.inr ⟨by rw [mby_t hp]; omega, by rw [mby_t hp]; exact hp, fun j h1 h2 => by rw [mby_t hp] at h1; omega⟩
    | false =>
      rw [mby_f hp]
      rcases mby_c (p := p) (d := d) n with ⟨h1, h2⟩ | ⟨h1, h2, h3⟩
      · refine Or.inl ⟨h1, fun j hj => ?_⟩
        by_cases he : j = n
        · subst he; exact hp
        · exact h2 j (by omega)
      · refine Or.inr ⟨by omega, h2, fun j h4 h5 => ?_⟩
        by_cases he : j = n
        · subst he; exact hp
        · exact h3 j h4 (by omega)
/-- the last that mends k, as both find it -/
theorem wE_mby {F : Nat → Nat → Int32} {l k : Nat} {p : Nat → Bool} (hl : l < 2 ^ 31) (hk : k < l) (href : ∀ j, j < l → ¬ F j 4 ≤ 2 → ∃ k, k < j ∧ F j 10 = nI k) (hkd : ∀ j, j < l → F j 4 ≤ 2 ∨ F j 4 = 3 ∨ F j 4 = 4) (hp : ∀ j, j < l → (p j = true ↔ (k < j ∧ F j 4 = 3 ∧ (wS F l l).1 j = 0 ∧ F j 10 = nI k))) : wE F l k = mby p k l := by
  have hG := (wG_0 hl href).2 k hk
  have e : ∀ j, j < l → (wpm F (wS F l l).1 k j ↔ p j = true) := fun j hj => by
    rw [hp j hj]
    constructor
    · rintro ⟨q1, q2, q3, q4⟩
      obtain ⟨k', z1, z2⟩ := href j hj q1
      rw [q4, nI_eq (by omega) (by omega)] at z2
      subst z2
      rcases hkd j hj with z | z | z
      · exact absurd z q1
      · exact ⟨z1, z, q3, q4⟩
      · exact absurd z q2
    · rintro ⟨q1, q2, q3, q4⟩
      exact ⟨by rw [q2]; decide, by rw [q2]; decide, q3, q4⟩
  unfold wE
  rcases hG with ⟨h1, h2⟩ | ⟨j, h1, h2, h3, h4, h5⟩
  · rw [h1]
    show k = _
    rw [mby_0]
    intro j hj
    cases hz : p j with
    | false => rfl
    | true => exact absurd ((e j hj).mpr hz) (h2 j (Nat.zero_le _) hj)
  · rw [h1]
    show j = _
    have hpj := (e j h3).mp h4
    rcases mby_c (p := p) (d := k) l with ⟨q1, q2⟩ | ⟨q1, q2, q3⟩
    · rw [q2 j h3] at hpj; cases hpj
    · by_cases c1 : j < mby p k l
      · exact absurd ((e _ q1).mpr q2) (h5 _ c1 q1)
      · by_cases c2 : mby p k l < j
        · rw [q3 j c2 h3] at hpj; cases hpj
        · omega
