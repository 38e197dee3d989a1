/-- what is done to one doing -/
def mDx (A A' : Nat → Nat → Int32) (d : Nat) : Prop := (∀ q, q ∈ [58, 59, 68] → A' q = A q) ∧ (∀ q, q ∈ [70, 71, 72, 73] → ∀ i, i ≠ d → A' q i = A q i) ∧ ∀ q, q ∈ [74, 76] → ∀ i, i < 4 * d ∨ 4 * d + 4 ≤ i → A' q i = A q i
theorem mD_x {A A' : Nat → Nat → Int32} {M D d d' : Nat} (h : mDx A A' d) (hd : d' ≠ d) (h1 : mD A M D d') : mD A' M D d' := by
  obtain ⟨a0, l, e, u, a1, a2, a3, a4, a5, a6, a7, a8, a9, a10, a11⟩ := h1
  unfold mD
  rw [h.2.1 70 (by decide) d' hd, h.2.1 71 (by decide) d' hd, h.2.1 72 (by decide) d' hd, h.2.1 73 (by decide) d' hd]
  refine ⟨a0, l, e, u, a1, a2, a3, a4, a5, a6, a7, a8, a9, fun k hk => ?_, fun k hk => ?_⟩
  · rw [h.2.2 74 (by decide) _ (by omega)]; exact a10 k hk
  · rw [h.2.2 76 (by decide) _ (by omega)]; exact a11 k hk
theorem mI_d {S : Nat → Int32} {A A' : Nat → Nat → Int32} {M V D d : Nat} (h : mI S A M V D) (hx : mDx A A' d) (hd : mD A' M D d) : mI S A' M V D := by
  obtain ⟨a1, a2, a3, a4, ⟨a5, a51, a52⟩, a6, a7, a8⟩ := h
  refine ⟨a1, a2, a3, mR_f a4 (fun i _ => by rw [hx.1 58 (by decide)]) (hx.1 59 (by decide)), ⟨a5, a51, fun v hv => by rw [hx.1 68 (by decide)]; exact a52 v hv⟩, a6, a7, fun d' hd' => ?_⟩
  by_cases he : d' = d
  · subst he; exact hd
  · exact mD_x hx he (a8 d' hd')
theorem mJ_doing {S : Nat → Int32} {A A' : Nat → Nat → Int32} {M V D : Nat} (h : mJ S A M V D) (hD : D < 10) (hq : ∀ q, q ≠ 76 → A' q = A q) (h6 : ∀ i, i < 4 * D ∨ 4 * D + 4 ≤ i → A' 76 i = A 76 i) : mJ (mP S 20 (nI (D + 1))) A' M V (D + 1) := by
  have hx : mDx A A' D := ⟨fun q h1 => hq q (by simp only [List.mem_cons, List.not_mem_nil, or_false] at h1; omega), fun q h1 i _ => by rw [hq q (by simp only [List.mem_cons, List.not_mem_nil, or_false] at h1; omega)], fun q h1 i hi => by
    simp only [List.mem_cons, List.not_mem_nil, or_false] at h1
    rcases h1 with rfl | rfl
    · rw [hq 74 (by decide)]
    · exact h6 i hi⟩
  obtain ⟨⟨a1, a2, a3, a4, ⟨a5, a51, a52⟩, a6, a7, a8⟩, a9⟩ := h
  refine ⟨⟨by rw [mP_n (by decide)]; exact a1, a2, by rw [mP_n (by decide)]; exact a3, mR_f a4 (fun i _ => by rw [hq 58 (by decide)]) (hq 59 (by decide)), ⟨by rw [mP_n (by decide)]; exact a5, a51, fun v hv => by rw [hq 68 (by decide)]; exact a52 v hv⟩, mP_s, hD, fun d hd => ?_⟩, by rw [mP_n (by decide)]; exact a9⟩
  have h1 : mD A' M D d := by
    by_cases he : d = D
    · subst he
      obtain ⟨b0, l, e, u, b1, b2, b3, b4, b5, b6, b7, b8, b9, b10, b11⟩ := a8 d hd
      have hz := b7 (b0 (Nat.le_refl _)).1
      unfold mD
      rw [hq 70 (by decide), hq 71 (by decide), hq 72 (by decide), hq 73 (by decide), hq 74 (by decide)]
      exact ⟨b0, l, e, u, b1, b2, b3, b4, b5, b6, b7, b8, b9, b10, fun k hk => by omega⟩
    · exact mD_x hx he (a8 d hd)
  exact ⟨fun hh => h1.1 (by omega), h1.2⟩
theorem mD_leg {A : Nat → Nat → Int32} {M D d l s : Nat} {a : Int32} (h : mD A M D d) (hd : d < D) (h0 : A 70 d = 0) (hl : A 71 d = nI l) (hl4 : l < 4) (hs : s < 20) : mDx A (mU (mU (mU A 74 (4 * d + l) (nI s)) 75 (4 * d + l) a) 71 d (nI (l + 1))) d ∧ mD (mU (mU (mU A 74 (4 * d + l) (nI s)) 75 (4 * d + l) a) 71 d (nI (l + 1))) M D d := by
  refine ⟨⟨fun q hq => ?_, fun q hq i hi => ?_, fun q hq i hi => ?_⟩, ?_⟩
  · simp only [List.mem_cons, List.not_mem_nil, or_false] at hq
    rw [mU_n (by omega), mU_n (by omega), mU_n (by omega)]
  · simp only [List.mem_cons, List.not_mem_nil, or_false] at hq
    by_cases h71 : q = 71
    · subst h71; rw [mU_q hi, mU_n (by omega), mU_n (by omega)]
    · rw [mU_n h71, mU_n (by omega), mU_n (by omega)]
  · simp only [List.mem_cons, List.not_mem_nil, or_false] at hq
    rcases hq with rfl | rfl
    · rw [mU_n (by decide), mU_n (by decide), mU_q (by omega)]
    · rw [mU_n (by decide), mU_n (by decide), mU_n (by decide)]
  · obtain ⟨b0, l', e, u, b1, b2, b3, b4, b5, b6, b7, b8, b9, b10, b11⟩ := h
    have hll : l' = l := (nI_eq (by omega) (by omega)).mp (b1.symm.trans hl)
    subst hll
    have hz := b7 h0
    refine ⟨fun hh => by omega, l' + 1, e, u, mU_s, ?_, ?_, by omega, by omega, by omega, ?_, ?_, ?_, fun k hk => ?_, fun k hk => by omega⟩
    · rw [mU_n (by decide), mU_n (by decide), mU_n (by decide)]; exact b2
    · rw [mU_n (by decide), mU_n (by decide), mU_n (by decide)]; exact b3
    · intro _; exact hz
    · rw [mU_n (by decide), mU_n (by decide), mU_n (by decide)]; intro q; rw [h0] at q; exact absurd q (by decide)
    · rw [mU_n (by decide), mU_n (by decide), mU_n (by decide)]; intro q; rw [h0] at q; exact absurd q (by decide)
    · rw [mU_n (by decide), mU_n (by decide)]
      by_cases hk2 : k = l'
      · subst hk2; exact ⟨s, hs, mU_s⟩
      · rw [mU_q (by omega)]; exact b10 k (by omega)
theorem mD_how {A : Nat → Nat → Int32} {M D d : Nat} {x : Int32} (h : mD A M D d) (hd : d < D) (hx : (x = 1 ∧ A 70 d = 0 ∧ ¬ A 71 d = 0) ∨ (x = 2 ∧ A 70 d = 1 ∧ ¬ A 72 d = 0) ∨ x = 3 ∨ x = 4) : mDx A (mU A 70 d x) d ∧ mD (mU A 70 d x) M D d := by
  refine ⟨⟨fun q hq => ?_, fun q hq i hi => ?_, fun q hq i hi => ?_⟩, ?_⟩
  · simp only [List.mem_cons, List.not_mem_nil, or_false] at hq
    rw [mU_n (by omega)]
  · by_cases h71 : q = 70
    · subst h71; rw [mU_q hi]
    · rw [mU_n h71]
  · simp only [List.mem_cons, List.not_mem_nil, or_false] at hq
    rw [mU_n (by omega)]
  · obtain ⟨b0, l, e, u, b1, b2, b3, b4, b5, b6, b7, b8, b9, b10, b11⟩ := h
    unfold mD
    rw [mU_n (show 71 ≠ 70 by decide), mU_n (show 72 ≠ 70 by decide), mU_n (show 73 ≠ 70 by decide), mU_n (show 74 ≠ 70 by decide), mU_n (show 76 ≠ 70 by decide), mU_s]
    refine ⟨fun hh => by omega, l, e, u, b1, b2, b3, b4, b5, b6, ?_, ?_, ?_, b10, b11⟩
    · intro q; rcases hx with ⟨rfl, _⟩ | ⟨rfl, _⟩ | rfl | rfl <;> exact absurd q (by decide)
    · intro q
      rcases hx with ⟨rfl, q1, q2⟩ | ⟨rfl, _⟩ | rfl | rfl
      · have hz := b7 q1
        have : l ≠ 0 := fun q3 => q2 (by rw [b1, q3]; rfl)
        omega
      all_goals exact absurd q (by decide)
    · intro q
      rcases hx with ⟨rfl, _⟩ | ⟨rfl, q1, q2⟩ | rfl | rfl
      · exact absurd q (by decide)
      · have hz := b8 q1
        have : e ≠ 0 := fun q3 => q2 (by rw [b2, q3]; rfl)
        omega
      all_goals exact absurd q (by decide)
/-- one leg more is done: the answer x stands, and the doing may not go on as it is -/
theorem mD_did {A : Nat → Nat → Int32} {M D d l e x : Nat} (h : mD A M D d) (hd : d < D) (h1 : A 70 d = 1) (hl : A 71 d = nI l) (he : A 72 d = nI e) (hx : x < M) (hel : e < l) (hl4 : l ≤ 4) : mDx A (mU (mU A 76 (4 * d + e) (nI x)) 72 d (nI (e + 1))) d ∧ (e + 1 < l → mD (mU (mU A 76 (4 * d + e) (nI x)) 72 d (nI (e + 1))) M D d) ∧ (e + 1 = l → mD (mU (mU (mU A 76 (4 * d + e) (nI x)) 72 d (nI (e + 1))) 70 d 3) M D d) := by
  refine ⟨⟨fun q hq => ?_, fun q hq i hi => ?_, fun q hq i hi => ?_⟩, ?_, ?_⟩
  · simp only [List.mem_cons, List.not_mem_nil, or_false] at hq
    rw [mU_n (by omega), mU_n (by omega)]
  · simp only [List.mem_cons, List.not_mem_nil, or_false] at hq
    by_cases h71 : q = 72
    · subst h71; rw [mU_q hi, mU_n (by omega)]
    · rw [mU_n h71, mU_n (by omega)]
  · simp only [List.mem_cons, List.not_mem_nil, or_false] at hq
    rcases hq with rfl | rfl
    · rw [mU_n (by decide), mU_n (by decide)]
    · rw [mU_n (by decide), mU_q (by omega)]
  all_goals
    intro hlt
    obtain ⟨b0, l', e', u, b1, b2, b3, b4, b5, b6, b7, b8, b9, b10, b11⟩ := h
    have hll : l' = l := (nI_eq (by omega) (by omega)).mp (b1.symm.trans hl)
    have hee : e' = e := (nI_eq (by omega) (by omega)).mp (b2.symm.trans he)
    subst hll hee
    have hz := b8 h1
  · refine ⟨fun hh => by omega, l', e' + 1, u, ?_, mU_s, ?_, by omega, by omega, by omega, ?_, fun _ => ⟨hlt, hz.2⟩, ?_, ?_, fun k hk => ?_⟩
    · rw [mU_n (by decide), mU_n (by decide)]; exact b1
    · rw [mU_n (by decide), mU_n (by decide)]; exact b3
    · rw [mU_n (by decide), mU_n (by decide)]; intro q; rw [h1] at q; exact absurd q (by decide)
    · rw [mU_n (by decide), mU_n (by decide)]; intro q; rw [h1] at q; exact absurd q (by decide)
    · rw [mU_n (by decide), mU_n (by decide)]; exact b10
    · rw [mU_n (by decide)]
      by_cases hk2 : k = e'
      · subst hk2; exact ⟨x, hx, mU_s⟩
      · rw [mU_q (by omega)]; exact b11 k (by omega)
  · refine ⟨fun hh => by omega, l', e' + 1, u, ?_, ?_, ?_, by omega, by omega, by omega, ?_, ?_, ?_, ?_, fun k hk => ?_⟩
    · rw [mU_n (by decide), mU_n (by decide), mU_n (by decide)]; exact b1
    · rw [mU_n (by decide)]; exact mU_s
    · rw [mU_n (by decide), mU_n (by decide), mU_n (by decide)]; exact b3
    · rw [mU_s]; intro q; exact absurd q (by decide)
    · rw [mU_s]; intro q; exact absurd q (by decide)
    · rw [mU_s]; intro q; exact absurd q (by decide)
    · rw [mU_n (by decide), mU_n (by decide), mU_n (by decide)]; exact b10
    · rw [mU_n (by decide), mU_n (by decide)]
      by_cases hk2 : k = e'
      · subst hk2; exact ⟨x, hx, mU_s⟩
      · rw [mU_q (by omega)]; exact b11 k (by omega)
theorem mD_und {A : Nat → Nat → Int32} {M D d e u : Nat} (h : mD A M D d) (hd : d < D) (h2 : A 70 d = 2) (he : A 72 d = nI e) (hu : A 73 d = nI u) (hue : u < e) (he4 : e ≤ 4) : mDx A (mU A 73 d (nI (u + 1))) d ∧ (u + 1 < e → mD (mU A 73 d (nI (u + 1))) M D d) ∧ (u + 1 = e → mD (mU (mU A 73 d (nI (u + 1))) 70 d 4) M D d) := by
  refine ⟨⟨fun q hq => ?_, fun q hq i hi => ?_, fun q hq i hi => ?_⟩, ?_, ?_⟩
  · simp only [List.mem_cons, List.not_mem_nil, or_false] at hq
    rw [mU_n (by omega)]
  · by_cases h71 : q = 73
    · subst h71; rw [mU_q hi]
    · rw [mU_n h71]
  · simp only [List.mem_cons, List.not_mem_nil, or_false] at hq
    rw [mU_n (by omega)]
  all_goals
    intro hlt
    obtain ⟨b0, l, e', u', b1, b2, b3, b4, b5, b6, b7, b8, b9, b10, b11⟩ := h
    have hll : u' = u := (nI_eq (by omega) (by omega)).mp (b3.symm.trans hu)
    have hee : e' = e := (nI_eq (by omega) (by omega)).mp (b2.symm.trans he)
    subst hll hee
  · unfold mD
    rw [mU_n (show 71 ≠ 73 by decide), mU_n (show 72 ≠ 73 by decide), mU_n (show 70 ≠ 73 by decide), mU_n (show 74 ≠ 73 by decide), mU_n (show 76 ≠ 73 by decide), mU_s]
    exact ⟨fun hh => by omega, l, e', u' + 1, b1, b2, rfl, b4, b5, by omega, fun q => by rw [h2] at q; exact absurd q (by decide), fun q => by rw [h2] at q; exact absurd q (by decide), fun _ => hlt, b10, b11⟩
  · unfold mD
    rw [mU_n (show 71 ≠ 70 by decide), mU_n (show 72 ≠ 70 by decide), mU_n (show 73 ≠ 70 by decide), mU_n (show 74 ≠ 70 by decide), mU_n (show 76 ≠ 70 by decide), mU_n (show 71 ≠ 73 by decide), mU_n (show 72 ≠ 73 by decide), mU_n (show 74 ≠ 73 by decide), mU_n (show 76 ≠ 73 by decide), mU_s, mU_s]
    exact ⟨fun hh => by omega, l, e', u' + 1, b1, b2, rfl, b4, b5, by omega, fun q => absurd q (by decide), fun q => absurd q (by decide), fun q => absurd q (by decide), b10, b11⟩
theorem mDx_t {A A1 A2 : Nat → Nat → Int32} {d : Nat} (h1 : mDx A A1 d) (h2 : mDx A1 A2 d) : mDx A A2 d := ⟨fun q hq => by rw [h2.1 q hq, h1.1 q hq], fun q hq i hi => by rw [h2.2.1 q hq i hi, h1.2.1 q hq i hi], fun q hq i hi => by rw [h2.2.2 q hq i hi, h1.2.2 q hq i hi]⟩
theorem mDx_h {A : Nat → Nat → Int32} {d : Nat} {x : Int32} : mDx A (mU A 70 d x) d := by
  refine ⟨fun q hq => ?_, fun q hq i hi => ?_, fun q hq i hi => ?_⟩
  · simp only [List.mem_cons, List.not_mem_nil, or_false] at hq
    rw [mU_n (by omega)]
  · by_cases h71 : q = 70
    · subst h71; rw [mU_q hi]
    · rw [mU_n h71]
  · simp only [List.mem_cons, List.not_mem_nil, or_false] at hq
    rw [mU_n (by omega)]
theorem mJ_d {S : Nat → Int32} {A A' : Nat → Nat → Int32} {M V D d : Nat} (h : mJ S A M V D) (hx : mDx A A' d) (hd : mD A' M D d) : mJ S A' M V D := ⟨mI_d h.1 hx hd, h.2⟩
