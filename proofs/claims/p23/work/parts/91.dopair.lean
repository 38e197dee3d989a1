/-! DOINGS: class and model in step -/
theorem va_s {α : Type} {g : Nat → α} {j : Nat} {v : α} : va_up g j v j = v := by simp [va_up]
theorem va_n {α : Type} {g : Nat → α} {j i : Nat} {v : α} (h : i ≠ j) : va_up g j v i = g i := by simp [va_up, h]
def va2 {α : Type} (f : Nat → Nat → α) (d l : Nat) (v : α) (e k : Nat) : α := if e = d ∧ k = l then v else f e k
theorem va2_s {α : Type} {f : Nat → Nat → α} {d l : Nat} {v : α} : va2 f d l v d l = v := by simp [va2]
theorem va2_n {α : Type} {f : Nat → Nat → α} {d l e k : Nat} {v : α} (h : ¬ (e = d ∧ k = l)) : va2 f d l v e k = f e k := by simp [va2, h]
theorem va2_p {α : Type} {f : Nat → Nat → α} {d l e k : Nat} {v : α} (h : e = d ∧ k = l) : va2 f d l v e k = v := by simp [va2, h]
theorem mU_i {A : Nat → Nat → Int32} {q i j : Nat} {v : Int32} : mU A q i v q j = if j = i then v else A q j := by
  by_cases h : j = i
  · subst h; simp [mU, upd]
  · simp [mU, upd, h]
theorem mD_at {S : Nat → Int32} {A : Nat → Nat → Int32} {M V D : Nat} (hj : mJ S A M V D) {d : Nat} (hd : d < 10) : mD A M D d := hj.1.2.2.2.2.2.2.2 d hd
theorem cDg_new {h h1 : xH} {A A' : Nat → Nat → Int32} {S : Nat → Int32} {M V D p t2 : Nat} {a : Nat → Nat} {gd : Nat → Option Nat} (hj : mJ S A M V D) (hD : D < 10) (hd : cDg h A M D a) (fr : ∀ q e, h.2.2 q = some e → q ≠ p ∧ q ≠ t2) (w1 : h1.2.2 p = some (.inr (1, [.int (nI (1 + D)), .int 0, .int 0, .int 0, .int 0, .ref t2]))) (w2 : h1.2.2 t2 = some (.inl (8, 4, .inr (.inr (fun _ => none))))) (hgd : h.2.2 11 = some (.inl (5, 10, .inr (.inr gd)))) (w3 : h1.2.2 11 = some (.inl (5, 10, .inr (.inr (va_up gd D (some p)))))) (h0 : ∃ fs, h.2.2 0 = some (.inr (8, fs))) (f : ∀ q e, h.2.2 q = some e → q ≠ 0 → q ≠ 11 → h1.2.2 q = some e) (e1 : ∀ q, q ≠ 76 → A' q = A q) (e2 : ∀ i, i < 4 * D ∨ 4 * D + 4 ≤ i → A' 76 i = A 76 i) (e3 : ∀ k, k < 4 → A' 76 (4 * D + k) = -1) : cDg h1 A' M (D + 1) a := by
  obtain ⟨gd0, da, tl, gl, lq, cv, lg, en, un, hd⟩ := hd
  have hg : gd0 = gd := by
    have := hd.f1.symm.trans hgd
    injection this with z
    injection z with z
    injection z with _ z
    injection z with _ z
    injection z with z
    injection z with z
  subst hg
  obtain ⟨fs0, h0⟩ := h0
  obtain ⟨q0, l, e, u, a1, a2, a3, -, -, -, a6, -⟩ := mD_at hj hD
  obtain ⟨z0, z1⟩ := q0 (Nat.le_refl _)
  obtain ⟨rfl, rfl⟩ := a6 z0
  have o : ∀ {q c fs}, h.2.2 q = some (.inr (c, fs)) → c ≠ 8 → h1.2.2 q = some (.inr (c, fs)) := fun he hc => f _ _ he (ne_oo he h0 hc) (ne_oa he hd.f1)
  have ar : ∀ {q t n k}, h.2.2 q = some (.inl (t, n, k)) → t ≠ 5 → h1.2.2 q = some (.inl (t, n, k)) := fun he hc => f _ _ he (Ne.symm (ne_oa h0 he)) (ne_aa he hd.f1 hc)
  have cs : ∀ d, d < D + 1 → d ≠ D → d < D := fun d h1 h2 => by omega
  refine ⟨va_up gd0 D (some p), va_up da D p, va_up tl D t2, va_up gl D (fun _ => none), lq, cv, va_up lg D 0, va_up en D 0, va_up un D 0, w3, fun d hq => ?_, fun d hq => ?_, fun d hq => ?_, fun d hq => ?_, fun d k hq hk => ?_, fun d k hq hk => ?_, fun d k hq h1 h2 => ?_, fun d e hq hr he => ?_, fun d e hq hr he => ?_, fun d e k j hq hr hk hj2 he => ?_, fun d k hq hk => ?_⟩
  · by_cases hz : d = D
    · subst hz; rw [va_s, va_s]
    · rw [va_n hz, va_n hz]; exact hd.f2 d (cs d hq hz)
  · by_cases hz : d = D
    · subst hz; rw [va_s, va_s, va_s, va_s, va_s, e1 70 (by decide), z0]; exact w1
    · rw [va_n hz, va_n hz, va_n hz, va_n hz, va_n hz, e1 70 (by decide)]; exact o (hd.f3 d (cs d hq hz)) (by decide)
  · by_cases hz : d = D
    · subst hz; rw [va_s, va_s]; exact w2
    · rw [va_n hz, va_n hz]; exact ar (hd.f4 d (cs d hq hz)) (by decide)
  · rw [e1 71 (by decide), e1 72 (by decide), e1 73 (by decide)]
    by_cases hz : d = D
    · subst hz; rw [va_s, va_s, va_s]; exact ⟨z1, a2, a3, by decide, by decide, by decide⟩
    · rw [va_n hz, va_n hz, va_n hz]; exact hd.f5 d (cs d hq hz)
  · by_cases hz : d = D
    · subst hz; rw [va_s] at hk; omega
    · rw [va_n hz] at hk
      rw [va_n hz, e1 74 (by decide), e1 75 (by decide)]
      have := hd.f6 d k (cs d hq hz) hk
      exact ⟨this.1, o this.2 (by decide)⟩
  · by_cases hz : d = D
    · subst hz; rw [va_s] at hk; omega
    · rw [va_n hz] at hk
      have h5 := hd.f5 d (cs d hq hz)
      have := cs d hq hz
      rw [e2 _ (Or.inl (by omega))]
      exact hd.f7 d k (cs d hq hz) hk
  · by_cases hz : d = D
    · subst hz; rw [va_s]; exact ⟨e3 k h2, fun z => absurd z (by omega)⟩
    · rw [va_n hz] at h1
      have := cs d hq hz
      rw [va_n hz, e2 _ (Or.inl (by omega))]
      exact hd.f8 d k (cs d hq hz) h1 h2
  · by_cases hz : d = D
    · by_cases hy : e = D
      · omega
      · subst hz; rw [va_s, va_n hy] at he
        exact absurd he.symm (fr _ _ (hd.f3 e (cs e hr hy))).1
    · by_cases hy : e = D
      · subst hy; rw [va_s, va_n hz] at he
        exact absurd he (fr _ _ (hd.f3 d (cs d hq hz))).1
      · rw [va_n hz, va_n hy] at he
        exact hd.f9 d e (cs d hq hz) (cs e hr hy) he
  · by_cases hz : d = D
    · by_cases hy : e = D
      · omega
      · subst hz; rw [va_s, va_n hy] at he
        exact absurd he.symm (fr _ _ (hd.f4 e (cs e hr hy))).2
    · by_cases hy : e = D
      · subst hy; rw [va_s, va_n hz] at he
        exact absurd he (fr _ _ (hd.f4 d (cs d hq hz))).2
      · rw [va_n hz, va_n hy] at he
        exact hd.g1 d e (cs d hq hz) (cs e hr hy) he
  · by_cases hz : d = D
    · subst hz; rw [va_s] at hk; omega
    · by_cases hy : e = D
      · subst hy; rw [va_s] at hj2; omega
      · rw [va_n hz] at hk
        rw [va_n hy] at hj2
        exact hd.g2 d e k j (cs d hq hz) (cs e hr hy) hk hj2 he
  · by_cases hz : d = D
    · subst hz; rw [va_s] at hk; omega
    · rw [va_n hz] at hk
      rw [e1 75 (by decide)]
      exact hd.g3 d k (cs d hq hz) hk
theorem cDg_leg {h h1 : xH} {A : Nat → Nat → Int32} {M D d p : Nat} {a : Nat → Nat} {gd : Nat → Option Nat} {da tl : Nat → Nat} {gl : Nat → Nat → Option Nat} {lq : Nat → Nat → Nat} {cv : Nat → Nat → Value} {lg en un : Nat → Nat} {x2 x3 : Int32} (hD : D ≤ 10) (hd : cDw h A M D a gd da tl gl lq cv lg en un) (hdD : d < D) (hl : lg d < 4) (hen : en d = 0) (hx3 : isAm x3) (fr : ∀ q e, h.2.2 q = some e → q ≠ p) (w1 : h1.2.2 p = some (.inr (4, [.int x2, .int x3, .null]))) (w2 : h1.2.2 (da d) = some (.inr (1, [.int (nI (1 + d)), .int (A 70 d), .int (nI (lg d + 1)), .int (nI (en d)), .int (nI (un d)), .ref (tl d)]))) (w3 : h1.2.2 (tl d) = some (.inl (8, 4, .inr (.inr (va_up (gl d) (lg d) (some p)))))) (f : ∀ q e, h.2.2 q = some e → q ≠ da d → q ≠ tl d → h1.2.2 q = some e) : cDg h1 (mU (mU (mU A 74 (4 * d + lg d) x2) 75 (4 * d + lg d) x3) 71 d (nI (lg d + 1))) M D a := by
  have eq : ∀ q, q ≠ 74 → q ≠ 75 → q ≠ 71 → (mU (mU (mU A 74 (4 * d + lg d) x2) 75 (4 * d + lg d) x3) 71 d (nI (lg d + 1))) q = A q := fun q n1 n2 n3 => by rw [mU_n n3, mU_n n2, mU_n n1]
  have e71 : ∀ i, (mU (mU (mU A 74 (4 * d + lg d) x2) 75 (4 * d + lg d) x3) 71 d (nI (lg d + 1))) 71 i = if i = d then nI (lg d + 1) else A 71 i := fun i => by
    rw [mU_i]
    split
    · rfl
    · rw [mU_n (by decide), mU_n (by decide)]
  have e74 : ∀ i, (mU (mU (mU A 74 (4 * d + lg d) x2) 75 (4 * d + lg d) x3) 71 d (nI (lg d + 1))) 74 i = if i = 4 * d + lg d then x2 else A 74 i := fun i => by
    rw [mU_n (by decide), mU_n (by decide), mU_i]
  have e75 : ∀ i, (mU (mU (mU A 74 (4 * d + lg d) x2) 75 (4 * d + lg d) x3) 71 d (nI (lg d + 1))) 75 i = if i = 4 * d + lg d then x3 else A 75 i := fun i => by
    rw [mU_n (by decide), mU_i]
    split
    · rfl
    · rw [mU_n (by decide)]
  have hda := hd.f3 d hdD
  have htl := hd.f4 d hdD
  have o : ∀ {q c fs}, h.2.2 q = some (.inr (c, fs)) → c ≠ 1 → h1.2.2 q = some (.inr (c, fs)) := fun he hc => f _ _ he (ne_oo he hda hc) (ne_oa he htl)
  refine ⟨gd, da, tl, va_up gl d (va_up (gl d) (lg d) (some p)), va2 lq d (lg d) p, va2 cv d (lg d) .null, va_up lg d (lg d + 1), en, un, f _ _ hd.f1 (Ne.symm (ne_oa hda hd.f1)) (ne_aa hd.f1 htl (by decide)), hd.f2, fun e hq => ?_, fun e hq => ?_, fun e hq => ?_, fun e k hq hk => ?_, fun e k hq hk => ?_, fun e k hq h1 h2 => ?_, hd.f9, hd.g1, fun e e' k j hq hr hk hj2 he => ?_, fun e k hq hk => ?_⟩
  · rw [eq 70 (by decide) (by decide) (by decide)]
    by_cases hz : e = d
    · subst hz; rw [va_s]; exact w2
    · rw [va_n hz]; exact f _ _ (hd.f3 e hq) (fun y => hz (hd.f9 _ _ hq hdD y)) (ne_oa (hd.f3 e hq) htl)
  · by_cases hz : e = d
    · subst hz; rw [va_s]; exact w3
    · rw [va_n hz]; exact f _ _ (hd.f4 e hq) (Ne.symm (ne_oa hda (hd.f4 e hq))) (fun y => hz (hd.g1 _ _ hq hdD y))
  · rw [e71, eq 72 (by decide) (by decide) (by decide), eq 73 (by decide) (by decide) (by decide)]
    have h5 := hd.f5 e hq
    by_cases hz : e = d
    · subst hz; rw [va_s, if_pos rfl]; exact ⟨rfl, h5.2.1, h5.2.2.1, by omega, by omega, h5.2.2.2.2.2⟩
    · rw [va_n hz, if_neg hz]; exact h5
  · rw [e74, e75]
    by_cases hz : e = d
    · subst hz
      rw [va_s] at hk
      rw [va_s]
      by_cases hy : k = lg e
      · subst hy
        rw [va_s, if_pos rfl, if_pos rfl, va2_s, va2_s]
        exact ⟨rfl, w1⟩
      · rw [va_n hy, if_neg (by omega), if_neg (by omega), va2_n (fun y => hy y.2), va2_n (fun y => hy y.2)]
        have := hd.f6 e k hq (by omega)
        exact ⟨this.1, o this.2 (by decide)⟩
    · rw [va_n hz] at hk
      have h5 := hd.f5 e hq
      rw [va_n hz, if_neg (by omega), if_neg (by omega), va2_n (fun y => hz y.1), va2_n (fun y => hz y.1)]
      have := hd.f6 e k hq hk
      exact ⟨this.1, o this.2 (by decide)⟩
  · rw [eq 76 (by decide) (by decide) (by decide)]
    have h5 := hd.f5 e hq
    rw [va2_n (fun y => by rw [y.1, hen] at hk; omega)]
    exact hd.f7 e k hq hk
  · rw [eq 76 (by decide) (by decide) (by decide)]
    refine ⟨(hd.f8 e k hq h1 h2).1, fun hk => ?_⟩
    by_cases hz : e = d ∧ k = lg d
    · rw [va2_p hz]
    · rw [va2_n hz]
      refine (hd.f8 e k hq h1 h2).2 ?_
      by_cases hy : e = d
      · subst hy; rw [va_s] at hk
        have : k ≠ lg e := fun y => hz ⟨rfl, y⟩
        omega
      · rw [va_n hy] at hk; exact hk
  · have lk : ∀ e k, e < D → k < va_up lg d (lg d + 1) e → ¬ (e = d ∧ k = lg d) → k < lg e := fun e k _ hk hz => by
      by_cases hy : e = d
      · subst hy; rw [va_s] at hk
        have : k ≠ lg e := fun y => hz ⟨rfl, y⟩
        omega
      · rw [va_n hy] at hk; exact hk
    by_cases hz : e = d ∧ k = lg d
    · by_cases hy : e' = d ∧ j = lg d
      · exact ⟨hz.1.trans hy.1.symm, hz.2.trans hy.2.symm⟩
      · rw [va2_p hz, va2_n hy] at he
        exact absurd he.symm (fr _ _ (hd.f6 e' j hr (lk e' j hr hj2 hy)).2)
    · by_cases hy : e' = d ∧ j = lg d
      · rw [va2_n hz, va2_p hy] at he
        exact absurd he (fr _ _ (hd.f6 e k hq (lk e k hq hk hz)).2)
      · rw [va2_n hz, va2_n hy] at he
        exact hd.g2 e e' k j hq hr (lk e k hq hk hz) (lk e' j hr hj2 hy) he
  · rw [e75]
    by_cases hy : k = lg d ∧ e = d
    · rw [hy.1, hy.2, if_pos rfl]; exact hx3
    · have h5 := hd.f5 e hq
      by_cases hz : e = d
      · subst hz; rw [va_s] at hk
        have : k ≠ lg e := fun y => hy ⟨y, rfl⟩
        rw [if_neg (by omega)]
        exact hd.g3 e k hq (by omega)
      · rw [va_n hz] at hk
        rw [if_neg (by omega)]
        exact hd.g3 e k hq hk
