/-! THE CLASS'S ROWS AND THE MODEL'S -/
def rw' (s : Nat) : Nat := 13 + 2 * s
/-- rows, streams and happenings of the class are the model's; a: where the happenings are, T: where the rows' arrays are -/
def cS (h : xH) (A : Nat → Nat → Int32) (M : Nat) (a T : Nat → Nat) : Prop :=
  (h.2.2 1 = some (.inr (5, [.int (nI M), .ref (T 0)])) ∧ ∃ len g, h.2.2 (T 0) = some (.inl (7, len, .inr (.inr g))) ∧ M ≤ len ∧ ∀ n, n < M → g n = some (a n)) ∧
  (∃ gs, h.2.2 3 = some (.inl (3, 20, .inr (.inr gs))) ∧ ∀ s, s < 20 → gs s = some (rw' s)) ∧
  (∀ s, s < 20 → h.2.2 (rw' s) = some (.inr (5, [.int (nI (mcn (mst A s) M)), .ref (T (s + 1))])) ∧ ∃ len g, h.2.2 (T (s + 1)) = some (.inl (7, len, .inr (.inr g))) ∧ mcn (mst A s) M ≤ len ∧ ∀ n, n < M → mst A s n = true → g (mcn (mst A s) n) = some (a n)) ∧
  (∃ n4 len g, h.2.2 4 = some (.inr (5, [.int n4, .ref (T 21)])) ∧ h.2.2 (T 21) = some (.inl (7, len, .inr (.inr g)))) ∧
  (∃ (V : Nat → Int32) (Mv : Nat → Value), ∀ n, n < M → h.2.2 (a n) = some (.inr (2, [.int (hfl A n 0), .int (hfl A n 1), .int (hfl A n 2), .int (hfl A n 3), .int (hfl A n 4), .int (hfl A n 5), .int (hfl A n 6), .int (hfl A n 7), .int (hfl A n 8), .int (hfl A n 9), .int (hfl A n 10), .int (V n), Mv n]))) ∧
  (∀ n m, n < M → m < M → a n = a m → n = m) ∧
  ∀ i j, i ≤ 21 → j ≤ 21 → T i = T j → i = j
theorem rw_inj {s s' : Nat} (h : rw' s = rw' s') : s = s' := by unfold rw' at h; omega
theorem rw_ne {s p : Nat} (h : p < 13) : p ≠ rw' s := by unfold rw'; omega
/-- an array of a row -/
theorem cS_T {h : xH} {A : Nat → Nat → Int32} {M : Nat} {a T : Nat → Nat} (hS : cS h A M a T) : ∀ i, i ≤ 21 → ∃ len g, h.2.2 (T i) = some (.inl (7, len, .inr (.inr g))) := by
  obtain ⟨⟨-, l0, g0, e0, -⟩, -, h3, ⟨-, l4, g4, -, e4⟩, -⟩ := hS
  intro i hi
  by_cases h0 : i = 0
  · subst h0; exact ⟨l0, g0, e0⟩
  · by_cases h21 : i = 21
    · subst h21; exact ⟨l4, g4, e4⟩
    · obtain ⟨-, len, g, e, -⟩ := h3 (i - 1) (by omega)
      rw [show i - 1 + 1 = i by omega] at e
      exact ⟨len, g, e⟩
/-- a row's object -/
theorem cS_R {h : xH} {A : Nat → Nat → Int32} {M : Nat} {a T : Nat → Nat} (hS : cS h A M a T) : ∃ f1 f4, h.2.2 1 = some (.inr (5, f1)) ∧ h.2.2 4 = some (.inr (5, f4)) ∧ ∀ s, s < 20 → ∃ f, h.2.2 (rw' s) = some (.inr (5, f)) := by
  obtain ⟨⟨e1, -⟩, -, h3, ⟨_, _, _, e4, -⟩, -⟩ := hS
  exact ⟨_, _, e1, e4, fun s hs => ⟨_, (h3 s hs).1⟩⟩
/-- rows are kept where their cells are -/
theorem cS_keep {h h' : xH} {A A' : Nat → Nat → Int32} {M : Nat} {a T : Nat → Nat} (hS : cS h A M a T) (hA : ∀ i, i < 10 * M → A' 58 i = A 58 i) (fr : ∀ p e, h.2.2 p = some e → (∀ fs, e ≠ .inr (2, fs)) → (∀ fs, e ≠ .inr (3, fs)) → p ≠ 8 → p ≠ 9 → (∀ t n c, e = .inl (t, n, c) → t = 3 ∨ t = 7) → (∀ c fs, e = .inr (c, fs) → c = 5) → h'.2.2 p = some e)
    (wc : ∃ (V : Nat → Int32) (Mv : Nat → Value), ∀ n, n < M → h'.2.2 (a n) = some (.inr (2, [.int (hfl A n 0), .int (hfl A n 1), .int (hfl A n 2), .int (hfl A n 3), .int (hfl A n 4), .int (hfl A n 5), .int (hfl A n 6), .int (hfl A n 7), .int (hfl A n 8), .int (hfl A n 9), .int (hfl A n 10), .int (V n), Mv n]))) (hne : ∀ i, i ≤ 21 → T i ≠ 8 ∧ T i ≠ 9) : cS h' A' M a T := by
  have frA : ∀ {p n c}, h.2.2 p = some (.inl (7, n, c)) → p ≠ 8 ∧ p ≠ 9 → h'.2.2 p = some (.inl (7, n, c)) := fun he hq => fr _ _ he (fun _ z => by cases z) (fun _ z => by cases z) hq.1 hq.2 (fun _ _ _ z => by cases z; exact Or.inr rfl) (fun _ _ z => by cases z)
  have frR : ∀ {p fs}, h.2.2 p = some (.inr (5, fs)) → p ≠ 8 → p ≠ 9 → h'.2.2 p = some (.inr (5, fs)) := fun he q8 q9 => fr _ _ he (fun _ z => by cases z) (fun _ z => by cases z) q8 q9 (fun _ _ _ z => by cases z) (fun _ _ z => by cases z; rfl)
  have em : ∀ s n, n ≤ M → mcn (mst A' s) n = mcn (mst A s) n := fun s n hn => mst_c hA s n hn
  have es : ∀ s n, n < M → mst A' s n = mst A s n := fun s n hn => by unfold mst; rw [hA (10 * n) (by omega)]
  have eh : ∀ n w, n < M → hfl A' n w = hfl A n w := fun n w hn => by
    unfold hfl
    split <;> first | rfl | exact hA _ (by omega)
  obtain ⟨⟨e1, l0, g0, e0, b0, c0⟩, ⟨gs, e3, c3⟩, h3, ⟨n4, l4, g4, e4, f4⟩, -, h6, h7⟩ := hS
  refine ⟨⟨frR e1 (by decide) (by decide), l0, g0, frA e0 (hne 0 (by decide)), b0, c0⟩, ⟨gs, fr 3 _ e3 (fun _ z => by cases z) (fun _ z => by cases z) (by decide) (by decide) (fun _ _ _ z => by cases z; exact Or.inl rfl) (fun _ _ z => by cases z), c3⟩, fun s hs => ?_, ⟨n4, l4, g4, frR e4 (by decide) (by decide), frA f4 (hne 21 (by decide))⟩, ?_, h6, h7⟩
  · obtain ⟨q1, len, g, q2, q3, q4⟩ := h3 s hs
    rw [em s M (Nat.le_refl _)]
    refine ⟨frR q1 (Ne.symm (rw_ne (by decide))) (Ne.symm (rw_ne (by decide))), len, g, frA q2 (hne (s + 1) (by omega)), q3, fun n hn hm => ?_⟩
    rw [em s n (by omega)]
    rw [es s n hn] at hm
    exact q4 n hn hm
  · obtain ⟨V, Mv, hc⟩ := wc
    refine ⟨V, Mv, fun n hn => ?_⟩
    rw [hc n hn]
    simp only [eh n _ hn]
theorem hfl_c {A A' : Nat → Nat → Int32} {M n : Nat} (hA : ∀ i, i < 10 * M → A' 58 i = A 58 i) (hn : n < M) (w : Nat) : hfl A' n w = hfl A n w := by
  unfold hfl
  split <;> first | rfl | exact hA _ (by omega)
/-- what bring leaves alone -/
def fK (h h' : xH) : Prop := ∀ p e, h.2.2 p = some e → (∀ c fs, e = .inr (c, fs) → c ≠ 2 ∧ c ≠ 3 ∧ c ≠ 5) → (∀ t n c, e = .inl (t, n, c) → t ≠ 7) → p ≠ 8 → p ≠ 9 → h'.2.2 p = some e
theorem fK.rf {h : xH} : fK h h := fun _ _ he _ _ _ _ => he
theorem fK.tr {h1 h2 h3 : xH} (a : fK h1 h2) (b : fK h2 h3) : fK h1 h3 := fun p e he q1 q2 q8 q9 => b p e (a p e he q1 q2 q8 q9) q1 q2 q8 q9
abbrev hcl (A : Nat → Nat → Int32) (n : Nat) (v : Int32) (m : Value) : xE := .inr (2, [.int (hfl A n 0), .int (hfl A n 1), .int (hfl A n 2), .int (hfl A n 3), .int (hfl A n 4), .int (hfl A n 5), .int (hfl A n 6), .int (hfl A n 7), .int (hfl A n 8), .int (hfl A n 9), .int (hfl A n 10), .int v, m])
/-- a row's array: the one it had, or one that wasn't there -/
def fro (h : xH) (T : Nat → Nat) (i t : Nat) : Prop := t = T i ∨ ∀ p e, h.2.2 p = some e → p ≠ t
theorem fro_o {h : xH} {A : Nat → Nat → Int32} {M : Nat} {a T : Nat → Nat} {i t p c : Nat} {fs : List Value} (hS : cS h A M a T) (hi : i ≤ 21) (ht : fro h T i t) (hp : h.2.2 p = some (.inr (c, fs))) : p ≠ t := by
  rcases ht with rfl | ht
  · obtain ⟨len, g, q⟩ := cS_T hS i hi
    exact ne_oa hp q
  · exact ht p _ hp
theorem fro_a {h : xH} {A : Nat → Nat → Int32} {M : Nat} {a T : Nat → Nat} {i t p c n : Nat} {k : xK} (hS : cS h A M a T) (hi : i ≤ 21) (ht : fro h T i t) (hp : h.2.2 p = some (.inl (c, n, k))) (hc : c ≠ 7) : p ≠ t := by
  rcases ht with rfl | ht
  · obtain ⟨len, g, q⟩ := cS_T hS i hi
    exact ne_aa hp q hc
  · exact ht p _ hp
theorem fro_T {h : xH} {A : Nat → Nat → Int32} {M : Nat} {a T : Nat → Nat} {i j t : Nat} (hS : cS h A M a T) (hi : i ≤ 21) (hj : j ≤ 21) (hij : j ≠ i) (ht : fro h T i t) : T j ≠ t := by
  rcases ht with rfl | ht
  · exact fun e => hij (hS.2.2.2.2.2.2 j i hj hi e)
  · obtain ⟨len, g, q⟩ := cS_T hS j hj
    exact ht _ _ q
/-- one row has another array, or is longer; all else of the rows is as it was -/
theorem cS_row {h h' : xH} {A A' : Nat → Nat → Int32} {M M' s N' : Nat} {a a' T : Nat → Nat} {t u : Nat} (hS : cS h A M a T) (hs : s < 20) (ht : fro h T (s + 1) t) (hu : fro h T 0 u) (htu : t ≠ u)
    (hmc : ∀ s', s' < 20 → s' ≠ s → mcn (mst A' s') M' = mcn (mst A s') M ∧ ∀ n, n < M' → mst A' s' n = true → n < M ∧ mst A s' n = true ∧ mcn (mst A' s') n = mcn (mst A s') n ∧ a' n = a n)
    (w1 : h'.2.2 1 = some (.inr (5, [.int (nI M'), .ref u]))) (wu : ∃ len g, h'.2.2 u = some (.inl (7, len, .inr (.inr g))) ∧ M' ≤ len ∧ ∀ n, n < M' → g n = some (a' n))
    (wr : h'.2.2 (rw' s) = some (.inr (5, [.int (nI N'), .ref t]))) (hN : N' = mcn (mst A' s) M') (wt : ∃ len g, h'.2.2 t = some (.inl (7, len, .inr (.inr g))) ∧ N' ≤ len ∧ ∀ n, n < M' → mst A' s n = true → g (mcn (mst A' s) n) = some (a' n))
    (wc : ∃ (V : Nat → Int32) (Mv : Nat → Value), ∀ n, n < M' → h'.2.2 (a' n) = some (hcl A' n (V n) (Mv n)))
    (hi : ∀ n m, n < M' → m < M' → a' n = a' m → n = m)
    (fr : ∀ p e, h.2.2 p = some e → (∀ fs, e ≠ .inr (2, fs)) → p ≠ 6 → p ≠ 8 → p ≠ 9 → p ≠ 1 → p ≠ rw' s → p ≠ t → p ≠ u → h'.2.2 p = some e)
    (h689 : (∃ f, h.2.2 6 = some (.inr (3, f))) ∧ (∃ n c, h.2.2 8 = some (.inl (1, n, c))) ∧ ∃ n c, h.2.2 9 = some (.inl (1, n, c))) : cS h' A' M' a' (va_up (va_up T (s + 1) t) 0 u) := by
  have hT := cS_T hS
  have tv : ∀ i, i ≠ 0 → i ≠ s + 1 → va_up (va_up T (s + 1) t) 0 u i = T i := fun i h0 h1 => by simp [va_up, h0, h1]
  have t0 : va_up (va_up T (s + 1) t) 0 u 0 = u := by simp [va_up]
  have ts : va_up (va_up T (s + 1) t) 0 u (s + 1) = t := by simp [va_up]
  have hTi : ∀ x y, x ≤ 21 → y ≤ 21 → va_up (va_up T (s + 1) t) 0 u x = va_up (va_up T (s + 1) t) 0 u y → x = y := by
    have k1 : ∀ y, y ≤ 21 → y ≠ 0 → y ≠ s + 1 → T y ≠ u := fun y hy h0 _ => fro_T hS (by decide) hy h0 hu
    have k2 : ∀ y, y ≤ 21 → y ≠ 0 → y ≠ s + 1 → T y ≠ t := fun y hy _ h1 => fro_T hS (by omega) hy h1 ht
    intro x y hx hy e
    by_cases x0 : x = 0
    · subst x0
      by_cases y0 : y = 0
      · exact y0.symm
      · by_cases y1 : y = s + 1
        · subst y1; rw [t0, ts] at e; exact absurd e.symm htu
        · rw [t0, tv y y0 y1] at e; exact absurd e.symm (k1 y hy y0 y1)
    · by_cases x1 : x = s + 1
      · subst x1
        by_cases y0 : y = 0
        · subst y0; rw [t0, ts] at e; exact absurd e htu
        · by_cases y1 : y = s + 1
          · exact y1.symm
          · rw [ts, tv y y0 y1] at e; exact absurd e.symm (k2 y hy y0 y1)
      · by_cases y0 : y = 0
        · subst y0; rw [t0, tv x x0 x1] at e; exact absurd e (k1 x hx x0 x1)
        · by_cases y1 : y = s + 1
          · subst y1; rw [ts, tv x x0 x1] at e; exact absurd e (k2 x hx x0 x1)
          · rw [tv x x0 x1, tv y y0 y1] at e; exact hS.2.2.2.2.2.2 x y hx hy e
  obtain ⟨⟨f6, e6⟩, ⟨n8, c8, e8⟩, n9, c9, e9⟩ := h689
  obtain ⟨f1, f4, r1, r4, rr⟩ := cS_R hS
  obtain ⟨fs0, rs0⟩ := rr s hs
  have frA : ∀ i, i ≤ 21 → i ≠ 0 → i ≠ s + 1 → ∀ len g, h.2.2 (T i) = some (.inl (7, len, .inr (.inr g))) → h'.2.2 (T i) = some (.inl (7, len, .inr (.inr g))) := fun i hi2 h0 h1 len g he =>
    fr _ _ he (fun _ z => by cases z) (Ne.symm (ne_oa e6 he)) (ne_aa he e8 (by decide)) (ne_aa he e9 (by decide)) (Ne.symm (ne_oa r1 he)) (Ne.symm (ne_oa rs0 he)) (fro_T hS (by omega) hi2 h1 ht) (fro_T hS (by decide) hi2 h0 hu)
  have frR : ∀ {p fs}, h.2.2 p = some (.inr (5, fs)) → p ≠ 1 → p ≠ rw' s → h'.2.2 p = some (.inr (5, fs)) := fun he q1 q2 =>
    fr _ _ he (fun _ z => by cases z) (ne_oo he e6 (by decide)) (ne_oa he e8) (ne_oa he e9) q1 q2 (fro_o hS (by omega) ht he) (fro_o hS (by decide) hu he)
  have hS0 := hS
  obtain ⟨-, ⟨gs, e3, c3⟩, h3, ⟨n4, l4, g4, e4, q4⟩, -⟩ := hS
  refine ⟨⟨by rw [t0]; exact w1, by rw [t0]; exact wu⟩, ⟨gs, ?_, c3⟩, fun s' hs' => ?_, ⟨n4, l4, g4, ?_, ?_⟩, wc, hi, hTi⟩
  · exact fr 3 _ e3 (fun _ z => by cases z) (by decide) (by decide) (by decide) (by decide) (rw_ne (by decide)) (fro_a hS0 (by omega) ht e3 (by decide)) (fro_a hS0 (by decide) hu e3 (by decide))
  · by_cases he : s' = s
    · subst he
      rw [ts, ← hN]
      exact ⟨wr, wt⟩
    · obtain ⟨m1, m2⟩ := hmc s' hs' he
      obtain ⟨q1, len, g, q2, q3, q5⟩ := h3 s' hs'
      rw [tv (s' + 1) (by omega) (by omega), m1]
      refine ⟨frR q1 (Ne.symm (rw_ne (by decide))) (fun z => he (rw_inj z)), len, g, frA (s' + 1) (by omega) (by omega) (by omega) _ _ q2, q3, fun n hn hm => ?_⟩
      obtain ⟨z1, z2, z3, z4⟩ := m2 n hn hm
      rw [z3, z4]
      exact q5 n z1 z2
  · rw [tv 21 (by decide) (by omega)]
    exact frR e4 (by decide) (rw_ne (by decide))
  · rw [tv 21 (by decide) (by omega)]
    exact frA 21 (by decide) (by decide) (by omega) _ _ q4
