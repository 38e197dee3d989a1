/-! BRING: what it needs -/
theorem ch2 {M : Nat} {P : Nat → Int32 → Value → Prop} (h : ∀ n, n < M → ∃ v m, P n v m) : ∃ (V : Nat → Int32) (Mv : Nat → Value), ∀ n, n < M → P n (V n) (Mv n) := by
  have h2 : ∀ n, ∃ q : Int32 × Value, n < M → P n q.1 q.2 := fun n => by
    by_cases hn : n < M
    · obtain ⟨v, m, hp⟩ := h n hn
      exact ⟨(v, m), fun _ => hp⟩
    · exact ⟨(0, .null), fun z => absurd z hn⟩
  exact ⟨fun n => (Classical.choose (h2 n)).1, fun n => (Classical.choose (h2 n)).2, fun n hn => Classical.choose_spec (h2 n) hn⟩
section NX
variable {A A' : Nat → Nat → Int32} {M s : Nat}
theorem nx_m (hA : ∀ i, i < 10 * M → A' 58 i = A 58 i) (s : Nat) : ∀ n, n < M → mst A' s n = mst A s n := fun n hn => by unfold mst; rw [hA (10 * n) (by omega)]
theorem nx_t (h0 : A' 58 (10 * M) = nI s) : mst A' s M = true := decide_eq_true h0
theorem nx_n (hA : ∀ i, i < 10 * M → A' 58 i = A 58 i) (h0 : A' 58 (10 * M) = nI s) : mcn (mst A' s) (M + 1) = mcn (mst A s) M + 1 := by
  rw [mcn_t (nx_t h0), mst_c hA s M (Nat.le_refl _)]
theorem nx_o (hA : ∀ i, i < 10 * M → A' 58 i = A 58 i) (h0 : A' 58 (10 * M) = nI s) {s' : Nat} (hs : s < 20) (hs' : s' < 20) (hne : s' ≠ s) : mcn (mst A' s') (M + 1) = mcn (mst A s') M ∧ ∀ n, n < M + 1 → mst A' s' n = true → n < M ∧ mst A s' n = true ∧ mcn (mst A' s') n = mcn (mst A s') n := by
  have hf : mst A' s' M = false := decide_eq_false (fun z => hne (by
    rw [h0, nI_eq (by omega) (by omega)] at z
    exact z.symm))
  refine ⟨by rw [mcn_f hf, mst_c hA s' M (Nat.le_refl _)], fun n hn hm => ?_⟩
  have hnM : n < M := by
    by_cases he : n = M
    · subst he; rw [hf] at hm; cases hm
    · omega
  exact ⟨hnM, by rw [← nx_m hA s' n hnM]; exact hm, mst_c hA s' n (by omega)⟩
theorem nx_k (hA : ∀ i, i < 10 * M → A' 58 i = A 58 i) (h0 : A' 58 (10 * M) = nI s) {k : Nat} (hk : k < mcn (mst A s) M) : mix (mst A' s) (M + 1) k = mix (mst A s) M k ∧ mix (mst A s) M k < M ∧ mst A s (mix (mst A s) M k) = true ∧ mcn (mst A s) (mix (mst A s) M k) = k := by
  obtain ⟨h1, h2, h3⟩ := mix_in hk
  refine ⟨?_, h1, h2, h3⟩
  have e1 : mst A' s (mix (mst A s) M k) = true := by rw [nx_m hA s _ h1]; exact h2
  have e2 : mcn (mst A' s) (mix (mst A s) M k) = k := by rw [mst_c hA s _ (by omega)]; exact h3
  have := mix_at (M := M + 1) e1 (by omega)
  rw [e2] at this
  exact this
theorem nx_l (hA : ∀ i, i < 10 * M → A' 58 i = A 58 i) (h0 : A' 58 (10 * M) = nI s) : mix (mst A' s) (M + 1) (mcn (mst A s) M) = M := by
  have := mix_at (M := M + 1) (nx_t h0) (Nat.lt_succ_self M)
  rw [mst_c hA s M (Nat.le_refl _)] at this
  exact this
theorem dI_nx (hA : ∀ i, i < 10 * M → A' 58 i = A 58 i) (h0 : A' 58 (10 * M) = nI s) (h1 : A' 58 (10 * M + 1) = nI (mcn (mst A s) M)) (hd : dI A (mst A s) M) (hT : asT (A' 58 (10 * M + 2)) (A' 58 (10 * M + 3)) (A' 58 (10 * M + 4)) (A' 58 (10 * M + 5)) (A' 58 (10 * M + 6)) (A' 58 (10 * M + 7))) (hr : ¬ A' 58 (10 * M + 2) ≤ 2 → ∃ k, k < mcn (mst A s) M ∧ A' 58 (10 * M + 8) = nI k) : dI A' (mst A' s) (M + 1) := fun n hn hm => by
  by_cases he : n = M
  · subst he
    rw [mst_c hA s n (Nat.le_refl _)]
    exact ⟨h1, hT, hr⟩
  · have hnM : n < M := by omega
    rw [nx_m hA s n hnM] at hm
    obtain ⟨d1, d2, d3⟩ := hd n hnM hm
    rw [mst_c hA s n (by omega), hA (10 * n + 1) (by omega), hA (10 * n + 2) (by omega), hA (10 * n + 3) (by omega), hA (10 * n + 4) (by omega), hA (10 * n + 5) (by omega), hA (10 * n + 6) (by omega), hA (10 * n + 7) (by omega), hA (10 * n + 8) (by omega)]
    exact ⟨d1, d2, d3⟩
theorem dI_oth (hA : ∀ i, i < 10 * M → A' 58 i = A 58 i) (h0 : A' 58 (10 * M) = nI s) {s' : Nat} (hs : s < 20) (hs' : s' < 20) (hne : s' ≠ s) (hd : dI A (mst A s') M) : dI A' (mst A' s') (M + 1) := fun n hn hm => by
  obtain ⟨hnM, h2, h3⟩ := (nx_o hA h0 hs hs' hne).2 n hn hm
  obtain ⟨d1, d2, d3⟩ := hd n hnM h2
  rw [h3, hA (10 * n + 1) (by omega), hA (10 * n + 2) (by omega), hA (10 * n + 3) (by omega), hA (10 * n + 4) (by omega), hA (10 * n + 5) (by omega), hA (10 * n + 6) (by omega), hA (10 * n + 7) (by omega), hA (10 * n + 8) (by omega)]
  exact ⟨d1, d2, d3⟩
end NX
/-- a happening that isn't of the house is written -/
theorem cS_k2 {h h2 : xH} {A : Nat → Nat → Int32} {M p1 : Nat} {a T : Nat → Nat} {f : List Value} (hS : cS h A M a T) (hp : h.2.2 p1 = some (.inr (2, f))) (hpa : ∀ n, n < M → p1 ≠ a n) (og : ∀ p, p ≠ p1 → h2.2.2 p = h.2.2 p) : cS h2 A M a T := by
  obtain ⟨⟨e1, l0, g0, e0, b0, c0⟩, ⟨gs, e3, c3⟩, h3, ⟨n4, l4, g4, e4, f4⟩, ⟨V, Mv, hc⟩, h6, h7⟩ := hS
  have o : ∀ {p c fs}, h.2.2 p = some (.inr (c, fs)) → c ≠ 2 → h2.2.2 p = some (.inr (c, fs)) := fun he hne => (og _ (ne_oo he hp hne)).trans he
  have r : ∀ {p c n k}, h.2.2 p = some (.inl (c, n, k)) → h2.2.2 p = some (.inl (c, n, k)) := fun he => (og _ (Ne.symm (ne_oa hp he))).trans he
  refine ⟨⟨o e1 (by decide), l0, g0, r e0, b0, c0⟩, ⟨gs, r e3, c3⟩, fun s hs => ?_, ⟨n4, l4, g4, o e4 (by decide), r f4⟩, ⟨V, Mv, fun n hn => (og _ (Ne.symm (hpa n hn))).trans (hc n hn)⟩, h6, h7⟩
  obtain ⟨q1, len, g, q2, q3, q4⟩ := h3 s hs
  exact ⟨o q1 (by decide), len, g, r q2, q3, q4⟩
theorem jZ_k {h h' : xH} (hj : jZ h) (h6 : h'.2.2 6 = h.2.2 6) (h7 : h'.2.2 7 = h.2.2 7) (h8 : h'.2.2 8 = h.2.2 8) (h9 : h'.2.2 9 = h.2.2 9) : jZ h' := by
  unfold jZ
  rw [h6, h7, h8, h9]
  exact hj
theorem jZ_c {h : xH} (hj : jZ h) : (∃ f, h.2.2 6 = some (.inr (3, f))) ∧ (∃ f, h.2.2 7 = some (.inr (0, f))) ∧ (∃ n c, h.2.2 8 = some (.inl (1, n, c))) ∧ ∃ n c, h.2.2 9 = some (.inl (1, n, c)) := by
  obtain ⟨⟨_, _, _, _, _, _, _, _, e6⟩, e7, _, _, e8, e9, -⟩ := hj
  exact ⟨⟨_, e6⟩, ⟨_, e7⟩, ⟨_, _, e8⟩, _, _, e9⟩
theorem cI_len {c : Nat} {td vc dc : Int32} {h : xH} (hI : cI c td vc dc h) {r t len : Nat} {n : Int32} {k : xK} (hr : h.2.2 r = some (.inr (5, [.int n, .ref t]))) (ht : h.2.2 t = some (.inl (7, len, k))) : 1 ≤ len ∧ len ≤ 2 * c + 8 := by
  obtain ⟨n', t', len', k', e, ht', -, -, -, q4, q5⟩ := hI.2.2.2.1 r _ hr
  cases e
  rw [ht] at ht'
  cases ht'
  exact ⟨q4, q5⟩
/-- the row with one more, as verdict wants it -/
theorem br_v {h2 h3 : xH} {A A' : Nat → Nat → Int32} {M s p1 t' len : Nat} {a T : Nat → Nat} {g g' : Nat → Option Nat} {v0 : Int32} {m0 : Value} (hS : cS h2 A M a T) (hs : s < 20) (hp1 : h2.2.2 p1 = some (hcl A' M v0 m0)) (hpa : ∀ n, n < M → p1 ≠ a n) (hA : ∀ i, i < 10 * M → A' 58 i = A 58 i) (h0 : A' 58 (10 * M) = nI s) (hgs : h2.2.2 (T (s + 1)) = some (.inl (7, len, .inr (.inr g))))
    (ht : fro h2 T (s + 1) t') (wg : ∀ i, i < mcn (mst A s) M → g' i = g i) (wn : g' (mcn (mst A s) M) = some p1) (wo : ∀ p, p ≠ rw' s → p ≠ t' → h3.2.2 p = h2.2.2 p) :
    (∀ k, k < mcn (mst A s) M + 1 → g' k = some (va_up a M p1 (mix (mst A' s) (M + 1) k))) ∧ (∀ x y, x < mcn (mst A s) M + 1 → y < mcn (mst A s) M + 1 → va_up a M p1 (mix (mst A' s) (M + 1) x) = va_up a M p1 (mix (mst A' s) (M + 1) y) → x = y) ∧
    (∀ n, n < M + 1 → ∃ v m, h3.2.2 (va_up a M p1 n) = some (hcl A' n v m)) ∧ ∀ n m, n < M + 1 → m < M + 1 → va_up a M p1 n = va_up a M p1 m → n = m := by
  have hinj : ∀ n m, n < M + 1 → m < M + 1 → va_up a M p1 n = va_up a M p1 m → n = m := fun n m hn hm e => by
    unfold va_up at e
    split at e
    · split at e
      · omega
      · exact absurd e (hpa m (by omega))
    · split at e
      · exact absurd e.symm (hpa n (by omega))
      · exact hS.2.2.2.2.2.1 n m (by omega) (by omega) e
  obtain ⟨fr1, fr4, r1, r4, rr⟩ := cS_R hS
  obtain ⟨fs0, rs0⟩ := rr s hs
  refine ⟨fun k hk => ?_, fun x y hx hy e => ?_, fun n hn => ?_, hinj⟩
  · by_cases he : k = mcn (mst A s) M
    · subst he
      rw [nx_l hA h0, wn]
      simp [va_up]
    · obtain ⟨q1, q2, q3, q4⟩ := nx_k hA h0 (show k < mcn (mst A s) M by omega)
      rw [wg k (by omega), q1]
      obtain ⟨-, len2, g2, z1, -, z2⟩ := hS.2.2.1 s hs
      rw [hgs] at z1
      cases z1
      have := z2 _ q2 q3
      rw [q4] at this
      rw [this]
      simp only [va_up]
      rw [if_neg (by omega)]
  · have b : ∀ z, z < mcn (mst A s) M + 1 → mix (mst A' s) (M + 1) z < M + 1 ∧ mcn (mst A' s) (mix (mst A' s) (M + 1) z) = z := fun z hz => by
      rw [← nx_n hA h0] at hz
      exact ⟨(mix_in hz).1, (mix_in hz).2.2⟩
    have := hinj _ _ (b x hx).1 (b y hy).1 e
    rw [← (b x hx).2, ← (b y hy).2, this]
  · by_cases he : n = M
    · subst he
      refine ⟨v0, m0, ?_⟩
      rw [show va_up a n p1 n = p1 by simp [va_up]]
      exact (wo _ (ne_oo hp1 rs0 (by decide)) (fro_o hS (by omega) ht hp1)).trans hp1
    · obtain ⟨V, Mv, hc⟩ := hS.2.2.2.2.1
      have hq := hc n (by omega)
      refine ⟨V n, Mv n, ?_⟩
      rw [show va_up a M p1 n = a n by simp [va_up, he], wo _ (ne_oo hq rs0 (by decide)) (fro_o hS (by omega) ht hq), hq]
      simp only [hcl, hfl_c hA (show n < M by omega)]
theorem hcl_m {A : Nat → Nat → Int32} {n : Nat} {v : Int32} {m : Value} : hcl A n v m = .inr (2, [.int (hfl A n 0), .int (hfl A n 1), .int (hfl A n 2), .int (hfl A n 3), .int (hfl A n 4), .int (hfl A n 5), .int (hfl A n 6), .int (hfl A n 7), .int (hfl A n 8), .int (hfl A n 9), .int (hfl A n 10), .int v, m]) := rfl
/-- what verdict leaves of the cells of all -/
theorem brg_c {h3 h4 : xH} {A' : Nat → Nat → Int32} {M N s : Nat} {a' : Nat → Nat} {V : Nat → Int32} {Mv : Nat → Value} (hN : mcn (mst A' s) (M + 1) = N + 1) (hc : ∀ n, n < M + 1 → ∃ v m, h3.2.2 (a' n) = some (hcl A' n v m)) (hi : ∀ n m, n < M + 1 → m < M + 1 → a' n = a' m → n = m) (h689 : (∃ f, h3.2.2 6 = some (.inr (3, f))) ∧ (∃ f, h3.2.2 7 = some (.inr (0, f))) ∧ (∃ n c, h3.2.2 8 = some (.inl (1, n, c))) ∧ ∃ n c, h3.2.2 9 = some (.inl (1, n, c)))
    (hc4 : ∀ k, k < N + 1 → h4.2.2 (a' (mix (mst A' s) (M + 1) k)) = some (hcl A' (mix (mst A' s) (M + 1) k) (V k) (Mv k)))
    (ho4 : ∀ p, (∀ k, k < N + 1 → p ≠ a' (mix (mst A' s) (M + 1) k)) → p ≠ 6 → p ≠ 8 → p ≠ 9 → h4.2.2 p = h3.2.2 p) : ∀ n, n < M + 1 → ∃ v m, h4.2.2 (a' n) = some (hcl A' n v m) := fun n hn => by
  by_cases hm : mst A' s n = true
  · have hk : mcn (mst A' s) n < N + 1 := by
      rw [← hN]
      exact mcn_lt _ hn hm
    have e := mix_at hm hn
    have := hc4 _ hk
    rw [e] at this
    exact ⟨_, _, this⟩
  · obtain ⟨v, m, q⟩ := hc n hn
    obtain ⟨⟨f6, e6⟩, -, ⟨n8, c8, e8⟩, n9, c9, e9⟩ := h689
    refine ⟨v, m, ?_⟩
    rw [ho4 _ (fun k hk e => ?_) (ne_oo q e6 (by decide)) (ne_oa q e8) (ne_oa q e9)]
    · exact q
    · rw [← hN] at hk
      obtain ⟨z1, z2, -⟩ := mix_in hk
      have := hi n _ hn z1 e
      rw [this] at hm
      exact hm z2
/-- what bring(next, seen) does -/
def brQ (h h' : xH) (A A' : Nat → Nat → Int32) (M : Nat) (a : Nat → Nat) (p1 : Nat) (x0 x4 x5 x6 x7 x8 x9 x10 x2 r : Int32) : Prop :=
  (r = -2 ∧ ¬ ((∃ s, s < 20 ∧ x0 = nI s) ∧ asT x4 x5 x6 x7 x8 x9) ∧ h = h') ∨
  ∃ s, s < 20 ∧ x0 = nI s ∧ asT x4 x5 x6 x7 x8 x9 ∧
    ((r = -3 ∧ ¬ x2 = -1 ∧ ¬ x2 = nI (mcn (mst A s) M) ∧ h = h') ∨
    ((x2 = -1 ∨ x2 = nI (mcn (mst A s) M)) ∧
      ((r = -4 ∧ ¬ M < 400 ∧ h = h') ∨
      (M < 400 ∧
        ((r = -5 ∧ ¬ ((x4 ≤ 2 ∧ x10 = -1) ∨ (¬ x4 ≤ 2 ∧ ∃ k, k < mcn (mst A s) M ∧ x10 = nI k ∧ (x4 = 4 ∨ lF A (mst A s) M k 4 ≤ 2))) ∧ ∃ T', cS h' A M a T' ∧ jZ h' ∧ fK h h') ∨
        (((x4 ≤ 2 ∧ x10 = -1) ∨ (¬ x4 ≤ 2 ∧ ∃ k, k < mcn (mst A s) M ∧ x10 = nI k ∧ (x4 = 4 ∨ lF A (mst A s) M k 4 ≤ 2))) ∧ ∃ (w : Int32) (z8 z9 : Nat → Int64), dZ z8 z9 ∧ vdR (wT (lF A' (mst A' s) (M + 1)) (mcn (mst A s) M + 1) z8 z9) w ∧
          ((¬ w = 0 ∧ r = w ∧ ∃ T', cS h' A M a T' ∧ jZ h' ∧ fK h h') ∨ (w = 0 ∧ r = nI M ∧ ∃ T', cS h' A' (M + 1) (va_up a M p1) T' ∧ jZ h' ∧ fK h h'))))))))
theorem fK_p {h h2 : xH} {p1 : Nat} {f : List Value} (hp : h.2.2 p1 = some (.inr (2, f))) (og : ∀ p, p ≠ p1 → h2.2.2 p = h.2.2 p) : fK h h2 := fun p e he q1 q2 _ _ => by
  rw [og p ?_]
  · exact he
  · intro z
    subst z
    rw [hp] at he
    cases he
    exact (q1 2 _ rfl).1 rfl
theorem fK_r {h h' : xH} {s t u : Nat} {A : Nat → Nat → Int32} {M : Nat} {a T : Nat → Nat} (hS : cS h A M a T) (hs : s < 20) (hj : jZ h) (ht : fro h T (s + 1) t) (hu : fro h T 0 u) (fr : ∀ p e, h.2.2 p = some e → (∀ fs, e ≠ .inr (2, fs)) → p ≠ 6 → p ≠ 8 → p ≠ 9 → p ≠ 1 → p ≠ rw' s → p ≠ t → p ≠ u → h'.2.2 p = some e) : fK h h' := fun p e he q1 q2 q8 q9 => by
  obtain ⟨f1, f4, r1, r4, rr⟩ := cS_R hS
  obtain ⟨fs0, rs0⟩ := rr s hs
  obtain ⟨⟨f6, e6⟩, -⟩ := jZ_c hj
  have k : ∀ {x : Nat} {c : Nat} {f : List Value}, h.2.2 x = some (.inr (c, f)) → (c = 2 ∨ c = 3 ∨ c = 5) → p ≠ x := fun hx hc z => by
    subst z
    rw [hx] at he
    cases he
    have := q1 _ _ rfl
    omega
  have n7 : ∀ x i, i ≤ 21 → fro h T i x → p ≠ x := fun x i hi hx => by
    rcases e with ⟨tt, n, c⟩ | ⟨c, fs⟩
    · exact fro_a hS hi hx he (q2 _ _ _ rfl)
    · exact fro_o hS hi hx he
  exact fr p e he (fun fs z => (q1 2 fs z).1 rfl) (k e6 (by decide)) q8 q9 (k r1 (by decide)) (k rs0 (by decide)) (n7 t (s + 1) (by omega) ht) (n7 u 0 (by decide) hu)
