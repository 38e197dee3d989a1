/-! THE MODEL's invariant -/
def mst (A : Nat → Nat → Int32) (s n : Nat) : Bool := decide (A 58 (10 * n) = nI s)
/-- a doing -/
def mD (A : Nat → Nat → Int32) (M D d : Nat) : Prop := (D ≤ d → A 70 d = 0 ∧ A 71 d = 0) ∧ ∃ l e u : Nat, A 71 d = nI l ∧ A 72 d = nI e ∧ A 73 d = nI u ∧ l ≤ 4 ∧ e ≤ l ∧ u ≤ e ∧ (A 70 d = 0 → e = 0 ∧ u = 0) ∧ (A 70 d = 1 → e < l ∧ u = 0) ∧ (A 70 d = 2 → u < e) ∧ (∀ k, k < l → ∃ s, s < 20 ∧ A 74 (4 * d + k) = nI s) ∧ ∀ k, k < e → ∃ x, x < M ∧ A 76 (4 * d + k) = nI x
/-- the row -/
def mR (A : Nat → Nat → Int32) (M : Nat) : Prop := (∀ s, s < 20 → A 59 s = nI (mcn (mst A s) M)) ∧ (∀ n, n < M → ∃ s, s < 20 ∧ A 58 (10 * n) = nI s ∧ A 58 (10 * n + 1) = nI (mcn (mst A s) n)) ∧ ∀ n, n < M → A 58 (10 * n + 7) ≤ 999
def mI (S : Nat → Int32) (A : Nat → Nat → Int32) (M V D : Nat) : Prop :=
  S 1 = nI M ∧ M ≤ 400 ∧ (0 ≤ S 2 ∧ S 2 ≤ 999) ∧ mR A M ∧ (S 15 = nI V ∧ V ≤ 4 ∧ ∀ v, v < V → ∃ r, r ≤ M ∧ A 68 v = nI r) ∧ S 20 = nI D ∧ D ≤ 10 ∧ ∀ d, d < 10 → mD A M D d
theorem mst_c {A A' : Nat → Nat → Int32} {M : Nat} (h : ∀ i, i < 10 * M → A' 58 i = A 58 i) (s n : Nat) (hn : n ≤ M) : mcn (mst A' s) n = mcn (mst A s) n := mcn_congr (fun i hi => by unfold mst; rw [h (10 * i) (by omega)])
theorem mD_c {A A' : Nat → Nat → Int32} {M M' D d : Nat} (h : ∀ q, q ∈ [70, 71, 72, 73, 74, 76] → A' q = A q) (hM : M ≤ M') (hd : mD A M D d) : mD A' M' D d := by
  obtain ⟨a0, l, e, u, a1, a2, a3, a4, a5, a6, a7, a8, a9, a10, a11⟩ := hd
  unfold mD
  rw [h 70 (by decide), h 71 (by decide), h 72 (by decide), h 73 (by decide), h 74 (by decide), h 76 (by decide)]
  refine ⟨a0, l, e, u, a1, a2, a3, a4, a5, a6, a7, a8, a9, a10, fun k hk => ?_⟩
  obtain ⟨x, h1, h2⟩ := a11 k hk
  exact ⟨x, by omega, h2⟩
theorem mR_f {A A' : Nat → Nat → Int32} {M : Nat} (hR : mR A M) (h58 : ∀ i, i < 10 * M → A' 58 i = A 58 i) (h59 : A' 59 = A 59) : mR A' M := by
  obtain ⟨a1, a2, a3⟩ := hR
  refine ⟨fun s hs => ?_, fun n hn => ?_, fun n hn => ?_⟩
  · rw [h59, mst_c h58 s M (Nat.le_refl _)]; exact a1 s hs
  · obtain ⟨s, b1, b2, b3⟩ := a2 n hn
    refine ⟨s, b1, ?_, ?_⟩
    · rw [h58 _ (by omega)]; exact b2
    · rw [h58 _ (by omega), mst_c h58 s n (by omega)]; exact b3
  · rw [h58 _ (by omega)]; exact a3 n hn
theorem mI_f {S S' : Nat → Int32} {A A' : Nat → Nat → Int32} {M V D : Nat} (h : mI S A M V D) (hS : ∀ k, k ∈ [1, 2, 15, 20] → S' k = S k) (h58 : ∀ i, i < 10 * M → A' 58 i = A 58 i) (hA : ∀ q, q ∈ [59, 68, 70, 71, 72, 73, 74, 76] → A' q = A q) : mI S' A' M V D := by
  obtain ⟨a1, a2, a3, a4, a5, a6, a7, a8⟩ := h
  unfold mI
  rw [hS 1 (by decide), hS 2 (by decide), hS 15 (by decide), hS 20 (by decide), hA 68 (by decide)]
  exact ⟨a1, a2, a3, mR_f a4 h58 (hA 59 (by decide)), a5, a6, a7, fun d hd => mD_c (fun q hq => hA q (by revert hq; simp only [List.mem_cons, List.not_mem_nil, or_false]; omega)) (Nat.le_refl _) (a8 d hd)⟩
/-- one more happening -/
theorem mI_c {S S' : Nat → Int32} {A A' : Nat → Nat → Int32} {M V D s : Nat} (h : mI S A M V D) (hM : M < 400) (hs : s < 20) (hS1 : S' 1 = nI (M + 1)) (hS : ∀ k, k ∈ [2, 15, 20] → S' k = S k) (h58 : ∀ i, i < 10 * M → A' 58 i = A 58 i) (r0 : A' 58 (10 * M) = nI s) (r1 : A' 58 (10 * M + 1) = nI (mcn (mst A s) M)) (r7 : A' 58 (10 * M + 7) = S 2) (h59 : A' 59 = upd (A 59) s (nI (mcn (mst A s) M + 1))) (hA : ∀ q, q ∈ [68, 70, 71, 72, 73, 74, 76] → A' q = A q) : mI S' A' (M + 1) V D := by
  obtain ⟨a1, a2, a3, ⟨b1, b2, b3⟩, ⟨a5, a51, a52⟩, a6, a7, a8⟩ := h
  refine ⟨hS1, hM, by rw [hS 2 (by decide)]; exact a3, ⟨fun t ht => ?_, fun n hn => ?_, fun n hn => ?_⟩, ⟨by rw [hS 15 (by decide)]; exact a5, a51, fun v hv => ?_⟩, by rw [hS 20 (by decide)]; exact a6, a7, fun d hd => mD_c (fun q hq => hA q (by revert hq; simp only [List.mem_cons, List.not_mem_nil, or_false]; omega)) (by omega) (a8 d hd)⟩
  · by_cases hts : t = s
    · subst hts
      rw [h59, pk_us, mcn_t (by unfold mst; rw [r0]; exact decide_eq_true rfl), mst_c h58 t M (Nat.le_refl _)]
    · rw [h59, pk_un hts, mcn_f (by unfold mst; rw [r0]; exact decide_eq_false (fun q => hts ((nI_eq (by omega) (by omega)).mp q.symm))), mst_c h58 t M (Nat.le_refl _)]
      exact b1 t ht
  · by_cases hn2 : n = M
    · subst hn2
      exact ⟨s, hs, r0, by rw [mst_c h58 s n (Nat.le_refl _)]; exact r1⟩
    · obtain ⟨t, c1, c2, c3⟩ := b2 n (by omega)
      exact ⟨t, c1, by rw [h58 _ (by omega)]; exact c2, by rw [h58 _ (by omega), mst_c h58 t n (by omega)]; exact c3⟩
  · by_cases hn2 : n = M
    · subst hn2; rw [r7]; exact a3.2
    · rw [h58 _ (by omega)]; exact b3 n (by omega)
  · obtain ⟨r, c1, c2⟩ := a52 v hv
    exact ⟨r, by omega, by rw [hA 68 (by decide)]; exact c2⟩
theorem mI_num {S : Nat → Int32} {A : Nat → Nat → Int32} {M V D s : Nat} (h : mI S A M V D) (hs : s < 20) : ∀ m, m < mcn (mst A s) M → ∃ n, n < M ∧ A 58 (10 * n) = nI s ∧ A 58 (10 * n + 1) = nI m := fun m hm => by
  obtain ⟨n, h1, h2, h3⟩ := mcn_hit _ _ _ hm
  obtain ⟨t, c1, c2, c3⟩ := h.2.2.2.1.2.1 n h1
  have he : A 58 (10 * n) = nI s := of_decide_eq_true h2
  have : t = s := (nI_eq (by omega) (by omega)).mp (c2.symm.trans he)
  subst this
  exact ⟨n, h1, c2, by rw [c3, h3]⟩
theorem mrw_lo {A : Nat → Nat → Int32} {M i : Nat} {x0 x1 x2 x3 x4 x5 x6 x7 x8 x9 : Int32} (h : i < 10 * M) : mrw A M x0 x1 x2 x3 x4 x5 x6 x7 x8 x9 58 i = A 58 i := by
  unfold mrw
  iterate 10 rw [mU_q (by omega)]
theorem mrw_n {A : Nat → Nat → Int32} {M q : Nat} {x0 x1 x2 x3 x4 x5 x6 x7 x8 x9 : Int32} (h : q ≠ 58) : mrw A M x0 x1 x2 x3 x4 x5 x6 x7 x8 x9 q = A q := by
  unfold mrw
  iterate 10 rw [mU_n h]
/-- the row's cell k -/
theorem mrw_at {A : Nat → Nat → Int32} {M : Nat} {x0 x1 x2 x3 x4 x5 x6 x7 x8 x9 : Int32} : mrw A M x0 x1 x2 x3 x4 x5 x6 x7 x8 x9 58 (10 * M) = x0 ∧ mrw A M x0 x1 x2 x3 x4 x5 x6 x7 x8 x9 58 (10 * M + 1) = x1 ∧ mrw A M x0 x1 x2 x3 x4 x5 x6 x7 x8 x9 58 (10 * M + 2) = x2 ∧ mrw A M x0 x1 x2 x3 x4 x5 x6 x7 x8 x9 58 (10 * M + 3) = x3 ∧ mrw A M x0 x1 x2 x3 x4 x5 x6 x7 x8 x9 58 (10 * M + 4) = x4 ∧ mrw A M x0 x1 x2 x3 x4 x5 x6 x7 x8 x9 58 (10 * M + 5) = x5 ∧ mrw A M x0 x1 x2 x3 x4 x5 x6 x7 x8 x9 58 (10 * M + 6) = x6 ∧ mrw A M x0 x1 x2 x3 x4 x5 x6 x7 x8 x9 58 (10 * M + 7) = x7 ∧ mrw A M x0 x1 x2 x3 x4 x5 x6 x7 x8 x9 58 (10 * M + 8) = x8 ∧ mrw A M x0 x1 x2 x3 x4 x5 x6 x7 x8 x9 58 (10 * M + 9) = x9 := by
  unfold mrw
  refine ⟨?_, ?_, ?_, ?_, ?_, ?_, ?_, ?_, ?_, ?_⟩ <;> (repeat rw [mU_q (by omega)]) <;> rw [mU_s]
/-- what comes(..) leaves as it was -/
def mCf (S : Nat → Int32) (A : Nat → Nat → Int32) (S' : Nat → Int32) (A' : Nat → Nat → Int32) : Prop := (∀ k, k ∉ [1, 13, 14] → S' k = S k) ∧ ∀ q, q ∉ [58, 59, 60, 61, 62, 64, 65] → A' q = A q
theorem mCm_f {S S' : Nat → Int32} {A A' : Nat → Nat → Int32} {B B' : Nat → Nat → Int64} {M s c : Nat} {x2 x3 x4 x5 x6 x7 x8 x9 r : Int32} (hC : mCm S A B M s c x2 x3 x4 x5 x6 x7 x8 x9 r S' A' B') : mCf S A S' A' := by
  rcases hC with ⟨rfl, rfl, _, _⟩ | ⟨_, _, _, _, A1, A2, l, w, rfl, _, hG, _, ⟨_, _, rfl, rfl⟩ | ⟨_, _, rfl, rfl⟩⟩
  · exact ⟨fun _ _ => rfl, fun _ _ => rfl⟩
  · refine ⟨fun k hk => ?_, fun q hq => ?_⟩
    · simp only [List.mem_cons, List.not_mem_nil, or_false, not_or] at hk
      rw [mP_n hk.2.2, mP_n hk.2.1]
    · simp only [List.mem_cons, List.not_mem_nil, or_false, not_or] at hq
      rw [mG_q hG q (by simp only [List.mem_cons, List.not_mem_nil, or_false]; omega), mrw_n hq.1]
  · refine ⟨fun k hk => ?_, fun q hq => ?_⟩
    · simp only [List.mem_cons, List.not_mem_nil, or_false, not_or] at hk
      rw [mP_n hk.1, mP_n hk.2.2, mP_n hk.2.1]
    · simp only [List.mem_cons, List.not_mem_nil, or_false, not_or] at hq
      rw [mU_n hq.2.1, mG_q hG q (by simp only [List.mem_cons, List.not_mem_nil, or_false]; omega), mrw_n hq.1]
theorem mCm_I {S S' : Nat → Int32} {A A' : Nat → Nat → Int32} {B B' : Nat → Nat → Int64} {M V D s : Nat} {x2 x3 x4 x5 x6 x7 x8 x9 r : Int32} (h : mI S A M V D) (hs : s < 20) (hC : mCm S A B M s (mcn (mst A s) M) x2 x3 x4 x5 x6 x7 x8 x9 r S' A' B') : (r < 0 ∧ mI S' A' M V D) ∨ (r = nI M ∧ M < 400 ∧ mI S' A' (M + 1) V D) := by
  rcases hC with ⟨rfl, rfl, _, h3⟩ | ⟨_, hM, _, _, A1, A2, l, w, rfl, _, hG, _, ⟨hw, rfl, rfl, rfl⟩ | ⟨hw, rfl, rfl, rfl⟩⟩
  · refine Or.inl ⟨?_, h⟩
    rcases h3 with ⟨rfl, _⟩ | ⟨_, ⟨rfl, _⟩ | ⟨rfl, _⟩⟩ <;> decide
  · refine Or.inl ⟨hw, mI_f h (fun k hk => ?_) (fun i hi => ?_) (fun q hq => ?_)⟩
    · simp only [List.mem_cons, List.not_mem_nil, or_false] at hk
      rw [mP_n (by omega), mP_n (by omega)]
    · rw [mG_q hG 58 (by decide), mrw_lo hi]
    · simp only [List.mem_cons, List.not_mem_nil, or_false] at hq
      rw [mG_q hG q (by simp only [List.mem_cons, List.not_mem_nil, or_false]; omega), mrw_n (by omega)]
  · have g58 : (mU A2 59 s (nI (mcn (mst A s) M + 1))) 58 = mrw A M (nI s) (nI (mcn (mst A s) M)) x2 x3 x4 x5 x6 (S 2) (if x2 < 3 then -1 else x7) x9 58 := by rw [mU_n (by decide), mG_q hG 58 (by decide)]
    have hat := mrw_at (A := A) (M := M) (x0 := nI s) (x1 := nI (mcn (mst A s) M)) (x2 := x2) (x3 := x3) (x4 := x4) (x5 := x5) (x6 := x6) (x7 := S 2) (x8 := if x2 < 3 then -1 else x7) (x9 := x9)
    refine Or.inr ⟨rfl, hM, mI_c h hM hs mP_s (fun k hk => ?_) (fun i hi => ?_) ?_ ?_ ?_ ?_ (fun q hq => ?_)⟩
    · simp only [List.mem_cons, List.not_mem_nil, or_false] at hk
      rw [mP_n (by omega), mP_n (by omega), mP_n (by omega)]
    · rw [g58, mrw_lo hi]
    · rw [g58]; exact hat.1
    · rw [g58]; exact hat.2.1
    · rw [g58]; exact hat.2.2.2.2.2.2.2.1
    · unfold mU
      rw [if_pos rfl, mG_q hG 59 (by decide), mrw_n (by decide)]
    · simp only [List.mem_cons, List.not_mem_nil, or_false] at hq
      rw [mU_n (by omega), mG_q hG q (by simp only [List.mem_cons, List.not_mem_nil, or_false]; omega), mrw_n (by omega)]
/-- comes(..) under the invariant -/
theorem spC {X : Nat × (Nat → Int32)} {S : Nat → Int32} {A : Nat → Nat → Int32} {B : Nat → Nat → Int64} {h : xH} {x2 x3 x4 x5 x6 x7 x8 x9 : Int32} {M V D s : Nat} (hW : xWF h) (hm : mC S A B h) (hi : mI S A M V D) (hs : s < 20) : okM X 95 [.ref 57, .int (nI s), .int x2, .int x3, .int x4, .int x5, .int x6, .int x7, .int x8, .int x9] h (fun v h' => ∃ S' A' B' r, v = some (.int r) ∧ mC S' A' B' h' ∧ mCm S A B M s (mcn (mst A s) M) x2 x3 x4 x5 x6 x7 x8 x9 r S' A' B' ∧ mCf S A S' A' ∧ ((r < 0 ∧ mI S' A' M V D) ∨ (r = nI M ∧ M < 400 ∧ mI S' A' (M + 1) V D))) := by
  have hc := mcn_le (mst A s) M
  have hM := hi.2.1
  refine (sp95 hW hm hi.1 hM hs (hi.2.2.2.1.1 s hs) (by omega) (mI_num hi hs)).mono ?_
  rintro v h' ⟨S', A', B', hm', r, rfl, hC⟩
  exact ⟨S', A', B', r, rfl, hm', hC, mCm_f hC, mCm_I hi hs hC⟩
