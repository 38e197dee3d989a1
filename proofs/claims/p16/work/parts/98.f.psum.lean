/-! PAIRS: sum, state. What is known by a day is the beginning of a row -/
def mMo (S : Nat → Int32) (A : Nat → Nat → Int32) (M : Nat) : Prop := ∀ n, n < M → A 58 (10 * n + 7) ≤ S 2 ∧ ∀ m, m ≤ n → A 58 (10 * m + 7) ≤ A 58 (10 * n + 7)
def mMh (h : xH) : Prop := ∃ (S : Nat → Int32) (A : Nat → Nat → Int32) (B : Nat → Nat → Int64) (M : Nat), mC S A B h ∧ S 1 = nI M ∧ M ≤ 400 ∧ mMo S A M
def mMj (h : xH) : Prop := ∃ (S : Nat → Int32) (A : Nat → Nat → Int32) (B : Nat → Nat → Int64) (M V D : Nat), mC S A B h ∧ mJ S A M V D ∧ mMo S A M
theorem mC_58 {S S1 : Nat → Int32} {A A1 : Nat → Nat → Int32} {B B1 : Nat → Nat → Int64} {h : xH} (h1 : mC S A B h) (h2 : mC S1 A1 B1 h) : A1 58 = A 58 ∧ S1 1 = S 1 ∧ S1 2 = S 2 := by
  have e := (h1.2.1 58 (by decide)).symm.trans (h2.2.1 58 (by decide))
  have f := h1.1.symm.trans h2.1
  refine ⟨?_, ?_, ?_⟩
  · injection e with e
    injection e with e
    injection e with _ e
    injection e with _ e
    injection e with e
    exact e.symm
  · injection f with f
    injection f with f
    injection f with _ f
    unfold mF at f
    injection f with _ f
    injection f with f _
    injection f with f
    exact f.symm
  · injection f with f
    injection f with f
    injection f with _ f
    unfold mF at f
    injection f with _ f
    injection f with _ f
    injection f with f _
    injection f with f
    exact f.symm
theorem mMo_det {S S1 : Nat → Int32} {A A1 : Nat → Nat → Int32} {B B1 : Nat → Nat → Int64} {M M1 : Nat} {h : xH} (h1 : mC S1 A1 B1 h) (h2 : mC S A B h) (hM1 : S1 1 = nI M1) (b1 : M1 ≤ 400) (hM : S 1 = nI M) (b : M ≤ 400) (hmo : mMo S1 A1 M1) : mMo S A M := by
  obtain ⟨e1, e2, e3⟩ := mC_58 h1 h2
  have : M1 = M := by
    rw [hM, hM1, nI_eq (by omega) (by omega)] at e2
    exact e2.symm
  subst this
  intro n hn
  rw [e1, e3]
  exact hmo n hn
theorem mMj_of {i : Nat} {h : xH} (hl : lX i h) (hm : mMh h) : mMj h := by
  obtain ⟨S, A, B, M, V, D, a, hI, hmc, hj, -⟩ := hl
  obtain ⟨S1, A1, B1, M1, q1, q2, q3, q4⟩ := hm
  exact ⟨S, A, B, M, V, D, hmc, hj, mMo_det q1 hmc q2 q3 hj.1.1 hj.1.2.1 q4⟩
theorem mMh_k {S S' : Nat → Int32} {A A' : Nat → Nat → Int32} {B' : Nat → Nat → Int64} {M V D : Nat} {h' : xH} (hj : mJ S A M V D) (hmo : mMo S A M) (hm : mC S' A' B' h') (e1 : S' 1 = S 1) (e2 : S' 2 = S 2) (e3 : A' 58 = A 58) : mMh h' :=
  ⟨S', A', B', M, hm, by rw [e1]; exact hj.1.1, hj.1.2.1, fun n hn => by rw [e3, e2]; exact hmo n hn⟩
theorem mMh_kp {S S' : Nat → Int32} {A A' : Nat → Nat → Int32} {B B' : Nat → Nat → Int64} {M V D : Nat} {h' : xH} (hj : mJ S A M V D) (hmo : mMo S A M) (hm : mC S' A' B' h') (hk : mKp S A B S' A' B') : mMh h' :=
  mMh_k hj hmo hm (hk.1 1 (by decide)) (hk.1 2 (by decide)) (hk.2.1 58 (by decide))
theorem mTl_mo {S S1 : Nat → Int32} {A A1 : Nat → Nat → Int32} {B B1 : Nat → Nat → Int64} {M V D : Nat} {x1 x2 x3 x4 x5 x6 x7 x8 x9 r : Int32} (hj : mJ S A M V D) (hmo : mMo S A M) (hT : mTl S A B M V D x1 x2 x3 x4 x5 x6 x7 x8 x9 r S1 A1 B1) : ∃ M1, S1 1 = nI M1 ∧ M1 ≤ 400 ∧ mMo S1 A1 M1 := by
  obtain ⟨s, hs, rfl, hC, -, -⟩ := hT
  have hM := hj.1.2.1
  rcases hC with ⟨rfl, rfl, -, -⟩ | ⟨-, hM4, -, -, A0, A2, l, w, hA0, -, hG, -, hE⟩
  · exact ⟨M, hj.1.1, hM, hmo⟩
  · have e58 : A2 58 = A0 58 := mG_q hG 58 (by decide)
    have lo : ∀ i, i < 10 * M → A2 58 i = A 58 i := fun i hi => by rw [e58, hA0, mrw_lo hi]
    have at7 : A2 58 (10 * M + 7) = S 2 := by rw [e58, hA0]; exact mrw_at.2.2.2.2.2.2.2.1
    rcases hE with ⟨-, -, rfl, rfl⟩ | ⟨-, -, rfl, rfl⟩
    · refine ⟨M, by rw [mP_n (by decide), mP_n (by decide)]; exact hj.1.1, hM, fun n hn => ?_⟩
      obtain ⟨q1, q2⟩ := hmo n hn
      rw [lo _ (by omega), mP_n (by decide), mP_n (by decide)]
      exact ⟨q1, fun m hm => by rw [lo _ (by omega)]; exact q2 m hm⟩
    · refine ⟨M + 1, mP_s, by omega, fun n hn => ?_⟩
      rw [mU_n (by decide), mP_n (by decide), mP_n (by decide), mP_n (by decide)]
      by_cases he : n = M
      · subst he
        rw [at7]
        refine ⟨Int32.le_refl _, fun m hm => ?_⟩
        by_cases hb : m = n
        · subst hb; rw [at7]; exact Int32.le_refl _
        · rw [lo _ (by omega)]; exact (hmo m (by omega)).1
      · obtain ⟨q1, q2⟩ := hmo n (by omega)
        rw [lo _ (by omega)]
        exact ⟨q1, fun m hm => by rw [lo _ (by omega)]; exact q2 m hm⟩
theorem mTl_mh {S S1 S2 : Nat → Int32} {A A1 A2 : Nat → Nat → Int32} {B B1 B2 : Nat → Nat → Int64} {M V D : Nat} {x1 x2 x3 x4 x5 x6 x7 x8 x9 r : Int32} {h' : xH} (hj : mJ S A M V D) (hmo : mMo S A M) (hT : mTl S A B M V D x1 x2 x3 x4 x5 x6 x7 x8 x9 r S1 A1 B1) (hm : mC S2 A2 B2 h') (e1 : S2 1 = S1 1) (e2 : S2 2 = S1 2) (e3 : A2 58 = A1 58) : mMh h' := by
  obtain ⟨M1, q1, q2, q3⟩ := mTl_mo hj hmo hT
  exact ⟨S2, A2, B2, M1, hm, by rw [e1]; exact q1, q2, fun n hn => by rw [e3, e2]; exact q3 n hn⟩
/-- the class's calls leave it as it is -/
theorem lm_c {X : Nat × (Nat → Int32)} {j i : Nat} {vs : List Value} {h : xH} {P : Option Value → xH → Prop} (hl : lX i h) (hq : mMj h) (hW : xWF h) (hj : j < 132) (hv : rs cRg vs) (hM : okM X j vs h P) : okM X j vs h (fun v h1 => P v h1 ∧ mMj h1) := by
  obtain ⟨S, A, B, M, V, D, a, -, -, -, -, -, hH, -⟩ := hl
  refine (okM_c hj hH hv hW hM).mono ?_
  rintro v h1 ⟨hp, -, ho1, -⟩
  obtain ⟨S, A, B, M, V, D, q1, q2, q3⟩ := hq
  exact ⟨hp, S, A, B, M, V, D, q1.lo ho1, q2, q3⟩
theorem mm_rd {X : Nat × (Nat → Int32)} {m : Nat} {ws : List Value} {h : xH} {Q : Option Value → xH → Prop} {S : Nat → Int32} {A : Nat → Nat → Int32} {B : Nat → Nat → Int64} {M V D : Nat} (hj : mJ S A M V D) (hmo : mMo S A M) (hM : okM X m ws h (fun v h' => Q v h' ∧ ∃ S' A' B', mC S' A' B' h' ∧ mKp S A B S' A' B')) : okM X m ws h (fun _ h' => mMh h') := hM.mono (fun v h' ⟨_, S', A', B', q1, q2⟩ => mMh_kp hj hmo q1 q2)
theorem mm88 {X : Nat × (Nat → Int32)} {h : xH} (hW : xWF h) (hq : mMj h) {x1 : Int32} : okM X 88 [.ref 57, .int x1] h (fun _ h' => mMh h') := by
  obtain ⟨S, A, B, M, V, D, hm, hj, hmo⟩ := hq
  refine (sp88 hW hm).mono ?_
  rintro v h' (⟨-, -, hm2⟩ | ⟨-, m1, m2, hm2⟩)
  · exact mMh_k hj hmo hm2 rfl rfl rfl
  · refine ⟨_, _, _, M, hm2, by rw [mP_n (by decide)]; exact hj.1.1, hj.1.2.1, fun n hn => ?_⟩
    rw [mP_s]
    exact ⟨Int32.le_trans (hmo n hn).1 (Int32.le_of_lt (Int32.not_le.mp m1)), (hmo n hn).2⟩
theorem mm97 {X : Nat × (Nat → Int32)} {h : xH} (hW : xWF h) (hq : mMj h) {x1 x2 x3 x4 x5 x6 x7 : Int32} : okM X 97 [.ref 57, .int x1, .int x2, .int x3, .int x4, .int x5, .int x6, .int x7] h (fun _ h' => mMh h') := by
  obtain ⟨S, A, B, M, V, D, hm, hj, hmo⟩ := hq
  refine (me97 hW hm hj).mono ?_
  rintro v h' ⟨r, S', A', B', -, hm2, ⟨-, rfl, rfl, rfl, -⟩ | ⟨-, hT⟩⟩
  · exact mMh_k hj hmo hm2 rfl rfl rfl
  · exact mTl_mh hj hmo hT hm2 rfl rfl rfl
theorem mm98 {X : Nat × (Nat → Int32)} {h : xH} (hW : xWF h) (hq : mMj h) {x1 x2 x3 x4 x5 x6 x7 : Int32} : okM X 98 [.ref 57, .int x1, .int x2, .int x3, .int x4, .int x5, .int x6, .int x7] h (fun _ h' => mMh h') := by
  obtain ⟨S, A, B, M, V, D, hm, hj, hmo⟩ := hq
  refine (me98 hW hm hj).mono ?_
  rintro v h' ⟨r, S', A', B', -, hm2, ⟨-, rfl, rfl, rfl, -⟩ | ⟨-, hT⟩⟩
  · exact mMh_k hj hmo hm2 rfl rfl rfl
  · exact mTl_mh hj hmo hT hm2 rfl rfl rfl
theorem mm99 {X : Nat × (Nat → Int32)} {h : xH} (hW : xWF h) (hq : mMj h) {x1 x2 x3 : Int32} : okM X 99 [.ref 57, .int x1, .int x2, .int x3] h (fun _ h' => mMh h') := by
  obtain ⟨S, A, B, M, V, D, hm, hj, hmo⟩ := hq
  refine (me99 hW hm hj).mono ?_
  rintro v h' ⟨r, S', A', B', -, hm2, ⟨-, rfl, rfl, rfl, -⟩ | ⟨-, hT⟩⟩
  · exact mMh_k hj hmo hm2 rfl rfl rfl
  · exact mTl_mh hj hmo hT hm2 rfl rfl rfl
theorem mm101 {X : Nat × (Nat → Int32)} {h : xH} (hW : xWF h) (hq : mMj h) {x1 x2 : Int32} : okM X 101 [.ref 57, .int x1, .int x2] h (fun _ h' => mMh h') := by
  obtain ⟨S, A, B, M, V, D, hm, hj, hmo⟩ := hq
  exact mm_rd (Q := fun v _ => ∃ x, v = some (.int x)) hj hmo (mk101 hW hm hj)
theorem mm107 {X : Nat × (Nat → Int32)} {h : xH} (hW : xWF h) (hq : mMj h) {x1 x2 x3 : Int32} : okM X 107 [.ref 57, .int x1, .int x2, .int x3] h (fun _ h' => mMh h') := by
  obtain ⟨S, A, B, M, V, D, hm, hj, hmo⟩ := hq
  exact mm_rd (Q := fun v _ => ∃ x, v = some (.int x)) hj hmo (mk107 hW hm hj)
theorem mm116 {X : Nat × (Nat → Int32)} {h : xH} (hW : xWF h) (hq : mMj h) {x1 x2 x3 : Int32} : okM X 116 [.ref 57, .int x1, .int x2, .int x3] h (fun _ h' => mMh h') := by
  obtain ⟨S, A, B, M, V, D, hm, hj, hmo⟩ := hq
  exact mm_rd (Q := fun v _ => ∃ x, v = some (.int x)) hj hmo (mk116 hW hm hj)
theorem mm106 {X : Nat × (Nat → Int32)} {h : xH} (hW : xWF h) (hq : mMj h) {x1 x2 x3 x4 : Int32} : okM X 106 [.ref 57, .int x1, .int x2, .int x3, .int x4] h (fun _ h' => mMh h') := by
  obtain ⟨S, A, B, M, V, D, hm, hj, hmo⟩ := hq
  exact mm_rd (Q := fun v _ => ∃ x, v = some (.long x)) hj hmo (mk106 hW hm hj)
theorem mm115 {X : Nat × (Nat → Int32)} {h : xH} (hW : xWF h) (hq : mMj h) {x1 x2 : Int32} : okM X 115 [.ref 57, .int x1, .int x2] h (fun _ h' => mMh h') := by
  obtain ⟨S, A, B, M, V, D, hm, hj, hmo⟩ := hq
  exact mm_rd (Q := fun v _ => ∃ x, v = some (.long x)) hj hmo (mk115 hW hm hj)
theorem mm102 {X : Nat × (Nat → Int32)} {h : xH} (hW : xWF h) (hq : mMj h) {x1 x2 : Int32} : okM X 102 [.ref 57, .int x1, .int x2] h (fun _ h' => mMh h') := by
  obtain ⟨S, A, B, M, V, D, hm, hj, hmo⟩ := hq
  exact mm_rd (Q := fun _ _ => True) hj hmo (mo_rd (Q := fun _ => True) (by decide) rfl rfl hW hm ((sp102 hW hm hj.1.1 hj.1.2.1).mono (fun _ _ _ => True.intro)))
theorem mm103 {X : Nat × (Nat → Int32)} {h : xH} (hW : xWF h) (hq : mMj h) {x1 : Int32} : okM X 103 [.ref 57, .int x1] h (fun _ h' => mMh h') := by
  obtain ⟨S, A, B, M, V, D, hm, hj, hmo⟩ := hq
  exact mm_rd (Q := fun _ _ => True) hj hmo (mo_rd (Q := fun _ => True) (by decide) rfl rfl hW hm ((me103 hW hm).mono (fun _ _ _ => True.intro)))
theorem mm104 {X : Nat × (Nat → Int32)} {h : xH} (hW : xWF h) (hq : mMj h) {x1 : Int32} : okM X 104 [.ref 57, .int x1] h (fun _ h' => mMh h') := by
  obtain ⟨S, A, B, M, V, D, hm, hj, hmo⟩ := hq
  exact mm_rd (Q := fun _ _ => True) hj hmo (mo_rd (Q := fun _ => True) (by decide) rfl rfl hW hm ((me104 hW hm).mono (fun _ _ _ => True.intro)))
theorem mm112 {X : Nat × (Nat → Int32)} {h : xH} (hW : xWF h) (hq : mMj h) {x1 x2 : Int32} : okM X 112 [.ref 57, .int x1, .int x2] h (fun _ h' => mMh h') := by
  obtain ⟨S, A, B, M, V, D, hm, hj, hmo⟩ := hq
  exact mm_rd (Q := fun _ _ => True) hj hmo (mo_rd (Q := fun _ => True) (by decide) rfl rfl hW hm ((me112 hW hm hj).mono (fun _ _ _ => True.intro)))
theorem mm124 {X : Nat × (Nat → Int32)} {h : xH} (hW : xWF h) (hq : mMj h) {x1 x2 : Int32} : okM X 124 [.ref 57, .int x1, .int x2] h (fun _ h' => mMh h') := by
  obtain ⟨S, A, B, M, V, D, hm, hj, hmo⟩ := hq
  exact mm_rd (Q := fun _ _ => True) hj hmo (mo_rd (Q := fun _ => True) (by decide) rfl rfl hW hm ((me124 hW hm hj).mono (fun _ _ _ => True.intro)))
theorem mm126 {X : Nat × (Nat → Int32)} {h : xH} (hW : xWF h) (hq : mMj h) {x1 : Int32} : okM X 126 [.ref 57, .int x1] h (fun _ h' => mMh h') := by
  obtain ⟨S, A, B, M, V, D, hm, hj, hmo⟩ := hq
  exact mm_rd (Q := fun _ _ => True) hj hmo (mo_rd (Q := fun _ => True) (by decide) rfl rfl hW hm ((me126 hW hm).mono (fun _ _ _ => True.intro)))
theorem mm109 {X : Nat × (Nat → Int32)} {h : xH} (hW : xWF h) (hq : mMj h) {x1 x2 : Int32} : okM X 109 [.ref 57, .int x1, .int x2] h (fun _ h' => mMh h') := by
  obtain ⟨S, A, B, M, V, D, hm, hj, hmo⟩ := hq
  refine (me109 hW hm hj).mono ?_
  rintro v h' (⟨-, -, hm2⟩ | ⟨-, -, -, -, hm2⟩)
  · exact mMh_k hj hmo hm2 rfl rfl rfl
  · exact mMh_k hj hmo hm2 (mP_n (by decide)) (mP_n (by decide)) (by rw [mU_n (by decide), mU_n (by decide), mU_n (by decide)])
theorem mm111 {X : Nat × (Nat → Int32)} {h : xH} (hW : xWF h) (hq : mMj h) {x1 x2 : Int32} : okM X 111 [.ref 57, .int x1, .int x2] h (fun _ h' => mMh h') := by
  obtain ⟨S, A, B, M, V, D, hm, hj, hmo⟩ := hq
  refine (me111 hW hm hj).mono ?_
  rintro v h' (⟨-, -, hm2⟩ | ⟨d, q, r, -, -, -, -, -, -, -, hm2⟩)
  · exact mMh_k hj hmo hm2 rfl rfl rfl
  · exact mMh_k hj hmo hm2 rfl rfl (mU_n (by decide))
theorem mm117 {X : Nat × (Nat → Int32)} {h : xH} (hW : xWF h) (hq : mMj h) : okM X 117 [.ref 57] h (fun _ h' => mMh h') := by
  obtain ⟨S, A, B, M, V, D, hm, hj, hmo⟩ := hq
  refine (me117 hW hm hj).mono ?_
  rintro v h' (⟨-, -, hm2⟩ | ⟨-, -, A', hm2, g1, -, -⟩)
  · exact mMh_k hj hmo hm2 rfl rfl rfl
  · exact mMh_k hj hmo hm2 (mP_n (by decide)) (mP_n (by decide)) (g1 58 (by decide))
theorem mm119 {X : Nat × (Nat → Int32)} {h : xH} (hW : xWF h) (hq : mMj h) {x1 x2 x3 : Int32} : okM X 119 [.ref 57, .int x1, .int x2, .int x3] h (fun _ h' => mMh h') := by
  obtain ⟨S, A, B, M, V, D, hm, hj, hmo⟩ := hq
  refine (me119 hW hm hj).mono ?_
  rintro v h' (⟨-, -, hm2⟩ | ⟨d, l, -, -, -, -, -, -, -, -, hm2⟩)
  · exact mMh_k hj hmo hm2 rfl rfl rfl
  · exact mMh_k hj hmo hm2 rfl rfl (by rw [mU_n (by decide), mU_n (by decide), mU_n (by decide)])
theorem mm120 {X : Nat × (Nat → Int32)} {h : xH} (hW : xWF h) (hq : mMj h) {x1 : Int32} : okM X 120 [.ref 57, .int x1] h (fun _ h' => mMh h') := by
  obtain ⟨S, A, B, M, V, D, hm, hj, hmo⟩ := hq
  refine (me120 hW hm hj).mono ?_
  rintro v h' (⟨-, -, hm2⟩ | ⟨d, -, -, -, -, -, hm2⟩)
  · exact mMh_k hj hmo hm2 rfl rfl rfl
  · exact mMh_k hj hmo hm2 rfl rfl (mU_n (by decide))
theorem mm121 {X : Nat × (Nat → Int32)} {h : xH} (hW : xWF h) (hq : mMj h) {x1 : Int32} : okM X 121 [.ref 57, .int x1] h (fun _ h' => mMh h') := by
  obtain ⟨S, A, B, M, V, D, hm, hj, hmo⟩ := hq
  refine (me121 hW hm hj).mono ?_
  rintro v h' (⟨-, -, hm2⟩ | ⟨d, m1, m2, m3⟩)
  · exact mMh_k hj hmo hm2 rfl rfl rfl
  rcases m3 with ⟨-, l, e, s, r', S1, A1, B1, m4, m5, m6, m7, m8, m9, -, hC, hF, hi3, hm2⟩ | ⟨-, e, u, s, x', r', S1, A1, B1, m6, m5, m7, m8, m9, m10, m11, m12, -, hC, hF, hi3, hm2⟩ | ⟨-, -, -, hm2⟩
  · have hT := (⟨s, m8, m9, hC, hF, hi3⟩ : mTl S A B M V D _ _ _ _ _ _ _ _ _ _ _ _ _)
    rcases hm2 with ⟨-, hm2⟩ | ⟨-, hm2⟩
    · exact mTl_mh hj hmo hT hm2 rfl rfl (by rw [mU_n (by decide)])
    · refine mTl_mh hj hmo hT hm2 rfl rfl ?_
      split
      · rw [mU_n (by decide), mU_n (by decide), mU_n (by decide)]
      · rw [mU_n (by decide), mU_n (by decide)]
  · have hT := (⟨s, m9, m10, hC, hF, hi3⟩ : mTl S A B M V D _ _ _ _ _ _ _ _ _ _ _ _ _)
    rcases hm2 with ⟨-, hm2⟩ | ⟨-, hm2⟩
    · exact mTl_mh hj hmo hT hm2 rfl rfl rfl
    · refine mTl_mh hj hmo hT hm2 rfl rfl ?_
      split
      · rw [mU_n (by decide), mU_n (by decide)]
      · rw [mU_n (by decide)]
  · exact mMh_k hj hmo hm2 rfl rfl rfl
theorem mm125 {X : Nat × (Nat → Int32)} {h : xH} (hW : xWF h) (hq : mMj h) {x1 x2 x3 x4 x5 x6 : Int32} : okM X 125 [.ref 57, .int x1, .int x2, .int x3, .int x4, .int x5, .int x6] h (fun _ h' => mMh h') := by
  obtain ⟨S, A, B, M, V, D, hm, hj, hmo⟩ := hq
  refine (me125 hW hm hj).mono ?_
  rintro v h' (⟨-, -, hm2⟩ | ⟨q, k, -, -, -, -, ⟨-, -, hm2⟩ | ⟨-, ⟨-, -, hm2⟩ | ⟨-, ⟨-, -, hm2⟩ | ⟨-, r, S1, A1, B1, -, hT, hm2⟩⟩⟩⟩)
  · exact mMh_k hj hmo hm2 rfl rfl rfl
  · exact mMh_k hj hmo hm2 rfl rfl rfl
  · exact mMh_k hj hmo hm2 rfl rfl rfl
  · exact mMh_k hj hmo hm2 rfl rfl rfl
  · rcases hm2 with ⟨-, hm2⟩ | ⟨-, hm2⟩
    · exact mTl_mh hj hmo hT hm2 rfl rfl rfl
    · exact mTl_mh hj hmo hT hm2 rfl rfl rfl
theorem mm129 {X : Nat × (Nat → Int32)} {h : xH} (hW : xWF h) (hq : mMj h) {x1 x2 x3 : Int32} : okM X 129 [.ref 57, .int x1, .int x2, .int x3] h (fun _ h' => mMh h') := by
  obtain ⟨S, A, B, M, V, D, hm, hj, hmo⟩ := hq
  exact mm_rd (Q := fun v _ => ∃ x, v = some (.int x)) hj hmo (mk129 hW hm hj)
