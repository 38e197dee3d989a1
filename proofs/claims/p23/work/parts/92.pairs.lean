/-! PAIRS: a call of the class, then the model's -/
theorem cDg_how {h h1 : xH} {A A' : Nat → Nat → Int32} {M M' D d u' : Nat} {a a' : Nat → Nat} {gd : Nat → Option Nat} {da tl : Nat → Nat} {gl : Nat → Nat → Option Nat} {lq : Nat → Nat → Nat} {cv : Nat → Nat → Value} {lg en un : Nat → Nat} {w' : Int32} (hd : cDw h A M D a gd da tl gl lq cv lg en un) (hdD : d < D) (hu : u' ≤ en d) (w : h1.2.2 (da d) = some (.inr (1, [.int (nI (1 + d)), .int w', .int (nI (lg d)), .int (nI (en d)), .int (nI u'), .ref (tl d)]))) (f : ∀ q e, h.2.2 q = some e → (∀ c fs, e = .inr (c, fs) → c = 1 ∨ c = 4) → (∀ t n k, e = .inl (t, n, k) → t = 5 ∨ t = 8) → q ≠ da d → h1.2.2 q = some e) (hM : M ≤ M') (ha : ∀ x, x < M → a' x = a x) (e70 : ∀ i, i < D → A' 70 i = if i = d then w' else A 70 i) (e73 : ∀ i, i < D → A' 73 i = if i = d then nI u' else A 73 i) (eA : ∀ q, q ∈ [71, 72, 74, 75, 76] → A' q = A q) : cDg h1 A' M' D a' := by
  have hda := hd.f3 d hdD
  have o4 : ∀ {q fs}, h.2.2 q = some (.inr (4, fs)) → h1.2.2 q = some (.inr (4, fs)) := fun he => f _ _ he (fun _ _ z => by cases z; exact Or.inr rfl) (fun _ _ _ z => by cases z) (ne_oo he hda (by decide))
  have ar : ∀ {q t n k}, h.2.2 q = some (.inl (t, n, k)) → t = 5 ∨ t = 8 → h1.2.2 q = some (.inl (t, n, k)) := fun he hc => f _ _ he (fun _ _ z => by cases z) (fun _ _ _ z => by cases z; exact hc) (Ne.symm (ne_oa hda he))
  refine ⟨gd, da, tl, gl, lq, cv, lg, en, va_up un d u', ar hd.f1 (by decide), hd.f2, fun e hq => ?_, fun e hq => ar (hd.f4 e hq) (by decide), fun e hq => ?_, fun e k hq hk => ?_, fun e k hq hk => ?_, fun e k hq h1 h2 => ?_, hd.f9, hd.g1, hd.g2, fun e k hq hk => by rw [eA 75 (by decide)]; exact hd.g3 e k hq hk⟩
  · rw [e70 e hq]
    by_cases hz : e = d
    · subst hz; rw [va_s, if_pos rfl]; exact w
    · rw [va_n hz, if_neg hz]; exact f _ _ (hd.f3 e hq) (fun _ _ z => by cases z; exact Or.inl rfl) (fun _ _ _ z => by cases z) (fun y => hz (hd.f9 _ _ hq hdD y))
  · rw [eA 71 (by decide), eA 72 (by decide), e73 e hq]
    have h5 := hd.f5 e hq
    by_cases hz : e = d
    · subst hz; rw [va_s, if_pos rfl]; exact ⟨h5.1, h5.2.1, rfl, h5.2.2.2.1, h5.2.2.2.2.1, hu⟩
    · rw [va_n hz, if_neg hz]; exact h5
  · rw [eA 74 (by decide), eA 75 (by decide)]
    exact ⟨(hd.f6 e k hq hk).1, o4 (hd.f6 e k hq hk).2⟩
  · obtain ⟨x, q1, q2, q3⟩ := hd.f7 e k hq hk
    rw [eA 76 (by decide)]
    exact ⟨x, by omega, q2, by rw [ha x q1]; exact q3⟩
  · rw [eA 76 (by decide)]; exact hd.f8 e k hq h1 h2
theorem cDg_go {h h1 : xH} {A A' : Nat → Nat → Int32} {M D d : Nat} {a a' : Nat → Nat} {gd : Nat → Option Nat} {da tl : Nat → Nat} {gl : Nat → Nat → Option Nat} {lq : Nat → Nat → Nat} {cv : Nat → Nat → Value} {lg en un : Nat → Nat} {w' : Int32} (hd : cDw h A M D a gd da tl gl lq cv lg en un) (hdD : d < D) (hel : en d < lg d) (w : h1.2.2 (da d) = some (.inr (1, [.int (nI (1 + d)), .int w', .int (nI (lg d)), .int (nI (en d + 1)), .int (nI (un d)), .ref (tl d)]))) (wl : h1.2.2 (lq d (en d)) = some (.inr (4, [.int (A 74 (4 * d + en d)), .int (A 75 (4 * d + en d)), .ref (a' M)]))) (f : ∀ q e, h.2.2 q = some e → (∀ c fs, e = .inr (c, fs) → c = 1 ∨ c = 4) → (∀ t n k, e = .inl (t, n, k) → t = 5 ∨ t = 8) → q ≠ da d → q ≠ lq d (en d) → h1.2.2 q = some e) (ha : ∀ x, x < M → a' x = a x) (e70 : ∀ i, i < D → A' 70 i = if i = d then w' else A 70 i) (e72 : ∀ i, i < D → A' 72 i = if i = d then nI (en d + 1) else A 72 i) (e76 : ∀ i, A' 76 i = if i = 4 * d + en d then nI M else A 76 i) (eA : ∀ q, q ∈ [71, 73, 74, 75] → A' q = A q) : cDg h1 A' (M + 1) D a' := by
  have hda := hd.f3 d hdD
  have hle := (hd.f6 d (en d) hdD hel).2
  have h5d := hd.f5 d hdD
  have ar : ∀ {q t n k}, h.2.2 q = some (.inl (t, n, k)) → t = 5 ∨ t = 8 → h1.2.2 q = some (.inl (t, n, k)) := fun he hc => f _ _ he (fun _ _ z => by cases z) (fun _ _ _ z => by cases z; exact hc) (Ne.symm (ne_oa hda he)) (Ne.symm (ne_oa hle he))
  refine ⟨gd, da, tl, gl, lq, va2 cv d (en d) (.ref (a' M)), lg, va_up en d (en d + 1), un, ar hd.f1 (by decide), hd.f2, fun e hq => ?_, fun e hq => ar (hd.f4 e hq) (by decide), fun e hq => ?_, fun e k hq hk => ?_, fun e k hq hk => ?_, fun e k hq h1 h2 => ?_, hd.f9, hd.g1, hd.g2, fun e k hq hk => by rw [eA 75 (by decide)]; exact hd.g3 e k hq hk⟩
  · rw [e70 e hq]
    by_cases hz : e = d
    · subst hz; rw [va_s, if_pos rfl]; exact w
    · rw [va_n hz, if_neg hz]; exact f _ _ (hd.f3 e hq) (fun _ _ z => by cases z; exact Or.inl rfl) (fun _ _ _ z => by cases z) (fun y => hz (hd.f9 _ _ hq hdD y)) (ne_oo (hd.f3 e hq) hle (by decide))
  · rw [eA 71 (by decide), eA 73 (by decide), e72 e hq]
    have h5 := hd.f5 e hq
    by_cases hz : e = d
    · subst hz; rw [va_s, if_pos rfl]; exact ⟨h5.1, rfl, h5.2.2.1, h5.2.2.2.1, by omega, by omega⟩
    · rw [va_n hz, if_neg hz]; exact h5
  · rw [eA 74 (by decide), eA 75 (by decide)]
    refine ⟨(hd.f6 e k hq hk).1, ?_⟩
    by_cases hz : e = d ∧ k = en d
    · obtain ⟨rfl, rfl⟩ := hz
      rw [va2_s]; exact wl
    · rw [va2_n hz]
      exact f _ _ (hd.f6 e k hq hk).2 (fun _ _ z => by cases z; exact Or.inr rfl) (fun _ _ _ z => by cases z) (ne_oo (hd.f6 e k hq hk).2 hda (by decide)) (fun y => hz (hd.g2 _ _ _ _ hq hdD hk hel y))
  · rw [e76]
    by_cases hz : e = d
    · subst hz
      rw [va_s] at hk
      by_cases hy : k = en e
      · subst hy; rw [va2_s, if_pos rfl]; exact ⟨M, by omega, rfl, rfl⟩
      · rw [va2_n (fun y => hy y.2), if_neg (by omega)]
        obtain ⟨x, q1, q2, q3⟩ := hd.f7 e k hq (by omega)
        exact ⟨x, by omega, q2, by rw [ha x q1]; exact q3⟩
    · rw [va_n hz] at hk
      have h5 := hd.f5 e hq
      rw [va2_n (fun y => hz y.1), if_neg (by omega)]
      obtain ⟨x, q1, q2, q3⟩ := hd.f7 e k hq hk
      exact ⟨x, by omega, q2, by rw [ha x q1]; exact q3⟩
  · rw [e76]
    by_cases hz : e = d
    · subst hz
      rw [va_s] at h1
      rw [va2_n (fun y => by omega), if_neg (by omega)]
      exact hd.f8 e k hq (by omega) h2
    · rw [va_n hz] at h1
      rw [va2_n (fun y => hz y.1), if_neg (by omega)]
      exact hd.f8 e k hq h1 h2
set_option maxRecDepth 20000 in
theorem pr60 {X : Nat × (Nat → Int32)} {h : xH} {i : Nat} (hW : xWF h) (hl : lX i h) : okM X 60 [.ref 0] h (fun v h1 => ∃ r, v = some (.int r) ∧ lP X i 117 [.ref 57] h1 (fun v' => v' = some (.int r))) := by
  obtain ⟨S, A, B, M, V, D, a, hI, hm, hj, z1, z2, hH, hX⟩ := hl
  have hD := hj.1.2.2.2.2.2.2.1
  have hdg := hX.2.1
  obtain ⟨gd, da, tl, gl, lq, cv, lg, en, un, hd⟩ := hX.2.1
  refine (okM_c (j := 60) (by decide) hH (rs_c0 (by simp)) hW ((ex60 hW hI).and (ix60 hW hI.1 hD hd.f1))).mono ?_
  rintro v h1 ⟨⟨⟨hc, b1, b2⟩, hx⟩, hH1, ho1, k1, -⟩
  have hm1 := hm.lo ho1
  have mo : okM X 117 [.ref 57] h1 _ := okM_m (j := 117) (by decide) rfl hm1 hH1.1 (rs_m0 (by simp)) k1.1 ((sp117 k1.1 hm1 hj).and (me117 k1.1 hm1 hj))
  rcases hx with ⟨rfl, n1, rfl⟩ | ⟨rfl, n1, p, t2, fr, w1, w2, w3, f⟩
  · have hI1 : cI (2 * i) (S 2) (nI V) (nI D) h := hI
    refine ⟨-1, rfl, ⟨_, hm1.1⟩, mo.mono ?_⟩
    rintro v' h2 ⟨⟨⟨D', -, -⟩, ⟨rfl, m1, hm2⟩ | ⟨-, m1, -⟩⟩, ho2, k2, e1, e2⟩
    · exact ⟨rfl, lX_fin (hI1.up (by omega)) rfl (by omega) (by omega) hH1 ho2 k2 (by decide) e1 e2 hm2 hj (cX_mo hX hm1 ho2)⟩
    · exact absurd m1 n1
  · refine ⟨nI D, rfl, ⟨_, hm1.1⟩, mo.mono ?_⟩
    rintro v' h2 ⟨⟨⟨D', hD', S1, A1, B1, M1, hs1, hs2, hs3⟩, ⟨-, m1, -⟩ | ⟨rfl, m1, A', hm2, g1, g2, g3⟩⟩, ho2, k2, e1, e2⟩
    · exact absurd n1 m1
    · have hD2 : D' = D + 1 := by
        rcases hD' with ⟨-, -, y⟩ | ⟨-, y, -⟩ <;> omega
      subst hD2
      have hj2 := mJ_det hs1 hm2 hs2
      have hM1 : M1 = M := mJ_M hj2 (by rw [mP_n (by decide)]; exact hj.1.1) hj.1.2.1
      subst hM1
      have hI1 : cI (2 * i) (S 2) (nI V) (nI (D + 1)) h1 := by
        rcases hc with ⟨hv, _⟩ | ⟨_, hI1, _⟩
        · exfalso
          have : nI D = -1 := by injection hv with z; injection z
          have h3 : nI D < 0 := by rw [this]; decide
          rw [nk0n (by omega)] at h3
          omega
        · rw [nxa1] at hI1; exact hI1
      obtain ⟨x1, x2, x3, x4⟩ := hX
      have h0 : ∃ fs, h.2.2 0 = some (.inr (8, fs)) := ⟨_, hI.1⟩
      obtain ⟨fs0, h0'⟩ := h0
      have fo : ∀ q e, h.2.2 q = some e → (∀ c fs, e = .inr (c, fs) → c ≠ 8) → (∀ t n k, e = .inl (t, n, k) → t ≠ 5) → h1.2.2 q = some e := fun q e he q1 q2 => f q e he (fun z => by
        subst z; rw [h0'] at he; cases he; exact q1 _ _ rfl rfl) (fun z => by
        subst z; rw [hd.f1] at he; cases he; exact q2 _ _ _ rfl rfl)
      have y1 : cX1 h1 A M1 a := cX1_fr x1 (fun q e he q1 q2 => fo q e he (fun c fs z => by have := q1 c fs z; omega) (fun t n k z => by have := q2 t n k z; omega))
      have y2 : cDg h1 A' M1 (D + 1) a := cDg_new hj n1 hdg fr w1 w2 hd.f1 w3 ⟨_, h0'⟩ f g1 g2 g3
      have y3 : cSn h1 B := by
        obtain ⟨⟨gs, s1, s2⟩, s3⟩ := x3
        refine ⟨⟨gs, fo _ _ s1 (fun _ _ z => by cases z) (fun _ _ _ z => by cases z; decide), s2⟩, fun s hs => ?_⟩
        obtain ⟨gn, g, cn, q1, q2, q3⟩ := s3 s hs
        exact ⟨gn, g, cn, fo _ _ q1 (fun _ _ z => by cases z; decide) (fun _ _ _ z => by cases z), q2, q3⟩
      have y4 : cVw h1 A V := by
        obtain ⟨gv, va, s1, s2, s3, s4⟩ := x4
        exact ⟨gv, va, fo _ _ s1 (fun _ _ z => by cases z) (fun _ _ _ z => by cases z; decide), s2, fun v hv => fo _ _ (s3 v hv) (fun _ _ z => by cases z; decide) (fun _ _ _ z => by cases z), s4⟩
      have fm := mC_fx hm1 ho2
      have yy : cX h2 A' B M1 V (D + 1) a := ⟨cX1_A (cX1_mo hm1 ho2 y1) (fun i _ => by rw [g1 58 (by decide)]), cDg_k y2 fm (Nat.le_refl _) (fun _ _ => rfl) (fun _ _ => rfl), cSn_k y3 fm (fun _ _ => rfl), cVw_k y4 fm (fun q hq => g1 q (by revert hq; simp only [List.mem_cons, List.not_mem_nil, or_false]; omega))⟩
      exact ⟨rfl, lX_fin (hI1.up (by omega)) (mP_n (by decide)) (by omega) (by omega) hH1 ho2 k2 (by decide) e1 e2 hm2 hj2 yy⟩
