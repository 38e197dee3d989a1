/-! COMMANDS: class and model -/
theorem mix_c {p q : Nat → Bool} {k : Nat} : ∀ {T}, (∀ n, n < T → p n = q n) → mix p T k = mix q T k
  | 0, _ => rfl
  | T + 1, h => by
    unfold mix
    rw [h T (Nat.lt_succ_self T), mcn_congr (fun i hi => h i (by omega)), mix_c (T := T) (fun n hn => h n (by omega))]
theorem lF_c {A : Nat → Nat → Int32} {p q : Nat → Bool} {T : Nat} (h : ∀ n, n < T → p n = q n) : lF A p T = lF A q T := by
  funext k w
  unfold lF
  rw [mix_c h]
theorem dI_c {A : Nat → Nat → Int32} {p q : Nat → Bool} {T : Nat} (h : ∀ n, n < T → p n = q n) (hd : dI A q T) : dI A p T := fun n hn hp => by
  rw [mcn_congr (fun i hi => h i (by omega))]
  exact hd n hn (by rw [← h n hn]; exact hp)
/-- what stands between calls of the class's rows -/
def cX1 (h : xH) (A : Nat → Nat → Int32) (M : Nat) (a : Nat → Nat) : Prop := (∃ T, cS h A M a T) ∧ jZ h ∧ ∀ s, s < 20 → dI A (mst A s) M
theorem cS_A {h : xH} {A A' : Nat → Nat → Int32} {M : Nat} {a T : Nat → Nat} (hS : cS h A M a T) (hA : ∀ i, i < 10 * M → A' 58 i = A 58 i) : cS h A' M a T := by
  have em : ∀ s n, n ≤ M → mcn (mst A' s) n = mcn (mst A s) n := fun s n hn => mst_c hA s n hn
  obtain ⟨h1, h2, h3, h4, ⟨V, Mv, hc⟩, h6, h7⟩ := hS
  refine ⟨h1, h2, fun s hs => ?_, h4, ⟨V, Mv, fun n hn => ?_⟩, h6, h7⟩
  · obtain ⟨q1, len, g, q2, q3, q4⟩ := h3 s hs
    rw [em s M (Nat.le_refl _)]
    refine ⟨q1, len, g, q2, q3, fun n hn hm => ?_⟩
    rw [em s n (by omega)]
    rw [nx_m hA s n hn] at hm
    exact q4 n hn hm
  · rw [hc n hn]
    simp only [hfl_c hA hn]
theorem dI_A {A A' : Nat → Nat → Int32} {M s : Nat} (hA : ∀ i, i < 10 * M → A' 58 i = A 58 i) (hd : dI A (mst A s) M) : dI A' (mst A' s) M := fun n hn hm => by
  rw [nx_m hA s n hn] at hm
  obtain ⟨d1, d2, d3⟩ := hd n hn hm
  rw [mst_c hA s n (by omega), hA (10 * n + 1) (by omega), hA (10 * n + 2) (by omega), hA (10 * n + 3) (by omega), hA (10 * n + 4) (by omega), hA (10 * n + 5) (by omega), hA (10 * n + 6) (by omega), hA (10 * n + 7) (by omega), hA (10 * n + 8) (by omega)]
  exact ⟨d1, d2, d3⟩
theorem i23 {k : Int32} : ¬ k ≤ 2 ↔ 3 ≤ k := by
  simp only [Int32.le_iff_toInt_le, kt2, kt3]
  omega
theorem i3l {k : Int32} : k < 3 ↔ k ≤ 2 := by
  simp only [Int32.le_iff_toInt_le, Int32.lt_iff_toInt_lt, kt2, kt3]
  omega
theorem vdR_v {s : tT} {x : Int32} (h : vdR s x) : x = -6 ∨ x = -7 ∨ x = -8 ∨ x = 0 := by
  rcases h with ⟨h, _⟩ | ⟨h, _⟩ | ⟨_, _, ⟨h, _⟩ | ⟨h, _⟩⟩
  · exact Or.inl h
  · exact Or.inr (Or.inl h)
  · exact Or.inr (Or.inr (Or.inl h))
  · exact Or.inr (Or.inr (Or.inr h))
/-- a happening is found by stream and number -/
theorem num_u {A : Nat → Nat → Int32} {M s n k : Nat} (hR : mR A M) (hM : M ≤ 400) (hs : s < 20) (hn : n < M) (h0 : A 58 (10 * n) = nI s) (h1 : A 58 (10 * n + 1) = nI k) (hk : k < 2 ^ 31) : mst A s n = true ∧ mcn (mst A s) n = k ∧ mix (mst A s) M k = n := by
  have hm : mst A s n = true := decide_eq_true h0
  obtain ⟨s', q1, q2, q3⟩ := hR.2.1 n hn
  have hss : s' = s := by rw [h0, nI_eq (by omega) (by omega)] at q2; exact q2.symm
  subst hss
  have hl := mcn_le (mst A s') n
  have hk2 : mcn (mst A s') n = k := by rw [h1, nI_eq hk (by omega)] at q3; exact q3.symm
  refine ⟨hm, hk2, ?_⟩
  rw [← hk2]
  exact mix_at hm hn
set_option maxHeartbeats 1000000 in
theorem cm_core {S S' : Nat → Int32} {A A' : Nat → Nat → Int32} {B B' : Nat → Nat → Int64} {M V D s : Nat} {h h' : xH} {a : Nat → Nat} {k f am ky so rf sn by' r r' rx : Int32} (hj : mJ S A M V D) (hX : cX1 h A M a) (hs : s < 20) (hT : asT k f am ky so (S 2)) (hrx : rx = if k < 3 then -1 else rf)
    (hc : cmQ h h' A (rowA A M (nI s) k f am ky so (S 2) rx by') M a (nI s) k f am ky so (S 2) rx sn r) (hm : mCm S A B M s (mcn (mst A s) M) k f am ky so rf sn by' r' S' A' B') : r = r' ∧ ∃ M' a', cX1 h' A' M' a' ∧ fK h h' ∧ (∀ n, n < M → a' n = a n) ∧ ((r < 0 ∧ M' = M) ∨ (r = nI M ∧ M' = M + 1)) := by
  obtain ⟨-, hjz, hdI⟩ := hX
  have hM := hj.1.2.1
  have hR := hj.1.2.2.2.1
  have hcM := mcn_le (mst A s) M
  have keep : ∀ {r0 : Int32}, r0 < 0 → kP h h' A M a → (∀ i, i < 10 * M → A' 58 i = A 58 i) → ∃ M' a', cX1 h' A' M' a' ∧ fK h h' ∧ (∀ n, n < M → a' n = a n) ∧ ((r0 < 0 ∧ M' = M) ∨ (r0 = nI M ∧ M' = M + 1)) := fun hr ⟨T', q1, q2, q3⟩ hA => ⟨M, a, ⟨⟨T', cS_A q1 hA⟩, q2, fun s hs => dI_A hA (hdI s hs)⟩, q3, fun _ _ => rfl, Or.inl ⟨hr, rfl⟩⟩
  have p14 : ((k ≤ 2 ∧ rx = -1) ∨ (¬ k ≤ 2 ∧ ∃ i, i < mcn (mst A s) M ∧ rx = nI i ∧ (k = 4 ∨ lF A (mst A s) M i 4 ≤ 2))) → ¬ mc5 S A M s (mcn (mst A s) M) k rf := by
    rintro (⟨q1, -⟩ | ⟨q1, i, q2, q3, q4⟩) ⟨z1, z2⟩
    · exact (i23.mpr z1) q1
    · rw [hrx, if_neg (fun y => q1 (i3l.mp y))] at q3
      subst q3
      rcases z2 with z2 | ⟨z2, n, z3, z4, z5, z6⟩
      · refine z2 ⟨by rw [nk0p (by omega)]; omega, ?_⟩
        rw [nxs1 (by omega), nI_leI (by omega) (by omega)]
        omega
      · obtain ⟨-, -, y3⟩ := num_u hR hM hs z3 z4 z5 (by omega)
        rcases q4 with q4 | q4
        · rw [q4] at z2; exact absurd z2 (by decide)
        · unfold lF at q4
          rw [y3] at q4
          rw [mof_n hj.2 (by omega)] at z6
          exact i23.mpr z6 q4
  have p14' : (3 ≤ k → ∃ m, m < mcn (mst A s) M ∧ rf = nI m) → (k = 3 → ∃ n, n < M ∧ A 58 (10 * n) = nI s ∧ A 58 (10 * n + 1) = rf ∧ mof S A n 2 < 3) → ((k ≤ 2 ∧ rx = -1) ∨ (¬ k ≤ 2 ∧ ∃ i, i < mcn (mst A s) M ∧ rx = nI i ∧ (k = 4 ∨ lF A (mst A s) M i 4 ≤ 2))) := fun z1 z2 => by
    by_cases hk : k ≤ 2
    · exact Or.inl ⟨hk, by rw [hrx, if_pos (i3l.mpr hk)]⟩
    · obtain ⟨m, y1, y2⟩ := z1 (i23.mp hk)
      refine Or.inr ⟨hk, m, y1, by rw [hrx, if_neg (fun y => hk (i3l.mp y))]; exact y2, ?_⟩
      rcases kd5 hT.1 with y | y | y
      · exact absurd y hk
      · obtain ⟨n, x1, x2, x3, x4⟩ := z2 y
        rw [y2] at x3
        obtain ⟨-, -, x5⟩ := num_u hR hM hs x1 x2 x3 (by omega)
        rw [mof_n hj.2 (by omega)] at x4
        refine Or.inr ?_
        unfold lF
        rw [x5]
        exact i3l.mp x4
      · exact Or.inl y
  rcases hc with ⟨-, b2, -⟩ | ⟨s0, b1, b2, -, hc⟩
  · exact absurd ⟨⟨s, hs, rfl⟩, hT⟩ b2
  have hss : s0 = s := by rw [nI_eq (by omega) (by omega)] at b2; exact b2.symm
  subst hss
  rcases hc with ⟨rfl, c2, c3, ck⟩ | ⟨c1, hc⟩
  · rcases hm with ⟨rfl, rfl, rfl, ⟨rfl, -, -⟩ | ⟨q, -⟩⟩ | ⟨q, -⟩
    · exact ⟨rfl, keep (by decide) ck (fun _ _ => rfl)⟩
    · exact absurd q (fun z => z.elim c2 c3)
    · exact absurd q (fun z => z.elim c2 c3)
  rcases hc with ⟨rfl, c2, ck⟩ | ⟨c2, hc⟩
  · rcases hm with ⟨rfl, rfl, rfl, ⟨rfl, q1, q2⟩ | ⟨-, ⟨rfl, -⟩ | ⟨-, q, -⟩⟩⟩ | ⟨-, q, -⟩
    · exact absurd c1 (fun z => z.elim q1 q2)
    · exact ⟨rfl, keep (by decide) ck (fun _ _ => rfl)⟩
    · exact absurd q c2
    · exact absurd q c2
  rcases hc with ⟨rfl, c3, ck⟩ | ⟨c3, w, z8, z9, hz, hv, hc⟩
  · rcases hm with ⟨rfl, rfl, rfl, ⟨rfl, q1, q2⟩ | ⟨-, ⟨-, q⟩ | ⟨rfl, -, -⟩⟩⟩ | ⟨-, -, q1, q2, -⟩
    · exact absurd c1 (fun z => z.elim q1 q2)
    · omega
    · exact ⟨rfl, keep (by decide) ck (fun _ _ => rfl)⟩
    · exact absurd (p14' q1 q2) c3
  rcases hm with ⟨-, -, -, ⟨-, q1, q2⟩ | ⟨-, ⟨-, q⟩ | ⟨-, -, q⟩⟩⟩ | ⟨-, -, -, -, A1, A2, l, w', hA1, hl, hG, hw, hm⟩
  · exact absurd c1 (fun z => z.elim q1 q2)
  · omega
  · exact absurd q (p14 c3)
  have hrow : rowA A M (nI s0) k f am ky so (S 2) rx by' = A1 := by
    unfold rowA
    rw [hA1, nI_clamp (by omega), hrx]
  rw [hrow] at hv hc
  have hAlo : ∀ i, i < 10 * M → A1 58 i = A 58 i := fun i hi => by rw [hA1, mrw_lo hi]
  have hat := mrw_at (A := A) (M := M) (x0 := nI s0) (x1 := nI (mcn (mst A s0) M)) (x2 := k) (x3 := f) (x4 := am) (x5 := ky) (x6 := so) (x7 := S 2) (x8 := if k < 3 then -1 else rf) (x9 := by')
  rw [← hA1] at hat
  have h0 := hat.1
  have hdn : dI A1 (mst A1 s0) (M + 1) := dI_nx hAlo h0 hat.2.1 (hdI s0 hs) (by rw [hat.2.2.1, hat.2.2.2.1, hat.2.2.2.2.1, hat.2.2.2.2.2.1, hat.2.2.2.2.2.2.1, hat.2.2.2.2.2.2.2.1]; exact hT) (by
    rw [hat.2.2.1, hat.2.2.2.2.2.2.2.2.1, ← hrx]
    exact fun z => c3.elim (fun y => absurd y.1 z) (fun y => by obtain ⟨i, y1, y2, -⟩ := y.2; exact ⟨i, y1, y2⟩))
  have hpq : ∀ n, n < M + 1 → mpg S A1 (nI s0) 999 n = mst A1 s0 n := fun n hn => by
    unfold mpg mst
    refine decide_eq_decide.mpr ⟨fun z => z.1, fun z => ⟨z, ?_⟩⟩
    rw [mof_n hj.2 (by omega)]
    by_cases he : n = M
    · subst he; rw [hat.2.2.2.2.2.2.2.1]; exact hj.1.2.2.1.2
    · rw [hAlo _ (by omega)]; exact hR.2.2 n (by omega)
  have hl2 : l = mcn (mst A s0) M + 1 := by rw [hl, mcn_congr hpq, nx_n hAlo h0]
  have hww : w = w' := by
    refine vd_model (p := mpg S A1 (nI s0) 999) (F := lF A1 (mst A1 s0) (M + 1)) (l := l) hj.2 (by rw [mP_n (by decide)]; exact hj.2) (by omega) rfl (lF_c hpq).symm hl (dI_c hpq hdn) hG hz ?_ hw
    rw [hl2]
    exact hv
  subst hww
  have e58 : A2 58 = A1 58 := mG_q hG 58 (by decide)
  have hvv := vdR_v hv
  rcases hc with ⟨g1, rfl, ck⟩ | ⟨g1, rfl, a', T', g3, g4, g5, g6⟩
  · rcases hm with ⟨q1, rfl, rfl, -⟩ | ⟨q1, -⟩
    · exact ⟨rfl, keep q1 ck (fun i hi => by rw [e58]; exact hAlo i hi)⟩
    · exfalso
      rcases hvv with q | q | q | q
      · rw [q] at q1; exact absurd q1 (by decide)
      · rw [q] at q1; exact absurd q1 (by decide)
      · rw [q] at q1; exact absurd q1 (by decide)
      · exact g1 q
  · rcases hm with ⟨q1, -⟩ | ⟨q1, rfl, rfl, -⟩
    · rw [g1] at q1; exact absurd q1 (by decide)
    · have eA : (mU A2 59 s0 (nI (mcn (mst A s0) M + 1))) 58 = A1 58 := by rw [mU_n (by decide)]; exact e58
      refine ⟨rfl, M + 1, a', ⟨⟨T', cS_A g3 (fun i _ => by rw [eA])⟩, g5, fun s hs' => dI_A (fun i _ => by rw [eA]) ?_⟩, g6, g4, Or.inr ⟨rfl, rfl⟩⟩
      by_cases he : s = s0
      · subst he; exact hdn
      · exact dI_oth hAlo h0 hs hs' he (hdI s hs')
