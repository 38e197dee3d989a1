/-! PAIRS: views, simple reads -/
theorem fY_rf {cs ts : List Nat} {h : xH} : fY cs ts h h := fun _ _ he _ _ => he
theorem cVw_new {h h1 : xH} {A A' : Nat → Nat → Int32} {V p : Nat} {gv : Nat → Option Nat} {va : Nat → Nat} {x1 x2 : Int32} (g2 : ∀ v, v < V → gv v = some (va v)) (g3 : ∀ v, v < V → h.2.2 (va v) = some (.inr (7, [.int (A 66 v), .int (A 67 v), .int (A 68 v)]))) (g4 : ∀ v w, v < V → w < V → va v = va w → v = w) (fr : ∀ q e, h.2.2 q = some e → q ≠ p) (w1 : h1.2.2 p = some (.inr (7, [.int x1, .int x2, .int 0]))) (w2 : h1.2.2 10 = some (.inl (4, 4, .inr (.inr (va_up gv V (some p)))))) (fo : ∀ v, v < V → h1.2.2 (va v) = h.2.2 (va v)) (hA : A' = mU (mU (mU A 66 V x1) 67 V x2) 68 V 0) : cVw h1 A' (V + 1) := by
  subst hA
  refine ⟨va_up gv V (some p), va_up va V p, w2, fun v hv => ?_, fun v hv => ?_, fun v w hv hw e => ?_⟩
  · by_cases z : v = V
    · subst z; rw [va_s, va_s]
    · rw [va_n z, va_n z]; exact g2 v (by omega)
  · by_cases z : v = V
    · subst z
      rw [va_s, mU_n (show (66 : Nat) ≠ 68 by decide), mU_n (show (66 : Nat) ≠ 67 by decide), mU_s, mU_n (show (67 : Nat) ≠ 68 by decide), mU_s, mU_s]
      exact w1
    · rw [va_n z, mU_n (show (66 : Nat) ≠ 68 by decide), mU_n (show (66 : Nat) ≠ 67 by decide), mU_q z, mU_n (show (67 : Nat) ≠ 68 by decide), mU_q z, mU_q z, mU_n (show (67 : Nat) ≠ 66 by decide), mU_n (show (68 : Nat) ≠ 67 by decide), mU_n (show (68 : Nat) ≠ 66 by decide), fo v (by omega)]
      exact g3 v (by omega)
  · by_cases z : v = V
    · subst z
      by_cases y : w = v
      · exact y.symm
      · rw [va_s, va_n y] at e
        exact absurd e.symm (fr _ _ (g3 w (by omega)))
    · by_cases y : w = V
      · subst y
        rw [va_s, va_n z] at e
        exact absurd e (fr _ _ (g3 v (by omega)))
      · rw [va_n z, va_n y] at e
        exact g4 v w (by omega) (by omega) e
set_option maxRecDepth 20000 in
theorem pr55 {X : Nat × (Nat → Int32)} {h : xH} {i : Nat} (hW : xWF h) (hl : lX i h) {x1 x2 : Int32} : okM X 55 [.ref 0, .int x1, .int x2] h (fun v h1 => ∃ r, v = some (.int r) ∧ lP X i 109 [.ref 57, .int x1, .int x2] h1 (fun v' => v' = some (.int r))) := by
  obtain ⟨S, A, B, M, V, D, a, hI, hm, hj, z1, z2, hH, hX⟩ := hl
  have hV := hj.1.2.2.2.2.1.2.1
  obtain ⟨gv, va, g1, g2, g3, g4⟩ := hX.2.2.2
  refine (okM_c (j := 55) (by decide) hH (rs_c0 (by simp)) hW ((ex55 (x1 := x1) (x2 := x2) hW hI).and (ix55 (x1 := x1) (x2 := x2) hW hI.1 hV g1))).mono ?_
  rintro v h1 ⟨⟨⟨hc, b1, b2⟩, hx⟩, hH1, ho1, k1, -⟩
  have hm1 := hm.lo ho1
  have mo : okM X 109 [.ref 57, .int x1, .int x2] h1 _ := okM_m (j := 109) (by decide) rfl hm1 hH1.1 (rs_m0 (by simp)) k1.1 ((sp109 (x1 := x1) (x2 := x2) k1.1 hm1 hj).and (me109 (x1 := x1) (x2 := x2) k1.1 hm1 hj))
  rcases hx with ⟨rfl, n1, rfl⟩ | ⟨rfl, n1, n2, n3, p, fr, w1, w2, f⟩
  · have hI1 : cI (2 * i) (S 2) (nI V) (nI D) h := hI
    refine ⟨-1, rfl, ⟨_, hm1.1⟩, mo.mono ?_⟩
    rintro v' h2 ⟨⟨-, ⟨rfl, m1, hm2⟩ | ⟨-, m1, m2, m3, -⟩⟩, ho2, k2, e1, e2⟩
    · exact ⟨rfl, lX_fin (hI1.up (by omega)) rfl (by omega) (by omega) hH1 ho2 k2 (by decide) e1 e2 hm2 hj (cX_mo hX hm1 ho2)⟩
    · exact absurd ⟨m1, m2, m3⟩ n1
  · refine ⟨nI V, rfl, ⟨_, hm1.1⟩, mo.mono ?_⟩
    rintro v' h2 ⟨⟨⟨V', hV', S1, A1, B1, M1, hs1, hs2, hs3⟩, ⟨-, m1, -⟩ | ⟨rfl, m1, -, -, hm2⟩⟩, ho2, k2, e1, e2⟩
    · exact absurd ⟨n1, n2, n3⟩ m1
    · have hV2 : V' = V + 1 := by
        rcases hV' with ⟨-, -, y⟩ | ⟨-, y, -⟩
        · exact absurd ⟨n1, n2, n3⟩ y
        · exact y
      subst hV2
      have hj2 := mJ_det hs1 hm2 hs2
      have hM1 : M1 = M := mJ_M hj2 (by rw [mP_n (by decide)]; exact hj.1.1) hj.1.2.1
      subst hM1
      have hI1 : cI (2 * i) (S 2) (nI (V + 1)) (nI D) h1 := by
        rcases hc with ⟨hv, _⟩ | ⟨_, hI1, _⟩
        · exfalso
          have : nI V = -1 := by injection hv with z; injection z
          exact nI_m1 (by omega) this
        · rw [nxa1] at hI1; exact hI1
      obtain ⟨x1', x2', x3, x4⟩ := hX
      have h0' := hI.1
      have fo : ∀ q e, h.2.2 q = some e → (∀ c fs, e = .inr (c, fs) → c ≠ 8) → (∀ t n k, e = .inl (t, n, k) → t ≠ 4) → h1.2.2 q = some e := fun q e he q1 q2 => f q e he (fun z => by
        subst z; rw [h0'] at he; cases he; exact q1 _ _ rfl rfl) (fun z => by
        subst z; rw [g1] at he; cases he; exact q2 _ _ _ rfl rfl)
      have fy : ∀ {cs ts : List Nat}, 8 ∉ cs → 4 ∉ ts → fY cs ts h h1 := fun hc8 ht4 p e he q1 q2 => fo p e he (fun c fs z hz => hc8 (by have := q1 c fs z; rw [hz] at this; exact this)) (fun t n k z hz => ht4 (by have := q2 t n k z; rw [hz] at this; exact this))
      have y1 : cX1 h1 A M1 a := cX1_fr x1' (fun q e he q1 q2 => fo q e he (fun c fs z => by have := q1 c fs z; omega) (fun t n k z => by have := q2 t n k z; omega))
      have y2 : cDg h1 A M1 D a := cDg_y x2' (fy (by decide) (by decide)) (Nat.le_refl _) (fun _ _ => rfl) (fun _ _ => rfl)
      have y3 : cSn h1 B := cSn_y x3 (fy (by decide) (by decide)) (fun _ _ => rfl)
      have y4 := cVw_new (h1 := h1) g2 g3 g4 fr w1 w2 (fun v hv => by
        rw [g3 v hv]
        exact fo _ _ (g3 v hv) (fun _ _ z => by cases z; decide) (fun _ _ _ z => by cases z)) rfl
      have eA : ∀ q, q ≠ 66 → q ≠ 67 → q ≠ 68 → mU (mU (mU A 66 V x1) 67 V x2) 68 V 0 q = A q := fun q q1 q2 q3 => by rw [mU_n q3, mU_n q2, mU_n q1]
      have yy : cX h1 (mU (mU (mU A 66 V x1) 67 V x2) 68 V 0) B M1 (V + 1) D a := ⟨cX1_A y1 (fun i _ => by rw [eA 58 (by decide) (by decide) (by decide)]), cDg_y y2 fY_rf (Nat.le_refl _) (fun _ _ => rfl) (fun q hq => eA q (by intro z; subst z; revert hq; decide) (by intro z; subst z; revert hq; decide) (by intro z; subst z; revert hq; decide)), y3, y4⟩
      exact ⟨rfl, lX_fin (hI1.up (by omega)) (mP_n (by decide)) (by omega) (by omega) hH1 ho2 k2 (by decide) e1 e2 hm2 hj2 (cX_mo2 yy hm1 ho2)⟩
theorem min_eq {M r q : Nat} (hM : M ≤ 400) (hr : r ≤ M) (hq : q ≤ 400) : (if nI M - nI r < nI q then nI M - nI r else nI q) = nI (if q < M - r then q else M - r) := by
  rw [nxss (by omega)]
  have e := nI_ltI (a := M - r) (b := q) (by omega) (by omega)
  by_cases h : M - r < q
  · rw [if_pos (e.mpr h), if_neg (by omega)]
  · rw [if_neg (fun z => h (e.mp z))]
    by_cases h2 : q < M - r
    · rw [if_pos h2]
    · rw [if_neg h2, show q = M - r by omega]
set_option maxRecDepth 20000 in
theorem pr56 {X : Nat × (Nat → Int32)} {h : xH} {i : Nat} (hW : xWF h) (hl : lX i h) {x1 x2 : Int32} : okM X 56 [.ref 0, .int x1, .int x2] h (fun v h1 => ∃ r, v = some (.int r) ∧ lP X i 111 [.ref 57, .int x1, .int x2] h1 (fun v' => v' = some (.int r))) := by
  obtain ⟨S, A, B, M, V, D, a, hI, hm, hj, z1, z2, hH, hX⟩ := hl
  have hV := hj.1.2.2.2.2.1.2.1
  have hM := hj.1.2.1
  obtain ⟨⟨T, hS⟩, -, -⟩ := hX.1
  obtain ⟨gv, va, g1, g2, g3, g4⟩ := hX.2.2.2
  refine (okM_c (j := 56) (by decide) hH (rs_c0 (by simp)) hW (ix56 (x1 := x1) (x2 := x2) (b := fun v => A 66 v) (w := fun v => A 67 v) (hr := fun v => A 68 v) hW hI.1 hV g1 g2 g3 hS.1.1)).mono ?_
  rintro v h1 ⟨hx, hH1, ho1, k1, al1⟩
  have s1 := al1 rfl
  have hI1 := hI.kp k1 rfl
  have hm1 := hm.lo ho1
  have mo : okM X 111 [.ref 57, .int x1, .int x2] h1 _ := okM_m (j := 111) (by decide) rfl hm1 hH1.1 (rs_m0 (by simp)) k1.1 ((sp111 (x1 := x1) (x2 := x2) k1.1 hm1 hj).and (me111 (x1 := x1) (x2 := x2) k1.1 hm1 hj))
  rcases hx with ⟨rfl, n1, rfl⟩ | ⟨d, hd, rfl, n2, rfl, w1, f⟩
  · refine ⟨-1, rfl, ⟨_, hm1.1⟩, mo.mono ?_⟩
    rintro v' h2 ⟨⟨-, ⟨rfl, m1, hm2⟩ | ⟨d, q, r, m1, m2, m3, m4, -⟩⟩, ho2, k2, e1, e2⟩
    · exact ⟨rfl, lX_fin (hI1.up (by omega)) rfl (by omega) (by omega) hH1 ho2 k2 (by decide) e1 e2 hm2 hj (cX_mo hX hm1 ho2)⟩
    · refine absurd ⟨⟨d, m1, m2⟩, ?_⟩ n1
      rw [m4, nk0p (by omega), show (400 : Int32) = nI 400 from rfl, nI_leI (by omega) (by decide)]
      omega
  · obtain ⟨r, hr, er⟩ := hj.1.2.2.2.2.1.2.2 d hd
    obtain ⟨q, hq, rfl⟩ := inK (K := 400) (by decide) n2.1 n2.2
    try dsimp only at w1
    rw [er, min_eq hM hr hq] at w1
    try dsimp only
    rw [er, min_eq hM hr hq]
    refine ⟨_, rfl, ⟨_, hm1.1⟩, mo.mono ?_⟩
    rintro v' h2 ⟨⟨⟨-, S3, A3, B3, M3, hs1, hs2, hs3⟩, ⟨-, m1, -⟩ | ⟨d', q', r', m1, m2, m3, m4, m5, m6, rfl, hm2⟩⟩, ho2, k2, e1, e2⟩
    · exact absurd ⟨⟨d, hd, rfl⟩, n2⟩ m1
    obtain rfl : d = d' := by rw [nI_eq (by omega) (by omega)] at m2; exact m2
    obtain rfl : q = q' := by rw [nI_eq (by omega) (by omega)] at m4; exact m4
    obtain rfl : r = r' := by rw [er, nI_eq (by omega) (by omega)] at m6; exact m6
    have hj2 := mJ_det hs1 hm2 hs2
    have hM1 : M3 = M := mJ_M hj2 hj.1.1 hj.1.2.1
    subst hM1
    obtain ⟨x1', x2', x3, x4⟩ := hX
    rw [nI_add] at w1
    have cd := g3 d hd
    have y1 : cX1 h1 A M3 a := cX1_fr x1' (fun p e he q1 _ => by
      rw [f p (fun z => ?_)]
      · exact he
      · rw [z, cd] at he
        injection he with he
        have := q1 _ _ he.symm
        omega)
    have y2 : cDg h1 A M3 D a := cDg_y x2' (fY_put fY_rf cd (by decide) f) (Nat.le_refl _) (fun _ _ => rfl) (fun _ _ => rfl)
    have y3 : cSn h1 B := cSn_y x3 (fY_put fY_rf cd (by decide) f) (fun _ _ => rfl)
    have y4 : cVw h1 (mU A 68 d (nI (r + (if q < M3 - r then q else M3 - r)))) V := by
      refine ⟨gv, va, ?_, g2, fun v hv => ?_, g4⟩
      · rw [f 10 (fun z => by rw [← z, g1] at cd; cases cd)]; exact g1
      · rw [mU_n (show (66 : Nat) ≠ 68 by decide), mU_n (show (67 : Nat) ≠ 68 by decide)]
        by_cases z : v = d
        · subst z; rw [mU_s]; exact w1
        · rw [mU_q z, f _ (fun y => z (g4 v d hv hd y))]
          exact g3 v hv
    have yy : cX h1 (mU A 68 d (nI (r + (if q < M3 - r then q else M3 - r)))) B M3 V D a := ⟨cX1_A y1 (fun i _ => by rw [mU_n (by decide)]), cDg_y y2 fY_rf (Nat.le_refl _) (fun _ _ => rfl) (fun q hq => mU_n (by intro z; subst z; revert hq; decide)), y3, y4⟩
    exact ⟨rfl, lX_fin (hI1.up (by omega)) rfl (by omega) (by omega) hH1 ho2 k2 (by decide) e1 e2 hm2 hj2 (cX_mo2 yy hm1 ho2)⟩
/-- one answer for both -/
theorem pr_rx {X : Nat × (Nat → Int32)} {j m : Nat} {vs ws : List Value} {h : xH} {i : Nat} {P : Option Value → Prop} {S : Nat → Int32} {A : Nat → Nat → Int32} {B : Nat → Nat → Int64} {M V D : Nat} {a : Nat → Nat} (hI : cI (2 * i) (S 2) (nI V) (nI D) h) (hm : mC S A B h) (hj : mJ S A M V D) (z1 : h.1 ≤ 79 + 1030 * i) (z2 : h.2.1 ≤ 9000 + 8300 * i) (hH : rH cRg h) (hX : cX h A B M V D a) (hW : xWF h)
    (b1 : j < 132) (b2 : m < 132) (b3 : xal j = false) (b4 : xal m = false) (b5 : rs cRg vs) (b6 : rs mRg ws) (b7 : cAr (xwf j) (xwt j) = true) (b8 : cAv (xwf j) (xmk j) = true) (b9 : cAv (xwf m) (xmk m) = true)
    (hc : okM X j vs h (fun v _ => (∃ r, v = some (.int r)) ∧ P v)) (hmo : ∀ v h1, P v → xWF h1 → mC S A B h1 → okM X m ws h1 (fun v' h' => v' = v ∧ ∃ S' A' B', mC S' A' B' h' ∧ mKp S A B S' A' B')) : okM X j vs h (fun v h1 => ∃ r, v = some (.int r) ∧ lP X i m ws h1 (fun v' => v' = some (.int r))) := by
  refine (pr_rd (P := fun v => (∃ r, v = some (.int r)) ∧ P v) (Q := fun v v' => v' = v) hI hm hj z1 z2 hH hX hW b1 b2 b3 b4 b5 b6 b7 b8 b9 hc (fun v h1 q => hmo v h1 q.2)).mono (fun v h1 q => ?_)
  obtain ⟨⟨⟨r, rfl⟩, -⟩, q⟩ := q
  exact ⟨r, rfl, q⟩
set_option maxRecDepth 20000 in
theorem pr51 {X : Nat × (Nat → Int32)} {h : xH} {i : Nat} (hW : xWF h) (hl : lX i h) {x1 : Int32} : okM X 51 [.ref 0, .int x1] h (fun v h1 => ∃ r, v = some (.int r) ∧ lP X i 103 [.ref 57, .int x1] h1 (fun v' => v' = some (.int r))) := by
  obtain ⟨S, A, B, M, V, D, a, hI, hm, hj, z1, z2, hH, hX⟩ := hl
  obtain ⟨⟨T, hS⟩, -, -⟩ := hX.1
  refine pr_rx (P := fun v => v = some (.int (sw4 x1 (nI M) (nI V) (nI D) (S 2) (-1)))) hI hm hj z1 z2 hH hX hW (by decide) (by decide) rfl rfl (rs_c0 (by simp)) (rs_m0 (by simp)) rfl rfl rfl ((ix51 hW hI.1 hS.1.1).mono (fun v h' q => ⟨⟨_, q.2⟩, q.2⟩)) ?_
  rintro v h1 rfl hW1 hm1
  refine (me103 hW1 hm1).mono ?_
  rintro v' h' ⟨q1, rfl⟩
  exact ⟨by rw [hj.1.1, hj.1.2.2.2.2.1.1, hj.1.2.2.2.2.2.1], S, A, B, q1, mKp.rf⟩
set_option maxRecDepth 20000 in
theorem pr52 {X : Nat × (Nat → Int32)} {h : xH} {i : Nat} (hW : xWF h) (hl : lX i h) {x1 : Int32} : okM X 52 [.ref 0, .int x1] h (fun v h1 => ∃ r, v = some (.int r) ∧ lP X i 104 [.ref 57, .int x1] h1 (fun v' => v' = some (.int r))) := by
  obtain ⟨S, A, B, M, V, D, a, hI, hm, hj, z1, z2, hH, hX⟩ := hl
  obtain ⟨⟨T, hS⟩, -, -⟩ := hX.1
  obtain ⟨-, ⟨gs, g1, g2⟩, g3, -⟩ := id hS
  have hc := ix52 (X := X) (x1 := x1) (N := fun s => mcn (mst A s) M) (T := fun s => T (s + 1)) hW hI.1 g1 g2 (fun s hs => (g3 s hs).1)
  refine pr_rx (P := fun v => (v = some (.int (-1)) ∧ ¬ ∃ d, d < 20 ∧ x1 = nI d) ∨ ∃ d, d < 20 ∧ x1 = nI d ∧ v = some (.int (nI (mcn (mst A d) M)))) hI hm hj z1 z2 hH hX hW (by decide) (by decide) rfl rfl (rs_c0 (by simp)) (rs_m0 (by simp)) rfl rfl rfl (hc.mono (fun v h' q => ⟨?_, q.2⟩)) ?_
  · rcases q.2 with ⟨z, -⟩ | ⟨d, -, -, z⟩ <;> exact ⟨_, z⟩
  intro v h1 q hW1 hm1
  refine (me104 hW1 hm1).mono ?_
  rintro v' h' ⟨q1, q2⟩
  refine ⟨?_, S, A, B, q1, mKp.rf⟩
  rw [s20] at q2
  rcases q with ⟨rfl, n1⟩ | ⟨d, n1, n2, rfl⟩ <;> rcases q2 with ⟨rfl, m1⟩ | ⟨e, m1, m2, rfl⟩
  · rfl
  · exact absurd ⟨e, m1, m2⟩ n1
  · exact absurd ⟨d, n1, n2⟩ m1
  · rw [n2, nI_eq (by omega) (by omega)] at m2
    subst m2
    rw [hj.1.2.2.2.1.1 d n1]
set_option maxRecDepth 20000 in
theorem pr57 {X : Nat × (Nat → Int32)} {h : xH} {i : Nat} (hW : xWF h) (hl : lX i h) {x1 x2 : Int32} : okM X 57 [.ref 0, .int x1, .int x2] h (fun v h1 => ∃ r, v = some (.int r) ∧ lP X i 112 [.ref 57, .int x1, .int x2] h1 (fun v' => v' = some (.int r))) := by
  obtain ⟨S, A, B, M, V, D, a, hI, hm, hj, z1, z2, hH, hX⟩ := hl
  obtain ⟨⟨T, hS⟩, -, -⟩ := hX.1
  have hV := hj.1.2.2.2.2.1.2.1
  obtain ⟨gv, va, g1, g2, g3, g4⟩ := hX.2.2.2
  have hc := ix57 (X := X) (x1 := x1) (x2 := x2) (b := fun v => A 66 v) (w := fun v => A 67 v) (hr := fun v => A 68 v) hW hI.1 hV g1 g2 g3 hS.1.1
  refine pr_rx (P := fun v => (v = some (.int (-1)) ∧ ¬ ∃ d, d < V ∧ x1 = nI d) ∨ ∃ d, d < V ∧ x1 = nI d ∧ v = some (.int (sw3 x2 (A 68 d) (rwsOf (A 66 d)) (nI M - A 68 d) (-1)))) hI hm hj z1 z2 hH hX hW (by decide) (by decide) rfl rfl (rs_c0 (by simp)) (rs_m0 (by simp)) rfl rfl rfl (hc.mono (fun v h' q => ⟨?_, q.2⟩)) ?_
  · rcases q.2 with ⟨z, -⟩ | ⟨d, -, -, z⟩ <;> exact ⟨_, z⟩
  intro v h1 q hW1 hm1
  refine (me112 hW1 hm1 hj).mono ?_
  rintro v' h' ⟨q1, q2⟩
  refine ⟨?_, S, A, B, q1, mKp.rf⟩
  rcases q with ⟨rfl, n1⟩ | ⟨d, n1, n2, rfl⟩ <;> rcases q2 with ⟨rfl, m1⟩ | ⟨e, m1, m2, rfl⟩
  · rfl
  · exact absurd ⟨e, m1, m2⟩ n1
  · exact absurd ⟨d, n1, n2⟩ m1
  · rw [n2, nI_eq (by omega) (by omega)] at m2
    subst m2
    rfl
theorem lat_eq {gn : Nat} {g : Int32} (h1 : g.toInt = (gn : Int) - 1) (h2 : gn ≤ 2 ^ 31) : (Int64.ofNat gn - 1).toInt32 = g := by
  rw [← Int32.toInt_inj, Int64.toInt_toInt32, Int64.toInt_sub, Int64.toInt_ofNat_of_lt (by omega), show (1 : Int64).toInt = 1 from rfl, Int.bmod_eq_of_le (m := 2 ^ 64) (by omega) (by omega), h1, Int.bmod_eq_of_le (by omega) (by omega)]
set_option maxRecDepth 20000 in
theorem pr66 {X : Nat × (Nat → Int32)} {h : xH} {i : Nat} (hW : xWF h) (hl : lX i h) {x1 : Int32} : okM X 66 [.ref 0, .int x1] h (fun v h1 => ∃ r, v = some (.int r) ∧ lP X i 126 [.ref 57, .int x1] h1 (fun v' => v' = some (.int r))) := by
  obtain ⟨S, A, B, M, V, D, a, hI, hm, hj, z1, z2, hH, hX⟩ := hl
  obtain ⟨⟨gs, g1, g2⟩, -⟩ := hX.2.2.1
  obtain ⟨gn, gr, cn, hs⟩ := cSn_fn hX.2.2.1
  have hc := ix66 (X := X) (x1 := x1) (gr := gr) (cn := cn) hW hI.1 g1 g2 (fun s q => (hs s q).1)
  refine pr_rx (P := fun v => (v = some (.int (-1)) ∧ ¬ ∃ d, d < 4 ∧ x1 = nI d) ∨ ∃ d, d < 4 ∧ x1 = nI d ∧ v = some (.int (gr d))) hI hm hj z1 z2 hH hX hW (by decide) (by decide) rfl rfl (rs_c0 (by simp)) (rs_m0 (by simp)) rfl rfl rfl (hc.mono (fun v h' q => ⟨?_, q.2⟩)) ?_
  · rcases q.2 with ⟨z, -⟩ | ⟨d, -, -, z⟩ <;> exact ⟨_, z⟩
  intro v h1 q hW1 hm1
  refine (me126 hW1 hm1).mono ?_
  rintro v' h' ⟨q1, q2⟩
  refine ⟨?_, S, A, B, q1, mKp.rf⟩
  have i4 : (0 ≤ x1 ∧ x1 ≤ 3) ↔ ∃ d, d < 4 ∧ x1 = nI d := by
    constructor
    · exact fun z => in19 (m := 3) (by decide) z
    · rintro ⟨d, a0, rfl⟩
      exact ⟨by rw [nk0p (by omega)]; omega, by rw [show (3 : Int32) = nI 3 from rfl, nI_leI (by omega) (by decide)]; omega⟩
  rw [i4] at q2
  rcases q with ⟨rfl, n1⟩ | ⟨d, n1, n2, rfl⟩ <;> rcases q2 with ⟨rfl, m1⟩ | ⟨e, m1, m2, rfl⟩
  · rfl
  · exact absurd ⟨e, m1, m2⟩ n1
  · exact absurd ⟨d, n1, n2⟩ m1
  · rw [n2, nI_eq (by omega) (by omega)] at m2
    subst m2
    obtain ⟨-, p2, p3⟩ := hs d n1
    rw [p3, lat_eq p2.1 p2.2.1]
set_option maxRecDepth 20000 in
theorem pr64 {X : Nat × (Nat → Int32)} {h : xH} {i : Nat} (hW : xWF h) (hl : lX i h) {x1 x2 : Int32} : okM X 64 [.ref 0, .int x1, .int x2] h (fun v h1 => ∃ r, v = some (.int r) ∧ lP X i 124 [.ref 57, .int x1, .int x2] h1 (fun v' => v' = some (.int r))) := by
  obtain ⟨S, A, B, M, V, D, a, hI, hm, hj, z1, z2, hH, hX⟩ := hl
  have hD := hj.1.2.2.2.2.2.2.1
  obtain ⟨⟨T, hS⟩, -, -⟩ := hX.1
  obtain ⟨Vv, Mv, hcell⟩ := hS.2.2.2.2.1
  obtain ⟨gd, da, tl, gl, lq, cv, lg, en, un, hd⟩ := hX.2.1
  have hc := ix64 (X := X) (x1 := x1) (x2 := x2) (how := fun d => A 70 d) (b0 := fun d => nI (1 + d)) (en := fun d => nI (en d)) (un := fun d => nI (un d)) (s0 := fun d k => A 74 (4 * d + k)) (am := fun d k => A 75 (4 * d + k)) (R := fun d k => A 76 (4 * d + k)) hW hI.1 hD hd.f1 hd.f2 hd.f3 hd.f4 (fun d q => (hd.f5 d q).2.2.2.1) hd.f6 (fun d k q1 q2 => by
    by_cases hk : k < en d
    · obtain ⟨x, y1, y2, y3⟩ := hd.f7 d k q1 hk
      exact Or.inr ⟨a x, hfl A x, Vv x, Mv x, y3, hcell x y1, y2⟩
    · have l4 := (hd.f5 d q1).2.2.2.1
      obtain ⟨y1, y2⟩ := hd.f8 d k q1 (by omega) (by omega)
      exact Or.inl ⟨y2 q2, y1⟩)
  refine pr_rx (P := fun v => (v = some (.int (-1)) ∧ ¬ ∃ d, d < D ∧ x1 = nI d) ∨ ∃ d, d < D ∧ x1 = nI d ∧ ((∃ k, k < lg d ∧ x2 = nI (10 + k) ∧ v = some (.int (A 76 (4 * d + k)))) ∨ ((¬ ∃ k, k < lg d ∧ x2 = nI (10 + k)) ∧ v = some (.int (sw4 x2 (A 70 d) (nI (lg d)) (nI (en d)) (nI (un d)) (-1)))))) hI hm hj z1 z2 hH hX hW (by decide) (by decide) rfl rfl (rs_c0 (by simp)) (rs_m0 (by simp)) rfl rfl rfl (hc.mono (fun v h' q => ⟨?_, q.2⟩)) ?_
  · rcases q.2 with ⟨z, -⟩ | ⟨d, -, -, ⟨k, -, -, z⟩ | ⟨-, z⟩⟩ <;> exact ⟨_, z⟩
  intro v h1 q hW1 hm1
  refine (me124 hW1 hm1 hj).mono ?_
  rintro v' h' ⟨q1, q2⟩
  refine ⟨?_, S, A, B, q1, mKp.rf⟩
  rcases q with ⟨rfl, n1⟩ | ⟨d, n1, n2, n3⟩ <;> rcases q2 with ⟨rfl, m1⟩ | ⟨e, l, m1, m2, m3, m4, m5⟩
  · rfl
  · exact absurd ⟨e, m1, m2⟩ n1
  · exact absurd ⟨d, n1, n2⟩ m1
  · rw [n2, nI_eq (by omega) (by omega)] at m2
    subst m2
    obtain ⟨b1, b2, b3, b4, b5, b6⟩ := hd.f5 d n1
    have hl : l = lg d := by rw [b1, nI_eq (by omega) (by omega)] at m3; exact m3.symm
    subst hl
    rcases n3 with ⟨k, k1, k2, rfl⟩ | ⟨k1, rfl⟩ <;> rcases m5 with ⟨k', k3, k4, rfl⟩ | ⟨k3, rfl⟩
    · rw [k2, nI_eq (by omega) (by omega)] at k4
      rw [show k' = k by omega]
    · exact absurd ⟨k, k1, k2⟩ k3
    · exact absurd ⟨k', k3, k4⟩ k1
    · rw [b1, b2, b3]
theorem cS_fn {h : xH} {A : Nat → Nat → Int32} {M : Nat} {a T : Nat → Nat} (hS : cS h A M a T) : ∃ (len : Nat → Nat) (g : Nat → Nat → Option Nat), ∀ s, s < 20 → h.2.2 (T (s + 1)) = some (.inl (7, len s, .inr (.inr (g s)))) ∧ mcn (mst A s) M ≤ len s ∧ ∀ n, n < M → mst A s n = true → g s (mcn (mst A s) n) = some (a n) := by
  have h1 : ∀ s, ∃ t : Nat × (Nat → Option Nat), s < 20 → h.2.2 (T (s + 1)) = some (.inl (7, t.1, .inr (.inr t.2))) ∧ mcn (mst A s) M ≤ t.1 ∧ ∀ n, n < M → mst A s n = true → t.2 (mcn (mst A s) n) = some (a n) := fun s => by
    by_cases hz : s < 20
    · obtain ⟨-, len, g, q⟩ := hS.2.2.1 s hz
      exact ⟨(len, g), fun _ => q⟩
    · exact ⟨(0, fun _ => none), fun z => absurd z hz⟩
  obtain ⟨f, hf⟩ := Classical.axiomOfChoice h1
  exact ⟨fun s => (f s).1, fun s => (f s).2, hf⟩
theorem mcn_up {p : Nat → Bool} : ∀ {m n : Nat}, m ≤ n → mcn p m ≤ mcn p n := fun {m n} h => by
  induction n with
  | zero => rw [Nat.le_zero.mp h]; exact Nat.le_refl _
  | succ n ih =>
    by_cases he : m = n + 1
    · rw [he]; exact Nat.le_refl _
    · refine Nat.le_trans (ih (by omega)) ?_
      show mcn p n ≤ if p n then mcn p n + 1 else mcn p n
      split <;> omega
theorem mcn_lq {p : Nat → Bool} {m n : Nat} (h : m < n) (hp : p m = true) : mcn p m < mcn p n := by
  have h1 : mcn p (m + 1) = mcn p m + 1 := by show (if p m then mcn p m + 1 else mcn p m) = _; rw [hp]; rfl
  have := mcn_up (p := p) (show m + 1 ≤ n from h)
  omega
set_option maxRecDepth 20000 in
theorem pr50 {X : Nat × (Nat → Int32)} {h : xH} {i : Nat} (hW : xWF h) (hl : lX i h) (hi : 2 * i + 2 ≤ 1026) {x1 x2 : Int32} : okM X 50 [.ref 0, .int x1, .int x2] h (fun v h1 => ∃ r, v = some (.int r) ∧ lP X i 102 [.ref 57, .int x1, .int x2] h1 (fun v' => v' = some (.int r))) := by
  obtain ⟨S, A, B, M, V, D, a, hI, hm, hj, z1, z2, hH, hX⟩ := hl
  have hM := hj.1.2.1
  obtain ⟨⟨T, hS⟩, -, -⟩ := hX.1
  obtain ⟨-, ⟨gs, g1, g2⟩, g3, -, ⟨Vv, Mv, hcell⟩, -⟩ := id hS
  obtain ⟨len, g, hg⟩ := cS_fn hS
  have hmR := hj.1.2.2.2.1.2.1
  have hc := ix50 (X := X) (x1 := x1) (x2 := x2) (N := fun s => mcn (mst A s) M) (T := fun s => T (s + 1)) (len := len) (g := g) (q := fun s k => a (mix (mst A s) M k)) (F := fun s k => hfl A (mix (mst A s) M k)) (Vv := fun s k => Vv (mix (mst A s) M k)) (Mv := fun s k => Mv (mix (mst A s) M k)) hW hI.1 g1 g2 (fun s hs => (g3 s hs).1) (fun s hs => ⟨(hg s hs).1, (hg s hs).2.1, by have := (cI_len hI (g3 s hs).1 (hg s hs).1).2; omega, Nat.le_trans (mcn_le _ _) hM⟩) (fun s k hs hk => by
    obtain ⟨q1, q2, q3⟩ := mix_in hk
    have := (hg s hs).2.2 _ q1 q2
    rw [q3] at this
    exact ⟨this, hcell _ q1⟩)
  refine pr_rx (P := fun v => (v = some (.int (-1)) ∧ ¬ ∃ d i, d < 20 ∧ i < mcn (mst A d) M ∧ x1 = nI d ∧ x2 = nI i) ∨ ∃ d i, d < 20 ∧ i < mcn (mst A d) M ∧ x1 = nI d ∧ x2 = nI i ∧ v = some (.int (hfl A (mix (mst A d) M i) 2))) hI hm hj z1 z2 hH hX hW (by decide) (by decide) rfl rfl (rs_c0 (by simp)) (rs_m0 (by simp)) rfl rfl rfl (hc.mono (fun v h' q => ⟨?_, q.2⟩)) ?_
  · rcases q.2 with ⟨z, -⟩ | ⟨d, _, -, -, -, -, z⟩ <;> exact ⟨_, z⟩
  intro v h1 q hW1 hm1
  refine mo_rd (Q := fun v' => v' = v) (by decide) rfl rfl hW1 hm1 ((sp102 hW1 hm1 hj.1.1 hM).mono ?_)
  intro v' h' q2
  have key : ∀ n, n < M → A 58 (10 * n) = x1 → A 58 (10 * n + 1) = x2 → ∃ d, d < 20 ∧ x1 = nI d ∧ x2 = nI (mcn (mst A d) n) ∧ mst A d n = true ∧ mcn (mst A d) n < mcn (mst A d) M := fun n hn e1 e2 => by
    obtain ⟨s, s1, s2, s3⟩ := hmR n hn
    have ht : mst A s n = true := decide_eq_true s2
    exact ⟨s, s1, by rw [← e1, s2], by rw [← e2, s3], ht, mcn_lq hn ht⟩
  rcases q with ⟨rfl, n1⟩ | ⟨d, k, n1, n2, n3, n4, rfl⟩
  · rcases q2 with ⟨n, m1, rfl, m2, m3⟩ | ⟨rfl, -⟩
    · obtain ⟨d, y1, y2, y3, y4, y5⟩ := key n m1 m2 m3
      exact absurd ⟨d, _, y1, y5, y2, y3⟩ n1
    · rfl
  · obtain ⟨y1, y2, y3⟩ := mix_in n2
    have hd2 := of_decide_eq_true y2
    rcases q2 with ⟨n, m1, rfl, m2, m3⟩ | ⟨rfl, m1⟩
    · obtain ⟨d', w1, w2, w3, w4, w5⟩ := key n m1 m2 m3
      have hb : mcn (mst A d) M ≤ 400 := Nat.le_trans (mcn_le _ _) hM
      have hb2 : mcn (mst A d') M ≤ 400 := Nat.le_trans (mcn_le _ _) hM
      rw [n3, nI_eq (by omega) (by omega)] at w2
      subst w2
      rw [n4, nI_eq (by omega) (by omega)] at w3
      have : mix (mst A d) M k = n := by rw [w3]; exact mix_at w4 m1
      show _ = some (Value.int (nI (mix (mst A d) M k)))
      rw [this]
    · obtain ⟨s, s1, s2, s3⟩ := hmR _ y1
      have : s = d := by rw [hd2, nI_eq (by omega) (by omega)] at s2; exact s2.symm
      subst this
      exact absurd ⟨by rw [hd2, n3], by rw [s3, y3, n4]⟩ (m1 _ y1)
/-- reads of which only the state matters -/
theorem pr_ri {X : Nat × (Nat → Int32)} {j m : Nat} {vs ws : List Value} {h : xH} {i : Nat} {P Q : Option Value → Prop} {S : Nat → Int32} {A : Nat → Nat → Int32} {B : Nat → Nat → Int64} {M V D : Nat} {a : Nat → Nat} (hI : cI (2 * i) (S 2) (nI V) (nI D) h) (hm : mC S A B h) (hj : mJ S A M V D) (z1 : h.1 ≤ 79 + 1030 * i) (z2 : h.2.1 ≤ 9000 + 8300 * i) (hH : rH cRg h) (hX : cX h A B M V D a) (hW : xWF h)
    (b1 : j < 132) (b2 : m < 132) (b3 : xal j = false) (b4 : xal m = false) (b5 : rs cRg vs) (b6 : rs mRg ws) (b7 : cAr (xwf j) (xwt j) = true) (b8 : cAv (xwf j) (xmk j) = true) (b9 : cAv (xwf m) (xmk m) = true)
    (hc : okM X j vs h (fun v _ => P v)) (hmo : ∀ h1, xWF h1 → mC S A B h1 → okM X m ws h1 (fun v' h' => Q v' ∧ ∃ S' A' B', mC S' A' B' h' ∧ mKp S A B S' A' B')) : okM X j vs h (fun v h1 => P v ∧ lP X i m ws h1 Q) := pr_rd (Q := fun _ v' => Q v') hI hm hj z1 z2 hH hX hW b1 b2 b3 b4 b5 b6 b7 b8 b9 hc (fun _ h1 _ => hmo h1)
set_option maxRecDepth 20000 in
theorem pr49 {X : Nat × (Nat → Int32)} {h : xH} {i : Nat} (hW : xWF h) (hl : lX i h) {x1 x2 : Int32} : okM X 49 [.ref 0, .int x1, .int x2] h (fun v h1 => (∃ r, v = some (.int r)) ∧ lP X i 101 [.ref 57, .int x1, .int x2] h1 (fun v' => ∃ r, v' = some (.int r))) := by
  obtain ⟨S, A, B, M, V, D, a, hI, hm, hj, z1, z2, hH, hX⟩ := hl
  exact pr_ri hI hm hj z1 z2 hH hX hW (by decide) (by decide) rfl rfl (rs_c0 (by simp)) (rs_m0 (by simp)) rfl rfl rfl (sp49 hW hI) (fun h1 hW1 hm1 => mk101 hW1 hm1 hj)
set_option maxRecDepth 20000 in
theorem pr53 {X : Nat × (Nat → Int32)} {h : xH} {i : Nat} (hW : xWF h) (hl : lX i h) {x1 x2 x3 x4 : Int32} : okM X 53 [.ref 0, .int x1, .int x2, .int x3, .int x4] h (fun v h1 => (∃ r, v = some (.long r)) ∧ lP X i 106 [.ref 57, .int x1, .int x2, .int x3, .int x4] h1 (fun v' => ∃ r, v' = some (.long r))) := by
  obtain ⟨S, A, B, M, V, D, a, hI, hm, hj, z1, z2, hH, hX⟩ := hl
  exact pr_ri hI hm hj z1 z2 hH hX hW (by decide) (by decide) rfl rfl (rs_c0 (by simp)) (rs_m0 (by simp)) rfl rfl rfl (sp53 hW hI) (fun h1 hW1 hm1 => mk106 hW1 hm1 hj)
set_option maxRecDepth 20000 in
theorem pr54 {X : Nat × (Nat → Int32)} {h : xH} {i : Nat} (hW : xWF h) (hl : lX i h) {x1 x2 x3 : Int32} : okM X 54 [.ref 0, .int x1, .int x2, .int x3] h (fun v h1 => (∃ r, v = some (.int r)) ∧ lP X i 107 [.ref 57, .int x1, .int x2, .int x3] h1 (fun v' => ∃ r, v' = some (.int r))) := by
  obtain ⟨S, A, B, M, V, D, a, hI, hm, hj, z1, z2, hH, hX⟩ := hl
  exact pr_ri hI hm hj z1 z2 hH hX hW (by decide) (by decide) rfl rfl (rs_c0 (by simp)) (rs_m0 (by simp)) rfl rfl rfl (sp54 hW hI) (fun h1 hW1 hm1 => mk107 hW1 hm1 hj)
set_option maxRecDepth 20000 in
theorem pr58 {X : Nat × (Nat → Int32)} {h : xH} {i : Nat} (hW : xWF h) (hl : lX i h) {x1 x2 : Int32} : okM X 58 [.ref 0, .int x1, .int x2] h (fun v h1 => (∃ r, v = some (.long r)) ∧ lP X i 115 [.ref 57, .int x1, .int x2] h1 (fun v' => ∃ r, v' = some (.long r))) := by
  obtain ⟨S, A, B, M, V, D, a, hI, hm, hj, z1, z2, hH, hX⟩ := hl
  exact pr_ri hI hm hj z1 z2 hH hX hW (by decide) (by decide) rfl rfl (rs_c0 (by simp)) (rs_m0 (by simp)) rfl rfl rfl (sp58 hW hI) (fun h1 hW1 hm1 => mk115 hW1 hm1 hj)
set_option maxRecDepth 20000 in
theorem pr59 {X : Nat × (Nat → Int32)} {h : xH} {i : Nat} (hW : xWF h) (hl : lX i h) {x1 x2 x3 : Int32} : okM X 59 [.ref 0, .int x1, .int x2, .int x3] h (fun v h1 => (∃ r, v = some (.int r)) ∧ lP X i 116 [.ref 57, .int x1, .int x2, .int x3] h1 (fun v' => ∃ r, v' = some (.int r))) := by
  obtain ⟨S, A, B, M, V, D, a, hI, hm, hj, z1, z2, hH, hX⟩ := hl
  exact pr_ri hI hm hj z1 z2 hH hX hW (by decide) (by decide) rfl rfl (rs_c0 (by simp)) (rs_m0 (by simp)) rfl rfl rfl (sp59 hW hI) (fun h1 hW1 hm1 => mk116 hW1 hm1 hj)
