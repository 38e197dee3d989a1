/-! PAIRS: in -/
theorem n64a {k : Nat} (hk : k < 2 ^ 31) : ((nI k).toInt64 + 1) = Int64.ofNat (k + 1) := by
  rw [← Int64.toInt_inj, Int64.toInt_add, Int32.toInt_toInt64, Int64.toInt_ofNat_of_lt (by omega), nI_toInt hk, show Int64.toInt 1 = 1 from rfl]
  rw [Int.bmod_eq_of_le (by omega) (by omega)]
  omega
theorem l64a {a b : Nat} (ha : a < 2 ^ 40) (hb : b < 2 ^ 40) : Int64.ofNat a < Int64.ofNat b ↔ a < b := by
  rw [Int64.lt_iff_toInt_lt, Int64.toInt_ofNat_of_lt (by omega), Int64.toInt_ofNat_of_lt (by omega)]; omega
theorem l64b {a b : Nat} (ha : a < 2 ^ 40) (hb : b < 2 ^ 40) : Int64.ofNat a ≤ Int64.ofNat b - Int64.ofNat 32 ↔ a + 32 ≤ b := by
  rw [Int64.le_iff_toInt_le, Int64.toInt_sub, Int64.toInt_ofNat_of_lt (by omega), Int64.toInt_ofNat_of_lt (by omega), Int64.toInt_ofNat_of_lt (by omega)]
  rw [Int.bmod_eq_of_le (by omega) (by omega)]; omega
theorem qn_n0 {k : Nat} (hk : k < 2 ^ 31) : ¬ nI k < 0 := by
  rw [Int32.lt_iff_toInt_lt, nI_toInt hk, show (0 : Int32).toInt = 0 from rfl]; omega
theorem nI_l32 {n : Nat} (hn : n < 2 ^ 31) : nI n < 32 ↔ n < 32 := by
  rw [Int32.lt_iff_toInt_lt, nI_toInt hn, kt32]; omega
theorem snR_m1 {gn : Nat} {g cn : Int32} {C : Nat → Int64} (h : snR gn g cn C) : g = -1 ↔ gn = 0 := by
  rw [← Int32.toInt_inj, h.1, ktm1]; omega
theorem snR_C {gn : Nat} {g cn : Int32} {C C' : Nat → Int64} (h : snR gn g cn C) (e : ∀ i, i < 32 → C' i = C i) : snR gn g cn C' :=
  ⟨h.1, h.2.1, fun i hi => by rw [e i hi]; exact h.2.2.1 i hi, fun k q1 q2 => by rw [e _ (Nat.mod_lt _ (by decide))]; exact h.2.2.2 k q1 q2⟩
theorem cSn_fn {h : xH} {B : Nat → Nat → Int64} (hs : cSn h B) : ∃ (gn : Nat → Nat) (g cn : Nat → Int32), ∀ s, s < 4 → h.2.2 (53 + s) = some (.inr (6, [.int (g s), .int (cn s)])) ∧ snR (gn s) (g s) (cn s) (fun i => B 78 (32 * s + i)) ∧ B 77 s = Int64.ofNat (gn s) := by
  have h1 : ∀ s, ∃ t : Nat × Int32 × Int32, s < 4 → h.2.2 (53 + s) = some (.inr (6, [.int t.2.1, .int t.2.2])) ∧ snR t.1 t.2.1 t.2.2 (fun i => B 78 (32 * s + i)) ∧ B 77 s = Int64.ofNat t.1 := fun s => by
    by_cases hz : s < 4
    · obtain ⟨gn, g, cn, q⟩ := hs.2 s hz
      exact ⟨(gn, g, cn), fun _ => q⟩
    · exact ⟨(0, 0, 0), fun z => absurd z hz⟩
  obtain ⟨f, hf⟩ := Classical.axiomOfChoice h1
  exact ⟨fun s => (f s).1, fun s => (f s).2.1, fun s => (f s).2.2, hf⟩
/-- frames by kinds -/
def fY (cs ts : List Nat) (h h' : xH) : Prop := ∀ p e, h.2.2 p = some e → (∀ c fs, e = .inr (c, fs) → c ∈ cs) → (∀ t n k, e = .inl (t, n, k) → t ∈ ts) → h'.2.2 p = some e
theorem fY.o {cs ts : List Nat} {h h' : xH} (f : fY cs ts h h') {p c : Nat} {fs : List Value} (he : h.2.2 p = some (.inr (c, fs))) (hc : c ∈ cs) : h'.2.2 p = some (.inr (c, fs)) := f p _ he (fun _ _ z => by cases z; exact hc) (fun _ _ _ z => by cases z)
theorem fY.a {cs ts : List Nat} {h h' : xH} (f : fY cs ts h h') {p t n : Nat} {k : xK} (he : h.2.2 p = some (.inl (t, n, k))) (hc : t ∈ ts) : h'.2.2 p = some (.inl (t, n, k)) := f p _ he (fun _ _ z => by cases z) (fun _ _ _ z => by cases z; exact hc)
theorem cDg_y {h h' : xH} {A A' : Nat → Nat → Int32} {M M' D : Nat} {a a' : Nat → Nat} (hd : cDg h A M D a) (f : fY [1, 4] [5, 8] h h') (hM : M ≤ M') (ha : ∀ x, x < M → a' x = a x) (hA : ∀ q, q ∈ [70, 71, 72, 73, 74, 75, 76] → A' q = A q) : cDg h' A' M' D a' := by
  obtain ⟨gd, da, tl, gl, lq, cv, lg, en, un, hd⟩ := hd
  refine ⟨gd, da, tl, gl, lq, cv, lg, en, un, f.a hd.f1 (by decide), hd.f2, fun d hq => ?_, fun d hq => f.a (hd.f4 d hq) (by decide), fun d hq => ?_, fun d k hq hk => ?_, fun d k hq hk => ?_, fun d k hq h1 h2 => ?_, hd.f9, hd.g1, hd.g2, fun d k hq hk => by rw [hA 75 (by decide)]; exact hd.g3 d k hq hk⟩
  · rw [hA 70 (by decide)]; exact f.o (hd.f3 d hq) (by decide)
  · rw [hA 71 (by decide), hA 72 (by decide), hA 73 (by decide)]; exact hd.f5 d hq
  · rw [hA 74 (by decide), hA 75 (by decide)]; exact ⟨(hd.f6 d k hq hk).1, f.o (hd.f6 d k hq hk).2 (by decide)⟩
  · obtain ⟨x, q1, q2, q3⟩ := hd.f7 d k hq hk
    rw [hA 76 (by decide)]
    exact ⟨x, by omega, q2, by rw [ha x q1]; exact q3⟩
  · rw [hA 76 (by decide)]; exact hd.f8 d k hq h1 h2
theorem cSn_y {h h' : xH} {B B' : Nat → Nat → Int64} (hd : cSn h B) (f : fY [6] [6] h h') (hB : ∀ q, q ∈ [77, 78] → B' q = B q) : cSn h' B' := by
  obtain ⟨⟨gs, h1, h2⟩, h3⟩ := hd
  refine ⟨⟨gs, f.a h1 (by decide), h2⟩, fun s hs => ?_⟩
  obtain ⟨gn, g, cn, q1, q2, q3⟩ := h3 s hs
  rw [hB 77 (by decide), hB 78 (by decide)]
  exact ⟨gn, g, cn, f.o q1 (by decide), q2, q3⟩
theorem cVw_y {h h' : xH} {A A' : Nat → Nat → Int32} {V : Nat} (hd : cVw h A V) (f : fY [7] [4] h h') (hA : ∀ q, q ∈ [66, 67, 68] → A' q = A q) : cVw h' A' V := by
  obtain ⟨gv, va, h1, h2, h3, h4⟩ := hd
  refine ⟨gv, va, f.a h1 (by decide), h2, fun v hv => ?_, h4⟩
  rw [hA 66 (by decide), hA 67 (by decide), hA 68 (by decide)]
  exact f.o (h3 v hv) (by decide)
theorem fX.y {h h' : xH} {cs ts : List Nat} (f : fX h h') (h1 : cs.all (fun c => c == 1 || c == 4 || c == 6 || c == 7) = true) (h2 : ts.all (fun c => c == 4 || c == 5 || c == 6 || c == 8) = true) : fY cs ts h h' := fun p e he q1 q2 => f p e he (fun c fs z => by
    have := List.all_eq_true.mp h1 c (q1 c fs z)
    simp only [Bool.or_eq_true, beq_iff_eq] at this
    omega) (fun t n k z => by
    have := List.all_eq_true.mp h2 t (q2 t n k z)
    simp only [Bool.or_eq_true, beq_iff_eq] at this
    omega)
/-- one object's cell is another -/
theorem fY_put {h h9 h' : xH} {cs ts : List Nat} {x c : Nat} {fs : List Value} (f9 : fY cs ts h h9) (hx : h9.2.2 x = some (.inr (c, fs))) (hc : c ∉ cs) (f : ∀ y, y ≠ x → h'.2.2 y = h9.2.2 y) : fY cs ts h h' := fun p e he q1 q2 => by
  have h1 := f9 p e he q1 q2
  rw [f p (fun z => ?_)]
  · exact h1
  · rw [z, hx] at h1
    injection h1 with h1
    exact hc (q1 c fs h1.symm)
/-- after a letter's command: rows, doings, views; one sender's cell is another -/
theorem cX_in {h h9 h' : xH} {S S' : Nat → Int32} {A A1 : Nat → Nat → Int32} {B B1 B2 : Nat → Nat → Int64} {M V D M' : Nat} {a a' : Nat → Nat} {r : Int32} {x : Nat} {fs : List Value} (hX : cX h A B M V D a) (q : cmR h h9 S A B M V D a r S' A1 B1 M' a') (hl : h9.2.2 x = some (.inr (6, fs))) (f : ∀ y, y ≠ x → h'.2.2 y = h9.2.2 y) (hn : cSn h' B2) : cX h' A1 B2 M' V D a' := by
  have hle := q.le
  obtain ⟨x1, x2, x3, x4⟩ := hX
  obtain ⟨q1, q2, q3, -, q5, q6, -⟩ := q
  have f9 := q2.fx x1
  have y1 : cX1 h' A1 M' a' := cX1_fr q1 (fun p e he z1 _ => by
    rw [f p (fun z => ?_)]
    · exact he
    · rw [z, hl] at he
      injection he with he
      have := z1 6 fs he.symm
      omega)
  exact ⟨y1, cDg_y x2 (fY_put (f9.y rfl rfl) hl (by decide) f) hle q3 (fun q hq => q5.2 q (mCf.in hq rfl)), hn, cVw_y x4 (fY_put (f9.y rfl rfl) hl (by decide) f) (fun q hq => q5.2 q (mCf.in hq rfl))⟩
theorem mV_sl {B : Nat → Nat → Int64} {s k : Nat} {x : Int64} : (fun i => mV B 78 (32 * s + k) x 78 (32 * s + i)) = vp_updL (fun i => B 78 (32 * s + i)) k x := by
  funext i
  by_cases he : i = k
  · subst he; rw [mV_s, pk_uLs]
  · rw [mV_q (by omega), pk_uLn he]
set_option maxRecDepth 20000 in
set_option maxHeartbeats 2000000 in
theorem pr65 {X : Nat × (Nat → Int32)} {h : xH} {i : Nat} (hW : xWF h) (hl : lX i h) (hi : 2 * i + 2 ≤ 1026) {x1 x2 x3 x4 x5 x6 : Int32} : okM X 65 [.ref 0, .int x1, .int x2, .int x3, .int x4, .int x5, .int x6] h (fun v h1 => ∃ r, v = some (.int r) ∧ lP X i 125 [.ref 57, .int x1, .int x2, .int x3, .int x4, .int x5, .int x6] h1 (fun v' => v' = some (.int r))) := by
  obtain ⟨S, A, B, M, V, D, a, hI, hm, hj, z1, z2, hH, hX⟩ := hl
  have hM := hj.1.2.1
  have htd : isD (S 2) := hj.1.2.2.1
  obtain ⟨⟨T, hS⟩, hjz, hdI⟩ := hX.1
  obtain ⟨⟨gs, g1, g2⟩, -⟩ := hX.2.2.1
  obtain ⟨gn, gr, cn, hs⟩ := cSn_fn hX.2.2.1
  have c1 := (sp65 (X := X) (x1 := x1) (x2 := x2) (x3 := x3) (x4 := x4) (x5 := x5) (x6 := x6) hW hI hi).and (ix65 (X := X) (x1 := x1) (x2 := x2) (x3 := x3) (x4 := x4) (x5 := x5) (x6 := x6) (gr := gr) (cn := cn) hW hI (by omega) hS hjz hM hdI g1 g2 (fun s q => (hs s q).1))
  refine (okM_c (j := 65) (by decide) hH (rs_c0 (by simp)) hW c1).mono ?_
  rintro v h1 ⟨⟨⟨-, hI1, b1, b2⟩, hx⟩, hH1, ho1, k1, -⟩
  have hm1 := hm.lo ho1
  have mo : okM X 125 [.ref 57, .int x1, .int x2, .int x3, .int x4, .int x5, .int x6] h1 _ := okM_m (j := 125) (by decide) rfl hm1 hH1.1 (rs_m0 (by simp)) k1.1 (me125 (x1 := x1) (x2 := x2) (x3 := x3) (x4 := x4) (x5 := x5) (x6 := x6) k1.1 hm1 hj)
  rcases hx with ⟨rfl, n1, rfl⟩ | ⟨s, hsl, rfl, n0, hx⟩
  · refine ⟨-2, rfl, ⟨_, hm1.1⟩, mo.mono ?_⟩
    rintro v' h2 ⟨⟨rfl, m1, hm2⟩ | ⟨q, k, m1, rfl, m2, rfl, -⟩, ho2, k2, e1, e2⟩
    · exact ⟨rfl, lX_fin hI1 rfl (by omega) (by omega) hH1 ho2 k2 (by decide) e1 e2 hm2 hj (cX_mo hX hm1 ho2)⟩
    · exact absurd ⟨⟨q, by omega, rfl⟩, qn_n0 m2⟩ n1
  obtain ⟨k, hk, rfl⟩ := nI_of n0
  obtain ⟨p1, p2, p3⟩ := hs s hsl
  have hgn := p2.2.1
  have hs3 : (0 : Int32) ≤ nI s ∧ nI s ≤ 3 := ⟨by rw [nk0p (by omega)]; omega, by rw [show (3 : Int32) = nI 3 from rfl, nI_leI (by omega) (by decide)]; omega⟩
  have hold := snR_old p2 hk
  have holdm : (0 < B 77 s ∧ ((nI k).toInt64 + 1) ≤ B 77 s - Int64.ofNat 32) ↔ k + 33 ≤ gn s := by
    rw [p3, n64a hk, l64b (by omega) (by omega), show (0 : Int64) = Int64.ofNat 0 from rfl, l64a (by omega) (by omega)]
    omega
  have hhas : ¬ k + 33 ≤ gn s → ((nI k ≤ gr s ∧ ¬ nI k ≤ gr s - 32 ∧ ¬ (((cn s).toUInt32 >>> ((gr s - nI k).toUInt32 &&& Int32.toUInt32 31)).toInt32 &&& 1 = 0)) ↔ B 78 (32 * s + k % 32) = ((nI k).toInt64 + 1)) := fun ho => by
    have h1 := snR_has p2 hk ho
    try dsimp only at h1
    rw [n64a hk, ← h1, hold, snR_le p2 hk]
    constructor
    · rintro ⟨u1, u2, u3⟩
      rw [snR_sub p2 u1, tb32_shr (by omega), Bool.not_eq_false] at u3
      exact ⟨u1, u3⟩
    · rintro ⟨u1, u3⟩
      refine ⟨u1, ho, ?_⟩
      rw [snR_sub p2 u1, tb32_shr (by omega), Bool.not_eq_false]
      exact u3
  rcases hx with ⟨rfl, c1, rfl⟩ | ⟨c1, hx⟩
  · refine ⟨-10, rfl, ⟨_, hm1.1⟩, mo.mono ?_⟩
    rintro v' h2 ⟨⟨-, m1, -⟩ | ⟨q, k', m1, m2, m3, m4, hy⟩, ho2, k2, e1, e2⟩
    · exact absurd ⟨hs3, n0⟩ m1
    obtain rfl : s = q := by rw [nI_eq (by omega) (by omega)] at m2; exact m2
    obtain rfl : k = k' := by rw [nI_eq (by omega) (by omega)] at m4; exact m4
    rcases hy with ⟨rfl, y1, hm2⟩ | ⟨y1, -⟩
    · exact ⟨rfl, lX_fin hI1 rfl (by omega) (by omega) hH1 ho2 k2 (by decide) e1 e2 hm2 hj (cX_mo hX hm1 ho2)⟩
    · exact absurd (holdm.mpr (hold.mp c1)) y1
  have ho : ¬ k + 33 ≤ gn s := fun z => c1 (hold.mpr z)
  rcases hx with ⟨rfl, c2, rfl⟩ | ⟨c2, r, q1, hb0, h9, rfl, hex, hfr, hS1, hj1, hb, hx⟩
  · refine ⟨-9, rfl, ⟨_, hm1.1⟩, mo.mono ?_⟩
    rintro v' h2 ⟨⟨-, m1, -⟩ | ⟨q, k', m1, m2, m3, m4, hy⟩, ho2, k2, e1, e2⟩
    · exact absurd ⟨hs3, n0⟩ m1
    obtain rfl : s = q := by rw [nI_eq (by omega) (by omega)] at m2; exact m2
    obtain rfl : k = k' := by rw [nI_eq (by omega) (by omega)] at m4; exact m4
    rcases hy with ⟨-, y1, -⟩ | ⟨y1, ⟨rfl, y2, hm2⟩ | ⟨y2, -⟩⟩
    · exact absurd (holdm.mp y1) ho
    · exact ⟨rfl, lX_fin hI1 rfl (by omega) (by omega) hH1 ho2 k2 (by decide) e1 e2 hm2 hj (cX_mo hX hm1 ho2)⟩
    · exact absurd ((hhas ho).mp c2) y2
  refine ⟨r, rfl, ⟨_, hm1.1⟩, mo.mono ?_⟩
  rintro v' h2 ⟨⟨-, m1, -⟩ | ⟨q, k', m1, m2, m3, m4, hy⟩, ho2, k2, e1, e2⟩
  · exact absurd ⟨hs3, n0⟩ m1
  obtain rfl : s = q := by rw [nI_eq (by omega) (by omega)] at m2; exact m2
  obtain rfl : k = k' := by rw [nI_eq (by omega) (by omega)] at m4; exact m4
  rcases hy with ⟨-, y1, -⟩ | ⟨y1, ⟨-, y2, -⟩ | ⟨y2, hy⟩⟩
  · exact absurd (holdm.mp y1) ho
  · exact absurd ((hhas ho).mpr y2) c2
  have hG : tld x3 1 x4 x5 x6 ↔ ((∃ s, s < 20 ∧ x3 = nI s) ∧ asT 1 1 x4 x5 x6 (S 2)) := tld_as (by decide) (fun z => absurd z (by decide)) htd
  rcases hy with ⟨rfl, y3, hm2⟩ | ⟨y3, r', S1, A1, B1, rfl, hC, hm2⟩
  · have key := cmd_eq (rf := -1) (r' := -2) (B' := B) hj hX.1 hG (by rfl) (cm_of hS1 hj1 (fK_ex hex) hb) (Or.inl ⟨rfl, rfl, rfl, rfl, y3⟩)
    obtain ⟨rfl, M', a', hR⟩ := key
    rcases hx with ⟨hr, rfl⟩ | ⟨hr, -⟩
    · exact ⟨rfl, lX_fin hI1 (hR.2.2.2.2.1.1 2 (by decide)) (by omega) (by omega) hH1 ho2 k2 (by decide) e1 e2 hm2 hR.2.2.2.1 (cX_cm hX hm1 ho2 hR)⟩
    · exact absurd (by decide) hr
  · have key := cmd_eq (rf := -1) (B' := B1) hj hX.1 hG (by rfl) (cm_of hS1 hj1 (fK_ex hex) hb) (Or.inr ⟨y3, hC⟩)
    obtain ⟨rfl, M', a', hR⟩ := key
    rcases hx with ⟨hr, rfl⟩ | ⟨hr, hu, f⟩
    · rcases hm2 with ⟨-, hm2⟩ | ⟨hr2, -⟩
      · exact ⟨rfl, lX_fin hI1 (hR.2.2.2.2.1.1 2 (by decide)) (by omega) (by omega) hH1 ho2 k2 (by decide) e1 e2 hm2 hR.2.2.2.1 (cX_cm hX hm1 ho2 hR)⟩
      · exact absurd hr hr2
    · rcases hm2 with ⟨hr2, -⟩ | ⟨-, hm2⟩
      · exact absurd hr2 hr
      · have f9 := hR.2.1.fx hX.1
        have eB7 := hR.2.2.2.2.2.1 77 (by decide)
        have eB8 := hR.2.2.2.2.2.1 78 (by decide)
        have hn : cSn h1 (mV (mV B1 78 (32 * s + k % 32) ((nI k).toInt64 + 1)) 77 s (if B1 77 s < ((nI k).toInt64 + 1) then ((nI k).toInt64 + 1) else B1 77 s)) := by
          refine ⟨⟨gs, by rw [f 12 (by omega)]; exact f9.a g1 (by decide), g2⟩, fun s' hs' => ?_⟩
          by_cases he : s' = s
          · subst he
            rw [mV_s, mV_n (show (78 : Nat) ≠ 77 by decide), mV_sl, eB7, eB8, n64a hk, p3]
            rcases hu with ⟨u1, u2⟩ | ⟨u1, cn', u2, u3⟩
            · rw [snR_le p2 hk] at u1
              rw [snR_sub p2 u1] at u2
              exact ⟨gn s', gr s', _, u2, snR_r1 p2 u1 ho, by rw [if_neg (by rw [l64a (by omega) (by omega)]; omega)]⟩
            · rw [snR_le p2 hk] at u1
              refine ⟨k + 1, nI k, cn', u2, snR_r2 p2 hk (by omega) ?_, by rw [if_pos ((l64a (by omega) (by omega)).mpr (by omega))]⟩
              rcases u3 with ⟨w1, w2, w3⟩ | ⟨w1, w2⟩
              · rw [snR_sub2 p2 hk (by omega) w1] at w2 w3
                have hg0 : gn s' ≠ 0 := fun z => w1 ((snR_m1 p2).mpr z)
                rw [nI_l32 (by omega)] at w2
                exact Or.inl ⟨fun z => w1 ((snR_m1 p2).mpr z), w2, w3⟩
              · refine Or.inr ⟨?_, w2⟩
                by_cases hz : gr s' = -1
                · exact Or.inl ((snR_m1 p2).mp hz)
                · rcases w1 with w1 | w1
                  · exact absurd w1 hz
                  · have hg0 : gn s' ≠ 0 := fun z => hz ((snR_m1 p2).mpr z)
                    rw [snR_sub2 p2 hk (by omega) hz, nI_l32 (by omega)] at w1
                    exact Or.inr (by omega)
          · obtain ⟨o1, o2, o3⟩ := hs s' hs'
            refine ⟨gn s', gr s', cn s', by rw [f (53 + s') (by omega)]; exact f9.o o1 (by decide), ?_, by rw [mV_q he, mV_n (show (77 : Nat) ≠ 78 by decide), eB7]; exact o3⟩
            refine snR_C o2 (fun i hi => ?_)
            rw [mV_n (show (78 : Nat) ≠ 77 by decide), mV_q (by omega), eB8]
        have yy := cX_in hX hR (f9.o p1 (by decide)) f hn
        exact ⟨rfl, lX_fin hI1 (hR.2.2.2.2.1.1 2 (by decide)) (by omega) (by omega) hH1 ho2 k2 (by decide) e1 e2 hm2 hR.2.2.2.1 (cX_mo2 yy hm1 ho2)⟩
