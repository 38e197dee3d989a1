/-! PAIRS: step -/
theorem brQ_at {h h' : xH} {A A' : Nat → Nat → Int32} {M p1 : Nat} {a : Nat → Nat} {x0 x4 x5 x6 x7 x8 x9 x10 x2 r : Int32} (hb : brQ h h' A A' M a p1 x0 x4 x5 x6 x7 x8 x9 x10 x2 r) (hr : ¬ r < 0) : ∃ T', cS h' A' (M + 1) (va_up a M p1) T' := by
  rcases hb with ⟨rfl, b2, _⟩ | ⟨s, b1, b2, b3, ⟨rfl, c2, c3, _⟩ | ⟨c1, ⟨rfl, d2, _⟩ | ⟨d1, ⟨rfl, f2, _⟩ | ⟨f1, w, z8, z9, f2, f3, ⟨g1, rfl, _⟩ | ⟨g1, g2, T', g3, g4, g5⟩⟩⟩⟩⟩
  · exact absurd (by decide) hr
  · exact absurd (by decide) hr
  · exact absurd (by decide) hr
  · exact absurd (by decide) hr
  · rcases vdR_v f3 with q | q | q | q
    · rw [q] at hr; exact absurd (by decide) hr
    · rw [q] at hr; exact absurd (by decide) hr
    · rw [q] at hr; exact absurd (by decide) hr
    · exact absurd q g1
  · exact ⟨T', g3⟩
theorem cS_a {h : xH} {A A' : Nat → Nat → Int32} {M : Nat} {a a' T T' : Nat → Nat} (h1 : cS h A M a T) (h2 : cS h A' M a' T') : ∀ n, n < M → a n = a' n := fun n hn => by
  obtain ⟨⟨e1, l, g, e2, -, e3⟩, -⟩ := h1
  obtain ⟨⟨f1, l', g', f2, -, f3⟩, -⟩ := h2
  have hT : T 0 = T' 0 := by
    have := e1.symm.trans f1
    injection this with z
    injection z with z
    injection z with _ z
    injection z with _ z
    injection z with z _
    injection z
  have hg : g = g' := by
    rw [← hT] at f2
    have := e2.symm.trans f2
    injection this with z
    injection z with z
    injection z with _ z
    injection z with _ z
    injection z with z
    injection z with z
  have := e3 n hn
  rw [hg, f3 n hn] at this
  injection this with z
  exact z.symm
theorem cX_mo2 {S : Nat → Int32} {A A' : Nat → Nat → Int32} {B B' : Nat → Nat → Int64} {M V D : Nat} {a : Nat → Nat} {h h' : xH} (hX : cX h A' B' M V D a) (hm : mC S A B h) (ho : rO mRg h h') : cX h' A' B' M V D a := by
  obtain ⟨x1, x2, x3, x4⟩ := hX
  have f := mC_fx hm ho
  exact ⟨cX1_mo2 hm ho x1, cDg_k x2 f (Nat.le_refl _) (fun _ _ => rfl) (fun _ _ => rfl), cSn_k x3 f (fun _ _ => rfl), cVw_k x4 f (fun _ _ => rfl)⟩
/-- after a step's command: rows, senders, views; the doing's cells may be others -/
theorem cX_st {h h9 h' : xH} {S S' : Nat → Int32} {A A1 A2 : Nat → Nat → Int32} {B B1 : Nat → Nat → Int64} {M V D M' : Nat} {a a' : Nat → Nat} {r : Int32} {l : List Nat} (hX : cX h A B M V D a) (q : cmR h h9 S A B M V D a r S' A1 B1 M' a') (hl : ∀ x, x ∈ l → ∃ c fs, h.2.2 x = some (.inr (c, fs)) ∧ (c = 1 ∨ c = 4)) (f : ∀ x, x ∉ l → h'.2.2 x = h9.2.2 x) (hd : cDg h' A2 M' D a') (eA : ∀ q, q ∈ [58, 66, 67, 68] → A2 q = A1 q) : cX h' A2 B1 M' V D a' := by
  obtain ⟨x1, x2, x3, x4⟩ := hX
  obtain ⟨q1, q2, q3, -, q5, q6, -⟩ := q
  have f9 := q2.fx x1
  have nl : ∀ x, x ∈ l → ∃ c fs, h9.2.2 x = some (.inr (c, fs)) ∧ (c = 1 ∨ c = 4) := fun x hx => by
    obtain ⟨c, fs, h1, h2⟩ := hl x hx
    exact ⟨c, fs, f9.o h1 (by omega), h2⟩
  have fo : ∀ p e, h9.2.2 p = some e → (∀ c fs, e = .inr (c, fs) → ¬ (c = 1 ∨ c = 4)) → h'.2.2 p = some e := fun p e he hc => by
    rw [f p (fun hx => ?_)]
    · exact he
    · obtain ⟨c, fs, h1, h2⟩ := nl p hx
      rw [h1] at he
      cases he
      exact hc _ _ rfl h2
  have y1 : cX1 h' A2 M' a' := cX1_A (cX1_fr q1 (fun p e he z1 _ => fo p e he (fun c fs z => by have := z1 c fs z; omega))) (fun i _ => by rw [eA 58 (by decide)])
  have y3 : cSn h' B1 := by
    obtain ⟨⟨gs, s1, s2⟩, s3⟩ := x3
    refine ⟨⟨gs, fo _ _ (f9.a s1 (by decide)) (fun _ _ z => by cases z), s2⟩, fun s hs => ?_⟩
    obtain ⟨gn, g, cn, p1, p2, p3⟩ := s3 s hs
    rw [q6 77 (by decide), q6 78 (by decide)]
    exact ⟨gn, g, cn, fo _ _ (f9.o p1 (by decide)) (fun _ _ z => by cases z; decide), p2, p3⟩
  have y4 : cVw h' A2 V := by
    obtain ⟨gv, va, s1, s2, s3, s4⟩ := x4
    refine ⟨gv, va, fo _ _ (f9.a s1 (by decide)) (fun _ _ z => by cases z), s2, fun v hv => ?_, s4⟩
    rw [eA 66 (by decide), eA 67 (by decide), eA 68 (by decide), q5.2 66 (by decide), q5.2 67 (by decide), q5.2 68 (by decide)]
    exact fo _ _ (f9.o (s3 v hv) (by decide)) (fun _ _ z => by cases z; decide)
  exact ⟨y1, hd, y3, y4⟩
theorem nI1 {d : Nat} : nI (1 + d) = 1 + nI d := by
  rw [show (1 : Int32) = nI 1 from rfl, nI_add]
set_option maxRecDepth 20000 in
set_option maxHeartbeats 2000000 in
theorem pr63 {X : Nat × (Nat → Int32)} {h : xH} {i : Nat} (hW : xWF h) (hl : lX i h) (hi : 2 * i + 2 ≤ 1026) {x1 : Int32} : okM X 63 [.ref 0, .int x1] h (fun v h1 => ∃ r, v = some (.int r) ∧ lP X i 121 [.ref 57, .int x1] h1 (fun v' => v' = some (.int r))) := by
  obtain ⟨S, A, B, M, V, D, a, hI, hm, hj, z1, z2, hH, hX⟩ := hl
  have hD := hj.1.2.2.2.2.2.2.1
  have hM := hj.1.2.1
  have htd : isD (S 2) := hj.1.2.2.1
  obtain ⟨⟨T, hS⟩, hjz, hdI⟩ := hX.1
  obtain ⟨gd, da, tl, gl, lq, cv, lg, en, un, hd⟩ := hX.2.1
  have mDd : ∀ d, d < D → (A 70 d = 1 → en d < lg d) ∧ (A 70 d = 2 → un d < en d) := fun d hdD => by
    obtain ⟨-, l, e, u, a1, a2, a3, c1, c2, c3, -, a7, a8, -⟩ := mD_at hj (show d < 10 by omega)
    obtain ⟨b1, b2, b3, b4, b5, b6⟩ := hd.f5 d hdD
    rw [b1, nI_eq (by omega) (by omega)] at a1
    rw [b2, nI_eq (by omega) (by omega)] at a2
    rw [b3, nI_eq (by omega) (by omega)] at a3
    subst a1; subst a2; subst a3
    exact ⟨fun z => (a7 z).1, a8⟩
  have c1 := (sp63 (X := X) (x1 := x1) hW hI hi).and (ix63 (X := X) (x1 := x1) (b0 := fun d => nI (1 + d)) (how := fun d => A 70 d) (s0 := fun d k => A 74 (4 * d + k)) (am := fun d k => A 75 (4 * d + k)) hW hI (by omega) hS hjz hM hdI hD rfl hd.f1 hd.f2 hd.f3 hd.f4 (fun d hq => ⟨(hd.f5 d hq).2.2.2.1, (hd.f5 d hq).2.2.2.2.1⟩) (fun d hq => (mDd d hq).1) (fun d hq => (mDd d hq).2) hd.f6 (fun d k hq hk => by obtain ⟨x, y1, -, y3⟩ := hd.f7 d k hq hk; exact ⟨x, y1, y3⟩))
  refine (okM_c (j := 63) (by decide) hH (rs_c0 (by simp)) hW c1).mono ?_
  rintro v h1 ⟨⟨⟨-, hI1, b1, b2⟩, hx⟩, hH1, ho1, k1, -⟩
  have hm1 := hm.lo ho1
  have mo : okM X 121 [.ref 57, .int x1] h1 _ := okM_m (j := 121) (by decide) rfl hm1 hH1.1 (rs_m0 (by simp)) k1.1 ((sp121 (x1 := x1) k1.1 hm1 hj).and (me121 (x1 := x1) k1.1 hm1 hj))
  rcases hx with ⟨rfl, n1, rfl⟩ | ⟨d, hdD, rfl, hx⟩
  · refine ⟨-2, rfl, ⟨_, hm1.1⟩, mo.mono ?_⟩
    rintro v' h2 ⟨⟨-, ⟨rfl, m1, hm2⟩ | ⟨d, m1, m2, -⟩⟩, ho2, k2, e1, e2⟩
    · exact ⟨rfl, lX_fin hI1 rfl (by omega) (by omega) hH1 ho2 k2 (by decide) e1 e2 hm2 hj (cX_mo hX hm1 ho2)⟩
    · exact absurd ⟨d, m1, m2⟩ n1
  have h5 := hd.f5 d hdD
  have hda := hd.f3 d hdD
  rcases hx with ⟨n1, r, p1, hb0, h9, rfl, hex, hfr, hS1, hj1, hb, hx⟩ | ⟨n1, x, hx1, hx2, r, p1, hb0, h9, rfl, hex, hfr, hS1, hj1, hb, hx⟩ | ⟨n1, n2, rfl, rfl⟩
  · try dsimp only at n1 hb
    have hel := (mDd d hdD).1 n1
    refine ⟨r, rfl, ⟨_, hm1.1⟩, mo.mono ?_⟩
    rintro v' h2 ⟨⟨⟨-, S3, A3, B3, M3, hs1, hs2, hs3⟩, ⟨-, m1, -⟩ | ⟨d', m1, m2, m3⟩⟩, ho2, k2, e1, e2⟩
    · exact absurd ⟨d, hdD, rfl⟩ m1
    have hdd : d' = d := by rw [nI_eq (by omega) (by omega)] at m2; exact m2.symm
    subst hdd
    rcases m3 with ⟨-, l, e, s, r', S1, A1, B1, m4, m5, m6, m7, m8, m9, rfl, hC, hF, hi3, hm2⟩ | ⟨m4, -⟩ | ⟨m4, -⟩
    · have hle : l = lg d' := by
        have := h5.1; rw [m4, nI_eq (by omega) (by omega)] at this; exact this
      have hee : e = en d' := by
        have := h5.2.1; rw [m6, nI_eq (by omega) (by omega)] at this; exact this
      subst hle; subst hee
      have key := cmd_eq (rf := -1) (G := (∃ s, s < 20 ∧ A 74 (4 * d' + en d') = nI s) ∧ asT 1 1 (A 75 (4 * d' + en d')) 9 (S 2) (S 2)) (B' := B1) hj hX.1 Iff.rfl (by rfl) (cm_of hS1 hj1 (fK_ex hex) hb) (Or.inr ⟨⟨⟨s, m8, m9⟩, by decide, by decide, hd.g3 d' (en d') hdD hel, by decide, htd, htd, fun z => absurd z (by decide), fun z => absurd z (by decide)⟩, s, m8, m9, by rw [nI1]; exact hC, hF, hi3⟩)
      obtain ⟨rfl, M', a', hR⟩ := key
      have hRj := hR.2.2.2.1
      have f9 := hR.2.1.fx hX.1
      rcases hx with ⟨hr, w1, f⟩ | ⟨hr, w1, w2, f⟩
      · rcases hm2 with ⟨-, hm2⟩ | ⟨hr2, -⟩
        · have hj2 := mJ_det hs1 hm2 hs2
          have hM3 : M3 = M' := mJ_M hj2 hRj.1.1 hRj.1.2.1
          subst hM3
          have fo : ∀ q e, h.2.2 q = some e → (∀ c fs, e = .inr (c, fs) → c = 1 ∨ c = 4) → (∀ t n k, e = .inl (t, n, k) → t = 5 ∨ t = 8) → q ≠ da d' → h1.2.2 q = some e := fun q e he q1 q2 hq => by
            rw [f q hq]; exact f9 q e he (fun c fs z => by have := q1 c fs z; omega) (fun t n k z => by have := q2 t n k z; omega)
          have y2 : cDg h1 (mU A1 70 d' (if en d' = 0 then 4 else 2)) M3 D a' := cDg_how hd hdD h5.2.2.2.2.2 w1 fo hR.le hR.2.2.1 (fun i _ => by rw [mU_i, hR.2.2.2.2.1.2 70 (by decide)]) (fun i hi => by
            rw [mU_n (by decide), hR.2.2.2.2.1.2 73 (by decide)]
            split
            · rename_i hz; subst hz; exact h5.2.2.1
            · rfl) (fun q hq => by
            have hq' := hq
            simp only [List.mem_cons, List.not_mem_nil, or_false] at hq'
            rw [mU_n (by omega), hR.2.2.2.2.1.2 q (mCf.in hq rfl)])
          have yy := cX_st (l := [da d']) (A2 := mU A1 70 d' (if en d' = 0 then 4 else 2)) hX hR (fun x hx => by
            simp only [List.mem_cons, List.not_mem_nil, or_false] at hx
            subst hx; exact ⟨1, _, hda, Or.inl rfl⟩) (fun x hx => f x (fun z => hx (by rw [z]; exact List.mem_cons_self))) y2 (fun q hq => by
            simp only [List.mem_cons, List.not_mem_nil, or_false] at hq
            rw [mU_n (by omega)])
          exact ⟨rfl, lX_fin hI1 (hR.2.2.2.2.1.1 2 (by decide)) (by omega) (by omega) hH1 ho2 k2 (by decide) e1 e2 hm2 hj2 (cX_mo2 yy hm1 ho2)⟩
        · exact absurd hr hr2
      · rcases hm2 with ⟨hr2, -⟩ | ⟨-, hm2⟩
        · exact absurd hr2 hr
        · obtain ⟨rfl, rfl, hM4⟩ : r = nI M ∧ M' = M + 1 ∧ M < 400 := by
            rcases hR.2.2.2.2.2.2 with ⟨z, -⟩ | z
            · exact absurd z hr
            · exact z
          obtain ⟨T9, hS9⟩ := brQ_at hb hr
          obtain ⟨T8, hS8⟩ := hR.1.1
          have hp1 : a' M = p1 := by
            rw [cS_a hS8 hS9 M (Nat.lt_succ_self M), va_s]
          have hj2 := mJ_det hs1 hm2 hs2
          have hM3 : M3 = M + 1 := mJ_M hj2 hRj.1.1 hRj.1.2.1
          subst hM3
          have hle := (hd.f6 d' (en d') hdD hel).2
          have fo : ∀ q e, h.2.2 q = some e → (∀ c fs, e = .inr (c, fs) → c = 1 ∨ c = 4) → (∀ t n k, e = .inl (t, n, k) → t = 5 ∨ t = 8) → q ≠ da d' → q ≠ lq d' (en d') → h1.2.2 q = some e := fun q e he q1 q2 hq hq2 => by
            rw [f q hq hq2]; exact f9 q e he (fun c fs z => by have := q1 c fs z; omega) (fun t n k z => by have := q2 t n k z; omega)
          have eA : ∀ q, q ≠ 70 → q ≠ 72 → q ≠ 76 → (if en d' + 1 = lg d' then mU (mU (mU A1 76 (4 * d' + en d') (nI M)) 72 d' (nI (en d' + 1))) 70 d' 3 else mU (mU A1 76 (4 * d' + en d') (nI M)) 72 d' (nI (en d' + 1))) q = A1 q := fun q q1 q2 q3 => by
            split
            · rw [mU_n q1, mU_n q2, mU_n q3]
            · rw [mU_n q2, mU_n q3]
          have y2 : cDg h1 (if en d' + 1 = lg d' then mU (mU (mU A1 76 (4 * d' + en d') (nI M)) 72 d' (nI (en d' + 1))) 70 d' 3 else mU (mU A1 76 (4 * d' + en d') (nI M)) 72 d' (nI (en d' + 1))) (M + 1) D a' := by
            refine cDg_go (w' := if en d' + 1 = lg d' then 3 else A 70 d') hd hdD hel w2 (by rw [hp1]; exact w1) fo hR.2.2.1 (fun i _ => ?_) (fun i _ => ?_) (fun i => ?_) (fun q hq => ?_)
            · split
              · rw [mU_i, mU_n (by decide), mU_n (by decide), hR.2.2.2.2.1.2 70 (by decide)]
              · rw [mU_n (by decide), mU_n (by decide), hR.2.2.2.2.1.2 70 (by decide)]
                split
                · rename_i hz; rw [hz]
                · rfl
            · split
              · rw [mU_n (by decide), mU_i, mU_n (by decide), hR.2.2.2.2.1.2 72 (by decide)]
              · rw [mU_i, mU_n (by decide), hR.2.2.2.2.1.2 72 (by decide)]
            · split
              · rw [mU_n (by decide), mU_n (by decide), mU_i, hR.2.2.2.2.1.2 76 (by decide)]
              · rw [mU_n (by decide), mU_i, hR.2.2.2.2.1.2 76 (by decide)]
            · have hq' := hq
              simp only [List.mem_cons, List.not_mem_nil, or_false] at hq'
              rw [eA q (by omega) (by omega) (by omega), hR.2.2.2.2.1.2 q (mCf.in hq rfl)]
          have yy := cX_st (l := [da d', lq d' (en d')]) hX hR (fun x hx => by
            simp only [List.mem_cons, List.not_mem_nil, or_false] at hx
            rcases hx with rfl | rfl
            · exact ⟨1, _, hda, Or.inl rfl⟩
            · exact ⟨4, _, hle, Or.inr rfl⟩) (fun x hx => by
            simp only [List.mem_cons, List.not_mem_nil, or_false, not_or] at hx
            exact f x hx.1 hx.2) y2 (fun q hq => by
            simp only [List.mem_cons, List.not_mem_nil, or_false] at hq
            exact eA q (by omega) (by omega) (by omega))
          exact ⟨rfl, lX_fin hI1 (hR.2.2.2.2.1.1 2 (by decide)) (by omega) (by omega) hH1 ho2 k2 (by decide) e1 e2 hm2 hj2 (cX_mo2 yy hm1 ho2)⟩
    · rw [n1] at m4; exact absurd m4 (by decide)
    · exact absurd n1 m4
  · try dsimp only at n1 hb hx2
    have hue := (mDd d hdD).2 n1
    refine ⟨r, rfl, ⟨_, hm1.1⟩, mo.mono ?_⟩
    rintro v' h2 ⟨⟨⟨-, S3, A3, B3, M3, hs1, hs2, hs3⟩, ⟨-, m1, -⟩ | ⟨d', m1, m2, m3⟩⟩, ho2, k2, e1, e2⟩
    · exact absurd ⟨d, hdD, rfl⟩ m1
    have hdd : d' = d := by rw [nI_eq (by omega) (by omega)] at m2; exact m2.symm
    subst hdd
    rcases m3 with ⟨m4, -⟩ | ⟨-, e, u, s, x', r', S1, A1, B1, m6, m5, m7, m8, m9, m10, m11, m12, rfl, hC, hF, hi3, hm2⟩ | ⟨-, m4, -⟩
    · rw [n1] at m4; exact absurd m4 (by decide)
    · have hee : e = en d' := by
        have := h5.2.1; rw [m6, nI_eq (by omega) (by omega)] at this; exact this
      have huu : u = un d' := by
        have := h5.2.2.1; rw [m7, nI_eq (by omega) (by omega)] at this; exact this
      subst hee; subst huu
      rw [show en d' - 1 - un d' = en d' - un d' - 1 by omega] at m10 m12
      obtain ⟨x2, y1, y2, y3⟩ := hd.f7 d' (en d' - un d' - 1) hdD (by omega)
      have hxx : x2 = x := by
        rw [y3] at hx2
        injection hx2 with z
        exact hS.2.2.2.2.2.1 x2 x y1 hx1 z
      subst hxx
      have hxx : x2 = x' := by
        rw [y2, nI_eq (by omega) (by omega)] at m12
        exact m12
      subst hxx
      have key := cmd_eq (rf := A 58 (10 * x2 + 1)) (G := (∃ s, s < 20 ∧ A 74 (4 * d' + (en d' - un d' - 1)) = nI s) ∧ asT 4 0 0 0 (S 2) (S 2)) (B' := B1) hj hX.1 Iff.rfl (by rw [if_neg (by decide)]; rfl) (cm_of hS1 hj1 (fK_ex hex) hb) (Or.inr ⟨⟨⟨s, m9, m10⟩, ((as4 (x0 := nI 0) htd).mp (by decide)).2⟩, s, m9, m10, by rw [nI1]; exact hC, hF, hi3⟩)
      obtain ⟨rfl, M', a', hR⟩ := key
      have hRj := hR.2.2.2.1
      have f9 := hR.2.1.fx hX.1
      rcases hx with ⟨hr, rfl⟩ | ⟨hr, w1, f⟩
      · rcases hm2 with ⟨-, hm2⟩ | ⟨hr2, -⟩
        · exact ⟨rfl, lX_fin hI1 (hR.2.2.2.2.1.1 2 (by decide)) (by omega) (by omega) hH1 ho2 k2 (by decide) e1 e2 hm2 hRj (cX_cm hX hm1 ho2 hR)⟩
        · exact absurd hr hr2
      · rcases hm2 with ⟨hr2, -⟩ | ⟨-, hm2⟩
        · exact absurd hr2 hr
        · have hj2 := mJ_det hs1 hm2 hs2
          have hM3 : M3 = M' := mJ_M hj2 hRj.1.1 hRj.1.2.1
          subst hM3
          have fo : ∀ q e, h.2.2 q = some e → (∀ c fs, e = .inr (c, fs) → c = 1 ∨ c = 4) → (∀ t n k, e = .inl (t, n, k) → t = 5 ∨ t = 8) → q ≠ da d' → h1.2.2 q = some e := fun q e he q1 q2 hq => by
            rw [f q hq]; exact f9 q e he (fun c fs z => by have := q1 c fs z; omega) (fun t n k z => by have := q2 t n k z; omega)
          have eA : ∀ q, q ≠ 70 → q ≠ 73 → (if un d' + 1 = en d' then mU (mU A1 73 d' (nI (un d' + 1))) 70 d' 4 else mU A1 73 d' (nI (un d' + 1))) q = A1 q := fun q q1 q2 => by
            split
            · rw [mU_n q1, mU_n q2]
            · rw [mU_n q2]
          have y2 : cDg h1 (if un d' + 1 = en d' then mU (mU A1 73 d' (nI (un d' + 1))) 70 d' 4 else mU A1 73 d' (nI (un d' + 1))) M3 D a' := by
            refine cDg_how (u' := un d' + 1) (w' := if un d' + 1 = en d' then 4 else A 70 d') hd hdD (by omega) w1 fo hR.le hR.2.2.1 (fun i _ => ?_) (fun i _ => ?_) (fun q hq => ?_)
            · split
              · rw [mU_i, mU_n (by decide), hR.2.2.2.2.1.2 70 (by decide)]
              · rw [mU_n (by decide), hR.2.2.2.2.1.2 70 (by decide)]
                split
                · rename_i hz; rw [hz]
                · rfl
            · split
              · rw [mU_n (by decide), mU_i, hR.2.2.2.2.1.2 73 (by decide)]
              · rw [mU_i, hR.2.2.2.2.1.2 73 (by decide)]
            · have hq' := hq
              simp only [List.mem_cons, List.not_mem_nil, or_false] at hq'
              rw [eA q (by omega) (by omega), hR.2.2.2.2.1.2 q (mCf.in hq rfl)]
          have yy := cX_st (l := [da d']) hX hR (fun x hx => by
            simp only [List.mem_cons, List.not_mem_nil, or_false] at hx
            subst hx; exact ⟨1, _, hda, Or.inl rfl⟩) (fun x hx => f x (fun z => hx (by rw [z]; exact List.mem_cons_self))) y2 (fun q hq => by
            simp only [List.mem_cons, List.not_mem_nil, or_false] at hq
            exact eA q (by omega) (by omega))
          exact ⟨rfl, lX_fin hI1 (hR.2.2.2.2.1.1 2 (by decide)) (by omega) (by omega) hH1 ho2 k2 (by decide) e1 e2 hm2 hj2 (cX_mo2 yy hm1 ho2)⟩
    · exact absurd n1 m4
  · refine ⟨-1, rfl, ⟨_, hm1.1⟩, mo.mono ?_⟩
    rintro v' h2 ⟨⟨-, ⟨-, m1, -⟩ | ⟨d', m1, m2, m3⟩⟩, ho2, k2, e1, e2⟩
    · exact absurd ⟨d, hdD, rfl⟩ m1
    have hdd : d' = d := by rw [nI_eq (by omega) (by omega)] at m2; exact m2.symm
    subst hdd
    rcases m3 with ⟨m4, -⟩ | ⟨m4, -⟩ | ⟨-, -, rfl, hm2⟩
    · exact absurd m4 n1
    · exact absurd m4 n2
    · exact ⟨rfl, lX_fin hI1 rfl (by omega) (by omega) hH1 ho2 k2 (by decide) e1 e2 hm2 hj (cX_mo hX hm1 ho2)⟩
