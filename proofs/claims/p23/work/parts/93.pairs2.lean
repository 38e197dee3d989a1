/-! PAIRS: leg, go, check, reads -/
theorem nI_72 {A : Nat → Nat → Int32} {M D d en : Nat} (hd : mD A M D d) (h : A 72 d = nI en) (he : en ≤ 4) (h0 : A 70 d = 0) : en = 0 := by
  obtain ⟨-, l, e, u, a1, a2, a3, b1, b2, b3, a6, -⟩ := hd
  obtain ⟨rfl, rfl⟩ := a6 h0
  rw [h, nI_eq (by omega) (by omega)] at a2
  exact a2
set_option maxRecDepth 20000 in
set_option maxHeartbeats 1000000 in
theorem pr61 {X : Nat × (Nat → Int32)} {h : xH} {i : Nat} (hW : xWF h) (hl : lX i h) (hi : 2 * i + 2 ≤ 1026) {x1 x2 x3 : Int32} : okM X 61 [.ref 0, .int x1, .int x2, .int x3] h (fun v h1 => ∃ r, v = some (.int r) ∧ lP X i 119 [.ref 57, .int x1, .int x2, .int x3] h1 (fun v' => v' = some (.int r))) := by
  obtain ⟨S, A, B, M, V, D, a, hI, hm, hj, z1, z2, hH, hX⟩ := hl
  have hD := hj.1.2.2.2.2.2.2.1
  obtain ⟨gd, da, tl, gl, lq, cv, lg, en, un, hd⟩ := hX.2.1
  refine (okM_c (j := 61) (by decide) hH (rs_c0 (by simp)) hW ((sp61 (x1 := x1) (x2 := x2) (x3 := x3) hW hI hi).and (ix61 (x1 := x1) (x2 := x2) (x3 := x3) hW hI.1 hD hd.f1 hd.f2 hd.f3 hd.f4 (fun d hq => (hd.f5 d hq).2.2.2.1)))).mono ?_
  rintro v h1 ⟨⟨⟨-, hI1, b1, b2⟩, hx⟩, hH1, ho1, k1, -⟩
  have hm1 := hm.lo ho1
  have mo : okM X 119 [.ref 57, .int x1, .int x2, .int x3] h1 _ := okM_m (j := 119) (by decide) rfl hm1 hH1.1 (rs_m0 (by simp)) k1.1 ((sp119 (x1 := x1) (x2 := x2) (x3 := x3) k1.1 hm1 hj).and (me119 (x1 := x1) (x2 := x2) (x3 := x3) k1.1 hm1 hj))
  rcases hx with ⟨rfl, n1, rfl⟩ | ⟨d, n1, rfl, n2, n3, n4, n5, rfl, p, fr, w1, w2, w3, f⟩
  · refine ⟨-1, rfl, ⟨_, hm1.1⟩, mo.mono ?_⟩
    rintro v' h2 ⟨⟨-, ⟨rfl, m1, hm2⟩ | ⟨d, l, m1, m2, m3, m4, m5, m6, m7, -⟩⟩, ho2, k2, e1, e2⟩
    · exact ⟨rfl, lX_fin hI1 rfl (by omega) (by omega) hH1 ho2 k2 (by decide) e1 e2 hm2 hj (cX_mo hX hm1 ho2)⟩
    · refine absurd ⟨d, m1, m2, m6, m7, m3, ?_⟩ n1
      have h5 := hd.f5 d m1
      have h51 := h5.1
      rw [m4, nI_eq (by omega) (by omega)] at h51
      omega
  · have h5 := hd.f5 d n1
    refine ⟨nI (lg d + 1), rfl, ⟨_, hm1.1⟩, mo.mono ?_⟩
    rintro v' h2 ⟨⟨⟨-, S1, A1, B1, M1, hs1, hs2, hs3⟩, ⟨-, m1, -⟩ | ⟨d', l, m1, m2, m3, m4, m5, m6, m7, rfl, hm2⟩⟩, ho2, k2, e1, e2⟩
    · exact absurd ⟨d, lg d, n1, rfl, n4, h5.1, n5, n2, n3⟩ m1
    · have hdd : d' = d := by rw [nI_eq (by omega) (by omega)] at m2; exact m2.symm
      subst hdd
      have hll : l = lg d' := by
        have h51 := h5.1
        rw [m4, nI_eq (by omega) (by omega)] at h51
        exact h51
      subst hll
      have hj2 := mJ_det hs1 hm2 hs2
      have hM1 : M1 = M := mJ_M hj2 hj.1.1 hj.1.2.1
      subst hM1
      have hen : en d' = 0 := nI_72 (mD_at hj (by omega)) h5.2.1 (by omega) n4
      obtain ⟨x1', x2', x3', x4'⟩ := hX
      have hda := hd.f3 d' n1
      have htl := hd.f4 d' n1
      have fo : ∀ q e, h.2.2 q = some e → (∀ c fs, e = .inr (c, fs) → c ≠ 1) → (∀ t n k, e = .inl (t, n, k) → t ≠ 8) → h1.2.2 q = some e := fun q e he q1 q2 => f q e he (fun z => by
        subst z; rw [hda] at he; cases he; exact q1 _ _ rfl rfl) (fun z => by
        subst z; rw [htl] at he; cases he; exact q2 _ _ _ rfl rfl)
      have y1 : cX1 h1 A M1 a := cX1_fr x1' (fun q e he q1 q2 => fo q e he (fun c fs z => by have := q1 c fs z; omega) (fun t n k z => by have := q2 t n k z; omega))
      have y2 := cDg_leg hD hd n1 n5 hen n3 fr w1 w2 w3 f
      have y3 : cSn h1 B := by
        obtain ⟨⟨gs, s1, s2⟩, s3⟩ := x3'
        refine ⟨⟨gs, fo _ _ s1 (fun _ _ z => by cases z) (fun _ _ _ z => by cases z; decide), s2⟩, fun s hs => ?_⟩
        obtain ⟨gn, g, cn, q1, q2, q3⟩ := s3 s hs
        exact ⟨gn, g, cn, fo _ _ q1 (fun _ _ z => by cases z; decide) (fun _ _ _ z => by cases z), q2, q3⟩
      have y4 : cVw h1 A V := by
        obtain ⟨gv, va, s1, s2, s3, s4⟩ := x4'
        exact ⟨gv, va, fo _ _ s1 (fun _ _ z => by cases z) (fun _ _ _ z => by cases z; decide), s2, fun v hv => fo _ _ (s3 v hv) (fun _ _ z => by cases z; decide) (fun _ _ _ z => by cases z), s4⟩
      have fm := mC_fx hm1 ho2
      have eA : ∀ q, q ≠ 74 → q ≠ 75 → q ≠ 71 → (mU (mU (mU A 74 (4 * d' + lg d') x2) 75 (4 * d' + lg d') x3) 71 d' (nI (lg d' + 1))) q = A q := fun q n1 n2 n3 => by rw [mU_n n3, mU_n n2, mU_n n1]
      refine ⟨rfl, lX_fin hI1 rfl (by omega) (by omega) hH1 ho2 k2 (by decide) e1 e2 hm2 hj2 ⟨cX1_A (cX1_mo hm1 ho2 y1) (fun i _ => by rw [eA 58 (by decide) (by decide) (by decide)]), cDg_k y2 fm (Nat.le_refl _) (fun _ _ => rfl) (fun _ _ => rfl), cSn_k y3 fm (fun _ _ => rfl), cVw_k y4 fm (fun q hq => ?_)⟩⟩
      simp only [List.mem_cons, List.not_mem_nil, or_false] at hq
      exact eA q (by omega) (by omega) (by omega)
set_option maxRecDepth 20000 in
set_option maxHeartbeats 1000000 in
theorem pr62 {X : Nat × (Nat → Int32)} {h : xH} {i : Nat} (hW : xWF h) (hl : lX i h) {x1 : Int32} : okM X 62 [.ref 0, .int x1] h (fun v h1 => ∃ r, v = some (.int r) ∧ lP X i 120 [.ref 57, .int x1] h1 (fun v' => v' = some (.int r))) := by
  obtain ⟨S, A, B, M, V, D, a, hI, hm, hj, z1, z2, hH, hX⟩ := hl
  have hD := hj.1.2.2.2.2.2.2.1
  obtain ⟨gd, da, tl, gl, lq, cv, lg, en, un, hd⟩ := hX.2.1
  refine (okM_c (j := 62) (by decide) hH (rs_c0 (by simp)) hW (ix62 (x1 := x1) hW hI.1 hD hd.f1 hd.f2 hd.f3 hd.f4 (fun d hq => (hd.f5 d hq).2.2.2.1))).mono ?_
  rintro v h1 ⟨hx, hH1, ho1, k1, al1⟩
  have s1 := al1 rfl
  have hI1 := hI.kp k1 (by decide)
  have hm1 := hm.lo ho1
  have mo : okM X 120 [.ref 57, .int x1] h1 _ := okM_m (j := 120) (by decide) rfl hm1 hH1.1 (rs_m0 (by simp)) k1.1 ((sp120 (x1 := x1) k1.1 hm1 hj).and (me120 (x1 := x1) k1.1 hm1 hj))
  rcases hx with ⟨rfl, n1, rfl⟩ | ⟨d, n1, rfl, n2, n3, rfl, w1, f⟩
  · refine ⟨0, rfl, ⟨_, hm1.1⟩, mo.mono ?_⟩
    rintro v' h2 ⟨⟨-, ⟨rfl, m1, hm2⟩ | ⟨d, m1, m2, m3, m4, -⟩⟩, ho2, k2, e1, e2⟩
    · exact ⟨rfl, lX_fin (hI1.up (by omega)) rfl (by omega) (by omega) hH1 ho2 k2 (by decide) e1 e2 hm2 hj (cX_mo hX hm1 ho2)⟩
    · refine absurd ⟨d, m1, m2, m3, fun z => m4 ?_⟩ n1
      rw [(hd.f5 d m1).1, z]; rfl
  · have h5 := hd.f5 d n1
    refine ⟨1, rfl, ⟨_, hm1.1⟩, mo.mono ?_⟩
    rintro v' h2 ⟨⟨⟨-, S1, A1, B1, M1, hs1, hs2, hs3⟩, ⟨-, m1, -⟩ | ⟨d', m1, m2, m3, m4, rfl, hm2⟩⟩, ho2, k2, e1, e2⟩
    · refine absurd ⟨d, n1, rfl, n2, fun z => n3 ?_⟩ m1
      have h51 := h5.1
      rw [z, show (0 : Int32) = nI 0 from rfl, nI_eq (by omega) (by omega)] at h51
      exact h51.symm
    · have hdd : d' = d := by rw [nI_eq (by omega) (by omega)] at m2; exact m2.symm
      subst hdd
      have hj2 := mJ_det hs1 hm2 hs2
      have hM1 : M1 = M := mJ_M hj2 hj.1.1 hj.1.2.1
      subst hM1
      obtain ⟨x1', x2', x3', x4'⟩ := hX
      have hda := hd.f3 d' n1
      have fo : ∀ q e, h.2.2 q = some e → q ≠ da d' → h1.2.2 q = some e := fun q e he hq => by rw [f q hq]; exact he
      have fo2 : ∀ q e, h.2.2 q = some e → (∀ c fs, e = .inr (c, fs) → c ≠ 1) → h1.2.2 q = some e := fun q e he q1 => fo q e he (fun z => by
        subst z; rw [hda] at he; cases he; exact q1 _ _ rfl rfl)
      have y1 : cX1 h1 A M1 a := cX1_fr x1' (fun q e he q1 q2 => fo2 q e he (fun c fs z => by have := q1 c fs z; omega))
      have y2 : cDg h1 (mU A 70 d' 1) M1 D a := cDg_how hd n1 h5.2.2.2.2.2 w1 (fun q e he _ _ hq => fo q e he hq) (Nat.le_refl _) (fun _ _ => rfl) (fun i _ => mU_i) (fun i hi => by
        rw [mU_n (by decide)]
        split
        · rename_i hz; subst hz; exact h5.2.2.1
        · rfl) (fun q hq => mU_n (by revert hq; simp only [List.mem_cons, List.not_mem_nil, or_false]; omega))
      have y3 : cSn h1 B := by
        obtain ⟨⟨gs, s1, s2⟩, s3⟩ := x3'
        refine ⟨⟨gs, fo2 _ _ s1 (fun _ _ z => by cases z), s2⟩, fun s hs => ?_⟩
        obtain ⟨gn, g, cn, q1, q2, q3⟩ := s3 s hs
        exact ⟨gn, g, cn, fo2 _ _ q1 (fun _ _ z => by cases z; decide), q2, q3⟩
      have y4 : cVw h1 A V := by
        obtain ⟨gv, va, s1, s2, s3, s4⟩ := x4'
        exact ⟨gv, va, fo2 _ _ s1 (fun _ _ z => by cases z), s2, fun v hv => fo2 _ _ (s3 v hv) (fun _ _ z => by cases z; decide), s4⟩
      have fm := mC_fx hm1 ho2
      refine ⟨rfl, lX_fin (hI1.up (by omega)) rfl (by omega) (by omega) hH1 ho2 k2 (by decide) e1 e2 hm2 hj2 ⟨cX1_A (cX1_mo hm1 ho2 y1) (fun i _ => by rw [mU_n (by decide)]), cDg_k y2 fm (Nat.le_refl _) (fun _ _ => rfl) (fun _ _ => rfl), cSn_k y3 fm (fun _ _ => rfl), cVw_k y4 fm (fun q hq => mU_n ?_)⟩⟩
      simp only [List.mem_cons, List.not_mem_nil, or_false] at hq
      omega
set_option maxRecDepth 20000 in
theorem pr67 {X : Nat × (Nat → Int32)} {h : xH} {i : Nat} (hW : xWF h) (hl : lX i h) (hi : 2 * i + 2 ≤ 1026) {x1 x2 x3 : Int32} : okM X 67 [.ref 0, .int x1, .int x2, .int x3] h (fun v h1 => ∃ r, v = some (.int r) ∧ lP X i 129 [.ref 57, .int x1, .int x2, .int x3] h1 (fun v' => ∃ r', v' = some (.int r'))) := by
  obtain ⟨S, A, B, M, V, D, a, hI, hm, hj, z1, z2, hH, hX⟩ := hl
  obtain ⟨⟨T, hS⟩, hjz, hd⟩ := hX.1
  refine (okM_c (j := 67) (by decide) hH (rs_c0 (by simp)) hW ((sp67 (x1 := x1) (x2 := x2) (x3 := x3) hW hI hi).and (ix67 (x1 := x1) (x2 := x2) (x3 := x3) hW hI (by omega) hS hjz hj.1.2.1))).mono ?_
  rintro v h1 ⟨⟨⟨-, hI1, b1, b2⟩, ⟨r, rfl⟩, T', q1, q2, q3⟩, hH1, ho1, k1, -⟩
  have hm1 := hm.lo ho1
  refine ⟨r, rfl, ⟨_, hm1.1⟩, ?_⟩
  refine (okM_m (j := 129) (by decide) rfl hm1 hH1.1 (rs_m0 (by simp)) k1.1 (mk129 k1.1 hm1 hj)).mono ?_
  rintro v' h2 ⟨⟨hv, S', A', B', hm2, hk⟩, ho2, k2, e1, e2⟩
  obtain ⟨x1', x2', x3', x4'⟩ := hX
  have f := q3.fx
  have hX1 : cX h1 A B M V D a := ⟨⟨⟨T', q1⟩, q2, hd⟩, cDg_k x2' f (Nat.le_refl _) (fun _ _ => rfl) (fun _ _ => rfl), cSn_k x3' f (fun _ _ => rfl), cVw_k x4' f (fun _ _ => rfl)⟩
  exact ⟨hv, lX_fin hI1 (hk.1 2 (by decide)) (by omega) (by omega) hH1 ho2 k2 (by decide) e1 e2 hm2 (mJ_kp hj hk) (cX_kp hX1 hm1 ho2 hk)⟩
/-- reads of the class -/
def cAr (w t : List Nat) : Bool := w.all (fun k => Nat.beq k 211 || Nat.beq k 212) && t.isEmpty
theorem cX_kr {w t m : List Nat} {h h1 : xH} {A : Nat → Nat → Int32} {B : Nat → Nat → Int64} {M V D : Nat} {a : Nat → Nat} (hX : cX h A B M V D a) (hW : xWF h) (k : xkq w t m h h1) (hA : cAr w t = true) : cX h1 A B M V D a := by
  simp only [cAr, Bool.and_eq_true] at hA
  obtain ⟨hw, ht⟩ := hA
  have ht : t = [] := List.isEmpty_iff.mp ht
  subst ht
  have hAm : cAm w [] = true := by
    unfold cAm
    rw [Bool.and_eq_true]
    refine ⟨List.all_eq_true.mpr (fun x hx => ?_), rfl⟩
    have := List.all_eq_true.mp hw x hx
    simp only [Bool.or_eq_true] at this ⊢
    exact Or.inl this
  have hn : ∀ k, k ≠ 211 → k ≠ 212 → xany w k = false := fun k n1 n2 => by
    cases hz : xany w k with
    | false => rfl
    | true =>
      exfalso
      obtain ⟨x, hx, he2⟩ := List.any_eq_true.mp hz
      have hx2 := List.all_eq_true.mp hw x hx
      simp only [Bool.or_eq_true] at hx2
      have e := Nat.eq_of_beq_eq_true he2
      rcases hx2 with y | y
      · exact n1 (e.symm.trans (Nat.eq_of_beq_eq_true y))
      · exact n2 (e.symm.trans (Nat.eq_of_beq_eq_true y))
  have ar : ∀ {p c n g}, h.2.2 p = some (.inl (c, n, g)) → h1.2.2 p = some (.inl (c, n, g)) := fun he => by
    obtain ⟨c', q1, q2⟩ := k.2.1.2.2 _ _ he
    rw [q2 rfl] at q1
    exact q1
  obtain ⟨⟨⟨T, hS⟩, ⟨⟨a1, a2, a3, a4, a5, a6, a7, s8, j6⟩, j7, g8, g9, j8, j9, jz⟩, hd⟩, x2, x3, x4⟩ := hX
  have f := (fW_kq k hW hAm).fx
  exact ⟨⟨⟨T, cS_kq hS k hAm⟩, ⟨⟨a1, a2, a3, a4, a5, a6, a7, s8, k.2.1.objn j6 9 rfl (by simp [List.range, List.range.loop, hn])⟩, k.2.1.objn j7 2 rfl (by simp [List.range, List.range.loop, hn]), g8, g9, ar j8, ar j9, jz⟩, hd⟩, cDg_k x2 f (Nat.le_refl _) (fun _ _ => rfl) (fun _ _ => rfl), cSn_k x3 f (fun _ _ => rfl), cVw_k x4 f (fun _ _ => rfl)⟩
set_option maxRecDepth 20000 in
theorem pr_rd {X : Nat × (Nat → Int32)} {j m : Nat} {vs ws : List Value} {h : xH} {i : Nat} {P : Option Value → Prop} {Q : Option Value → Option Value → Prop} {S : Nat → Int32} {A : Nat → Nat → Int32} {B : Nat → Nat → Int64} {M V D : Nat} {a : Nat → Nat} (hI : cI (2 * i) (S 2) (nI V) (nI D) h) (hm : mC S A B h) (hj : mJ S A M V D) (z1 : h.1 ≤ 79 + 1030 * i) (z2 : h.2.1 ≤ 9000 + 8300 * i) (hH : rH cRg h) (hX : cX h A B M V D a) (hW : xWF h)
    (b1 : j < 132) (b2 : m < 132) (b3 : xal j = false) (b4 : xal m = false) (b5 : rs cRg vs) (b6 : rs mRg ws) (b7 : cAr (xwf j) (xwt j) = true) (b8 : cAv (xwf j) (xmk j) = true) (b9 : cAv (xwf m) (xmk m) = true)
    (hc : okM X j vs h (fun v _ => P v)) (hmo : ∀ v h1, P v → xWF h1 → mC S A B h1 → okM X m ws h1 (fun v' h' => Q v v' ∧ ∃ S' A' B', mC S' A' B' h' ∧ mKp S A B S' A' B')) : okM X j vs h (fun v h1 => P v ∧ lP X i m ws h1 (Q v)) := by
  refine (okM_c b1 hH b5 hW hc).mono ?_
  rintro v h1 ⟨hp, hH1, ho1, k1, al1⟩
  have s1 := al1 b3
  have hI1 := hI.kp k1 b8
  have hm1 := hm.lo ho1
  have hX1 := cX_kr hX hW k1 b7
  refine ⟨hp, ⟨_, hm1.1⟩, (okM_m b2 b4 hm1 hH1.1 b6 k1.1 (hmo v h1 hp k1.1 hm1)).mono ?_⟩
  rintro v' h2 ⟨⟨hq, S', A', B', hm2, hk⟩, ho2, k2, e1, e2⟩
  exact ⟨hq, lX_fin (hI1.up (by omega)) (hk.1 2 (by decide)) (by omega) (by omega) hH1 ho2 k2 b9 e1 e2 hm2 (mJ_kp hj hk) (cX_kp hX1 hm1 ho2 hk)⟩
/-- a model's read that writes nothing -/
theorem mo_rd {X : Nat × (Nat → Int32)} {m : Nat} {ws : List Value} {h : xH} {Q : Option Value → Prop} {S : Nat → Int32} {A : Nat → Nat → Int32} {B : Nat → Nat → Int64} (b2 : m < 132) (b4 : xwf m = []) (b5 : xwt m = []) (hW : xWF h) (hm : mC S A B h) (hM : okM X m ws h (fun v _ => Q v)) : okM X m ws h (fun v' h' => Q v' ∧ ∃ S' A' B', mC S' A' B' h' ∧ mKp S A B S' A' B') := by
  obtain ⟨n, r, h', h1, h2⟩ := hM
  obtain ⟨i1, i2, i3⟩ := xrun_inv b2 hW h1
  refine ⟨n, r, h', h1, h2, S, A, B, ?_, mKp.rf⟩
  rw [b4, b5] at i2
  have ar : ∀ {p c n g}, h.2.2 p = some (.inl (c, n, g)) → h'.2.2 p = some (.inl (c, n, g)) := fun he => by
    obtain ⟨c', q1, q2⟩ := i2.2.2 _ _ he
    rw [q2 rfl] at q1
    exact q1
  exact ⟨i2.obj hm.1 (fun _ _ => rfl), fun q hq => ar (hm.2.1 q hq), fun q hq => ar (hm.2.2 q hq)⟩
