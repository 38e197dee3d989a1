/-! COMMANDS: class and model in step -/
theorem mG_63 {S : Nat → Int32} {A A' : Nat → Nat → Int32} {B B' : Nat → Nat → Int64} {x1 x3 : Int32} {T : Nat} (h : mG S A B x1 x3 T A' B') : ∀ q, q ≠ 63 → B' q = B q := (mG_K (v := 0) h).2.2
theorem mCm_B {S S' : Nat → Int32} {A A' : Nat → Nat → Int32} {B B' : Nat → Nat → Int64} {M s c : Nat} {x2 x3 x4 x5 x6 x7 x8 x9 r : Int32} (hC : mCm S A B M s c x2 x3 x4 x5 x6 x7 x8 x9 r S' A' B') : ∀ q, q ≠ 63 → B' q = B q := by
  rcases hC with ⟨_, _, rfl, _⟩ | ⟨_, _, _, _, A1, A2, l, w, _, _, hG, _⟩
  · exact fun _ _ => rfl
  · exact mG_63 hG
/-- what the rows of class and model are after a command -/
def cmR (h h1 : xH) (S : Nat → Int32) (A : Nat → Nat → Int32) (B : Nat → Nat → Int64) (M V D : Nat) (a : Nat → Nat) (r : Int32) (S' : Nat → Int32) (A' : Nat → Nat → Int32) (B' : Nat → Nat → Int64) (M' : Nat) (a' : Nat → Nat) : Prop :=
  cX1 h1 A' M' a' ∧ fK h h1 ∧ (∀ n, n < M → a' n = a n) ∧ mJ S' A' M' V D ∧ mCf S A S' A' ∧ (∀ q, q ≠ 63 → B' q = B q) ∧ ((r < 0 ∧ M' = M) ∨ (r = nI M ∧ M' = M + 1 ∧ M < 400))
theorem cmR.le {h h1 : xH} {S S' : Nat → Int32} {A A' : Nat → Nat → Int32} {B B' : Nat → Nat → Int64} {M V D M' : Nat} {a a' : Nat → Nat} {r : Int32} (q : cmR h h1 S A B M V D a r S' A' B' M' a') : M ≤ M' := by
  rcases q.2.2.2.2.2.2 with ⟨_, z⟩ | ⟨_, z, _⟩ <;> omega
theorem cm_kp {h h1 : xH} {S : Nat → Int32} {A : Nat → Nat → Int32} {B : Nat → Nat → Int64} {M V D : Nat} {a : Nat → Nat} {r : Int32} (hj : mJ S A M V D) (hX : cX1 h A M a) (hk : kP h h1 A M a) (hr : r < 0) : cmR h h1 S A B M V D a r S A B M a := by
  obtain ⟨T', q1, q2, q3⟩ := hk
  exact ⟨⟨⟨T', q1⟩, q2, hX.2.2⟩, q3, fun _ _ => rfl, hj, ⟨fun _ _ => rfl, fun _ _ => rfl⟩, fun _ _ => rfl, Or.inl ⟨hr, rfl⟩⟩
theorem cmd_eq {S S' : Nat → Int32} {A A' : Nat → Nat → Int32} {B B' : Nat → Nat → Int64} {M V D : Nat} {h h1 : xH} {a : Nat → Nat} {x0 k f am ky so rf sn by' r r' rx : Int32} {G : Prop} (hj : mJ S A M V D) (hX : cX1 h A M a) (hG : G ↔ ((∃ s, s < 20 ∧ x0 = nI s) ∧ asT k f am ky so (S 2))) (hrx : rx = if k < 3 then -1 else rf)
    (hc : cmQ h h1 A (rowA A M x0 k f am ky so (S 2) rx by') M a x0 k f am ky so (S 2) rx sn r)
    (hm : (r' = -2 ∧ S' = S ∧ A' = A ∧ B' = B ∧ ¬ G) ∨ (G ∧ mTl S A B M V D x0 k f am ky so rf sn by' r' S' A' B')) : r = r' ∧ ∃ M' a', cmR h h1 S A B M V D a r S' A' B' M' a' := by
  rcases hm with ⟨rfl, rfl, rfl, rfl, hn⟩ | ⟨hg, s, hs, rfl, hm, hf, hi⟩
  · rcases hc with ⟨rfl, -, hk⟩ | ⟨s, b1, b2, b3, -⟩
    · exact ⟨rfl, M, a, cm_kp hj hX hk (by decide)⟩
    · exact absurd (hG.mpr ⟨⟨s, b1, b2⟩, b3⟩) hn
  · obtain ⟨rfl, M', a', q1, q2, q3, q4⟩ := cm_core hj hX hs (hG.mp hg).2 hrx hc hm
    have h4 : S' 4 = -1 := by rw [hf.1 4 (by decide)]; exact hj.2
    have hM4 := hj.1.2.1
    refine ⟨rfl, M', a', q1, q2, q3, ?_, hf, mCm_B hm, ?_⟩
    · rcases q4 with ⟨z1, rfl⟩ | ⟨rfl, rfl⟩
      · rcases hi with ⟨_, z⟩ | ⟨rfl, _, z⟩
        · exact ⟨z, h4⟩
        · rw [nk0n (by omega)] at z1; omega
      · rcases hi with ⟨z1, z⟩ | ⟨_, _, z⟩
        · rw [nk0n (by omega)] at z1; omega
        · exact ⟨z, h4⟩
    · rcases q4 with z | ⟨rfl, rfl⟩
      · exact Or.inl z
      · rcases hi with ⟨z1, z⟩ | ⟨_, z0, z⟩
        · rw [nk0n (by omega)] at z1; omega
        · exact Or.inr ⟨rfl, rfl, z0⟩
theorem fK.fx {h h' : xH} {A : Nat → Nat → Int32} {M : Nat} {a : Nat → Nat} (f : fK h h') (hX : cX1 h A M a) : fX h h' := (f.fw hX.2.1).fx
theorem mCf.in {q : Nat} {l : List Nat} (h : q ∈ l) (hl : l.all (fun p => !([58, 59, 60, 61, 62, 64, 65].any (fun r => Nat.beq p r))) = true) : q ∉ [58, 59, 60, 61, 62, 64, 65] := by
  have := List.all_eq_true.mp hl q h
  intro hz
  simp only [List.mem_cons, List.not_mem_nil, or_false] at hz
  rcases hz with rfl | rfl | rfl | rfl | rfl | rfl | rfl <;> simp at this
/-- rows of the class when the model has been called; its arrays may be others -/
theorem cX1_mo2 {S : Nat → Int32} {A A' : Nat → Nat → Int32} {B : Nat → Nat → Int64} {M : Nat} {a : Nat → Nat} {h h' : xH} (hm : mC S A B h) (ho : rO mRg h h') (hX : cX1 h A' M a) : cX1 h' A' M a := by
  obtain ⟨⟨T, hS⟩, ⟨⟨a1, a2, a3, a4, a5, a6, a7, s8, j6⟩, j7, g8, g9, j8, j9, jz⟩, hd⟩ := hX
  have e : ∀ p, p < 57 → h'.2.2 p = h.2.2 p := fun p hp => ho p (fun z => by have := z.1; omega)
  refine ⟨⟨T, ?_⟩, ⟨⟨a1, a2, a3, a4, a5, a6, a7, s8, (e 6 (by decide)).trans j6⟩, (e 7 (by decide)).trans j7, g8, g9, (e 8 (by decide)).trans j8, (e 9 (by decide)).trans j9, jz⟩, hd⟩
  have hT := cS_T hS
  refine cS_keep hS (fun _ _ => rfl) (fun p e he _ _ _ _ q1 q2 => ?_) ?_ (fun i hi => ?_)
  · rw [ho p (mC_ne hm he (fun c fs z => by have := q2 c fs z; omega) (fun t n k z => by have := q1 t n k z; omega))]
    exact he
  · obtain ⟨Vv, Mv, hc⟩ := hS.2.2.2.2.1
    refine ⟨Vv, Mv, fun n hn => ?_⟩
    rw [ho _ (mC_ne hm (hc n hn) (fun c fs z => by cases z; decide) (fun t n k z => by cases z))]
    exact hc n hn
  · obtain ⟨len, g, q⟩ := hT i hi
    exact ⟨ne_aa q j8 (by decide), ne_aa q j9 (by decide)⟩
theorem cX_cm {h h1 h2 : xH} {S S' : Nat → Int32} {A A' : Nat → Nat → Int32} {B B' : Nat → Nat → Int64} {M V D M' : Nat} {a a' : Nat → Nat} {r : Int32} (hX : cX h A B M V D a) (hm : mC S A B h1) (ho : rO mRg h1 h2) (q : cmR h h1 S A B M V D a r S' A' B' M' a') : cX h2 A' B' M' V D a' := by
  have hle := q.le
  obtain ⟨x1, x2, x3, x4⟩ := hX
  obtain ⟨q1, q2, q3, -, q5, q6, -⟩ := q
  have f := (q2.fx x1).tr (mC_fx hm ho)
  exact ⟨cX1_mo2 hm ho q1, cDg_k x2 f hle q3 (fun q hq => q5.2 q (mCf.in hq rfl)), cSn_k x3 f (fun q hq => q6 q (by revert hq; simp only [List.mem_cons, List.not_mem_nil, or_false]; omega)), cVw_k x4 f (fun q hq => q5.2 q (mCf.in hq rfl))⟩
theorem lX_fin {i : Nat} {w t mm : List Nat} {h1 h2 : xH} {S : Nat → Int32} {A : Nat → Nat → Int32} {B : Nat → Nat → Int64} {M V D : Nat} {a : Nat → Nat} {td : Int32} (hI : cI (2 * (i + 1)) td (nI V) (nI D) h1) (hS : S 2 = td) (b1 : h1.1 ≤ 79 + 1030 * (i + 1)) (b2 : h1.2.1 ≤ 9000 + 8300 * (i + 1)) (hH : rH cRg h1) (ho : rO mRg h1 h2) (k : xkq w t mm h1 h2) (hA : cAv w mm = true) (e1 : h2.1 = h1.1) (e2 : h2.2.1 = h1.2.1) (hm : mC S A B h2) (hj : mJ S A M V D) (hX : cX h2 A B M V D a) : lX (i + 1) h2 := by
  subst hS
  exact ⟨S, A, B, M, V, D, a, hI.kp k hA, hm, hj, by omega, by omega, ⟨by rw [e1]; exact hH.1, fun q e hq he => hH.2 q e hq (by rw [← ho q (fun z => by have := cRg_n.mpr z; exact this hq)]; exact he)⟩, hX⟩
/-- what stands when the class has answered: the model's answer, and the state after it -/
def lP (X : Nat × (Nat → Int32)) (i m : Nat) (vs : List Value) (h1 : xH) (P : Option Value → Prop) : Prop := (∃ fs, h1.2.2 57 = some (.inr (9, fs))) ∧ okM X m vs h1 (fun v h2 => P v ∧ lX (i + 1) h2)
theorem tld_as {x0 k f am ky so td : Int32} (hk : (0 ≤ k ∧ k ≤ 4) ∧ ¬ k = 4) (h2 : k = 2 → f = 0 ∧ am = 0 ∧ ky = 0) (htd : isD td) : tld x0 f am ky so ↔ ((∃ s, s < 20 ∧ x0 = nI s) ∧ asT k f am ky so td) := by
  unfold tld asT asK
  constructor
  · rintro ⟨a1, a2, a3, a4, a5⟩
    exact ⟨in19 (m := 19) (by decide) a1, hk.1, a2, a3, a4, a5, htd, h2, fun z => absurd z hk.2⟩
  · rintro ⟨⟨s, a0, rfl⟩, -, a2, a3, a4, a5, -⟩
    exact ⟨⟨by rw [nk0p (by omega)]; omega, by rw [show (19 : Int32) = nI 19 from rfl, nI_leI (by omega) (by decide)]; omega⟩, a2, a3, a4, a5⟩
theorem s20 {x0 : Int32} : (0 ≤ x0 ∧ x0 ≤ 19) ↔ ∃ s, s < 20 ∧ x0 = nI s := by
  constructor
  · exact fun z => in19 (m := 19) (by decide) z
  · rintro ⟨s, a0, rfl⟩
    exact ⟨by rw [nk0p (by omega)]; omega, by rw [show (19 : Int32) = nI 19 from rfl, nI_leI (by omega) (by decide)]; omega⟩
theorem i02 {k : Int32} (h : 0 ≤ k ∧ k ≤ 2) : (0 ≤ k ∧ k ≤ 4) ∧ ¬ k = 4 := by
  refine ⟨⟨h.1, Int32.le_trans h.2 (by decide)⟩, fun z => ?_⟩
  rw [z] at h
  exact absurd h.2 (by decide)
set_option maxRecDepth 20000 in
theorem pr46 {X : Nat × (Nat → Int32)} {h : xH} {i : Nat} (hW : xWF h) (hl : lX i h) (hi : 2 * i + 2 ≤ 1026) {x1 x2 x3 x4 x5 x6 x7 : Int32} : okM X 46 [.ref 0, .int x1, .int x2, .int x3, .int x4, .int x5, .int x6, .int x7] h (fun v h1 => ∃ r, v = some (.int r) ∧ lP X i 97 [.ref 57, .int x1, .int x2, .int x3, .int x4, .int x5, .int x6, .int x7] h1 (fun v' => v' = some (.int r))) := by
  obtain ⟨S, A, B, M, V, D, a, hI, hm, hj, z1, z2, hH, hX⟩ := hl
  obtain ⟨⟨T, hS⟩, hjz, hd⟩ := hX.1
  have hM := hj.1.2.1
  have htd : isD (S 2) := hj.1.2.2.1
  have c1 := (sp46 (X := X) (x1 := x1) (x2 := x2) (x3 := x3) (x4 := x4) (x5 := x5) (x6 := x6) (x7 := x7) hW hI hi).and (ix46 (X := X) (x1 := x1) (x2 := x2) (x3 := x3) (x4 := x4) (x5 := x5) (x6 := x6) (x7 := x7) hW hI (by omega) hS hjz hM hd)
  refine (okM_c (j := 46) (by decide) hH (rs_c0 (by simp)) hW c1).mono ?_
  rintro v h1 ⟨⟨⟨-, hI1, b1, b2⟩, r, rfl, hc⟩, hH1, ho1, k1, -⟩
  have hm1 := hm.lo ho1
  refine ⟨r, rfl, ⟨_, hm1.1⟩, ?_⟩
  refine (okM_m (j := 97) (by decide) rfl hm1 hH1.1 (rs_m0 (by simp)) k1.1 (me97 k1.1 hm1 hj)).mono ?_
  rintro v' h2 ⟨⟨r', S', A', B', rfl, hm2, hq⟩, ho2, k2, e1, e2⟩
  have key : r = r' ∧ ∃ M' a', cmR h h1 S A B M V D a r S' A' B' M' a' := by
    rcases hc with ⟨rfl, n1, hk⟩ | ⟨n1, hc⟩
    · rcases hq with ⟨rfl, rfl, rfl, rfl, -⟩ | ⟨⟨n2, -⟩, -⟩
      · exact ⟨rfl, M, a, cm_kp hj hX.1 hk (by decide)⟩
      · exact absurd n2 n1
    · refine cmd_eq (rf := -1) (G := (0 ≤ x2 ∧ x2 ≤ 2) ∧ tld x1 (if x2 = 2 then 0 else x3) (if x2 = 2 then 0 else x4) (if x2 = 2 then 0 else x5) x6) hj hX.1 ?_ (by split <;> rfl) hc hq
      rw [← tld_as (i02 n1) (fun z => by simp [z]) htd]
      exact ⟨fun z => z.2, fun z => ⟨n1, z⟩⟩
  obtain ⟨rfl, M', a', hR⟩ := key
  exact ⟨rfl, lX_fin hI1 (hR.2.2.2.2.1.1 2 (by decide)) (by omega) (by omega) hH1 ho2 k2 (by decide) e1 e2 hm2 hR.2.2.2.1 (cX_cm hX hm1 ho2 hR)⟩
set_option maxRecDepth 20000 in
theorem pr47 {X : Nat × (Nat → Int32)} {h : xH} {i : Nat} (hW : xWF h) (hl : lX i h) (hi : 2 * i + 2 ≤ 1026) {x1 x2 x3 x4 x5 x6 x7 : Int32} : okM X 47 [.ref 0, .int x1, .int x2, .int x3, .int x4, .int x5, .int x6, .int x7] h (fun v h1 => ∃ r, v = some (.int r) ∧ lP X i 98 [.ref 57, .int x1, .int x2, .int x3, .int x4, .int x5, .int x6, .int x7] h1 (fun v' => v' = some (.int r))) := by
  obtain ⟨S, A, B, M, V, D, a, hI, hm, hj, z1, z2, hH, hX⟩ := hl
  obtain ⟨⟨T, hS⟩, hjz, hd⟩ := hX.1
  have hM := hj.1.2.1
  have htd : isD (S 2) := hj.1.2.2.1
  have c1 := (sp47 (X := X) (x1 := x1) (x2 := x2) (x3 := x3) (x4 := x4) (x5 := x5) (x6 := x6) (x7 := x7) hW hI hi).and (ix47 (X := X) (x1 := x1) (x2 := x2) (x3 := x3) (x4 := x4) (x5 := x5) (x6 := x6) (x7 := x7) hW hI (by omega) hS hjz hM hd)
  refine (okM_c (j := 47) (by decide) hH (rs_c0 (by simp)) hW c1).mono ?_
  rintro v h1 ⟨⟨⟨-, hI1, b1, b2⟩, r, rfl, hc⟩, hH1, ho1, k1, -⟩
  have hm1 := hm.lo ho1
  refine ⟨r, rfl, ⟨_, hm1.1⟩, ?_⟩
  refine (okM_m (j := 98) (by decide) rfl hm1 hH1.1 (rs_m0 (by simp)) k1.1 (me98 k1.1 hm1 hj)).mono ?_
  rintro v' h2 ⟨⟨r', S', A', B', rfl, hm2, hq⟩, ho2, k2, e1, e2⟩
  have key := cmd_eq (rf := x2) (G := tld x1 x3 x4 x5 x6) hj hX.1 (tld_as (k := 3) (by decide) (fun z => absurd z (by decide)) htd) (by rw [if_neg (by decide)]) hc hq
  obtain ⟨rfl, M', a', hR⟩ := key
  exact ⟨rfl, lX_fin hI1 (hR.2.2.2.2.1.1 2 (by decide)) (by omega) (by omega) hH1 ho2 k2 (by decide) e1 e2 hm2 hR.2.2.2.1 (cX_cm hX hm1 ho2 hR)⟩
theorem as4 {x0 td : Int32} (htd : isD td) : (0 ≤ x0 ∧ x0 ≤ 19) ↔ ((∃ s, s < 20 ∧ x0 = nI s) ∧ asT 4 0 0 0 td td) := by
  rw [s20]
  refine ⟨fun z => ⟨z, by decide, by decide, ⟨by decide, by decide⟩, by decide, htd, htd, fun y => absurd y (by decide), fun _ => ⟨⟨rfl, rfl, rfl⟩, rfl⟩⟩, fun z => z.1⟩
set_option maxRecDepth 20000 in
theorem pr48 {X : Nat × (Nat → Int32)} {h : xH} {i : Nat} (hW : xWF h) (hl : lX i h) (hi : 2 * i + 2 ≤ 1026) {x1 x2 x3 : Int32} : okM X 48 [.ref 0, .int x1, .int x2, .int x3] h (fun v h1 => ∃ r, v = some (.int r) ∧ lP X i 99 [.ref 57, .int x1, .int x2, .int x3] h1 (fun v' => v' = some (.int r))) := by
  obtain ⟨S, A, B, M, V, D, a, hI, hm, hj, z1, z2, hH, hX⟩ := hl
  obtain ⟨⟨T, hS⟩, hjz, hd⟩ := hX.1
  have hM := hj.1.2.1
  have htd : isD (S 2) := hj.1.2.2.1
  have c1 := (sp48 (X := X) (x1 := x1) (x2 := x2) (x3 := x3) hW hI hi).and (ix48 (X := X) (x1 := x1) (x2 := x2) (x3 := x3) hW hI (by omega) hS hjz hM hd)
  refine (okM_c (j := 48) (by decide) hH (rs_c0 (by simp)) hW c1).mono ?_
  rintro v h1 ⟨⟨⟨-, hI1, b1, b2⟩, r, rfl, hc⟩, hH1, ho1, k1, -⟩
  have hm1 := hm.lo ho1
  refine ⟨r, rfl, ⟨_, hm1.1⟩, ?_⟩
  refine (okM_m (j := 99) (by decide) rfl hm1 hH1.1 (rs_m0 (by simp)) k1.1 (me99 k1.1 hm1 hj)).mono ?_
  rintro v' h2 ⟨⟨r', S', A', B', rfl, hm2, hq⟩, ho2, k2, e1, e2⟩
  have key := cmd_eq (rf := x2) (G := 0 ≤ x1 ∧ x1 ≤ 19) hj hX.1 (as4 htd) (by rw [if_neg (by decide)]) hc hq
  obtain ⟨rfl, M', a', hR⟩ := key
  exact ⟨rfl, lX_fin hI1 (hR.2.2.2.2.1.1 2 (by decide)) (by omega) (by omega) hH1 ho2 k2 (by decide) e1 e2 hm2 hR.2.2.2.1 (cX_cm hX hm1 ho2 hR)⟩
