/-! PAIRS: sum, state, in step -/
theorem wS_c {F F' : Nat → Nat → Int32} {l : Nat} (h : ∀ k, k < l → F k = F' k) : ∀ c, c ≤ l → wS F l c = wS F' l c
  | 0, _ => rfl
  | c + 1, hc => by
    show wst F (l - (c + 1)) (wS F l c) = wst F' (l - (c + 1)) (wS F' l c)
    rw [wS_c h c (by omega)]
    unfold wst
    rw [h (l - (c + 1)) (by omega)]
theorem wY_c {F F' : Nat → Nat → Int32} {l k w : Nat} (h : ∀ k, k < l → F k = F' k) (hk : k < l) : wY F l k w = wY F' l k w := by
  have e : wE F l k = wE F' l k := by unfold wE; rw [wS_c h l (Nat.le_refl _)]
  unfold wY
  rw [e, h _ (wE_lt hk)]
theorem mix_s {q : Nat → Bool} {M k : Nat} (hk : k < mcn q M) : mix q (M + 1) k = mix q M k := by
  obtain ⟨o1, o2, o3⟩ := mix_in hk
  have := mix_at (p := q) (n := mix q M k) o2 (M := M + 1) (by omega)
  rw [o3] at this
  exact this
theorem mix_p {p q : Nat → Bool} {M : Nat} (hpq : ∀ n, n < M → p n = true → q n = true) (hpre : ∀ m n, m < n → n < M → q m = true → p n = true → p m = true) : (∀ n, n < M → p n = true → mcn p n = mcn q n) ∧ ∀ k, k < mcn p M → mix p M k = mix q M k := by
  have h1 : ∀ n, n < M → p n = true → mcn p n = mcn q n := fun n hn hp => mcn_congr (fun i hi => by
    cases hq : q i with
    | true => exact hpre i n hi hn hq hp
    | false =>
      cases hpi : p i with
      | true => rw [hpq i (by omega) hpi] at hq; cases hq
      | false => rfl)
  refine ⟨h1, fun k hk => ?_⟩
  obtain ⟨o1, o2, o3⟩ := mix_in hk
  have := mix_at (p := q) (n := mix p M k) (hpq _ o1 o2) o1
  rw [← h1 _ o1 o2, o3] at this
  exact this.symm
theorem mcn_mix {q d : Nat → Bool} : ∀ M, mcn (fun n => q n && d n) M = mcn (fun k => d (mix q M k)) (mcn q M)
  | 0 => rfl
  | M + 1 => by
    have ih := mcn_mix (q := q) (d := d) M
    have hc : mcn (fun k => d (mix q (M + 1) k)) (mcn q M) = mcn (fun k => d (mix q M k)) (mcn q M) := mcn_congr (fun i hi => by rw [mix_s hi])
    cases hq : q M with
    | false => rw [mcn_f (p := fun n => q n && d n) (by rw [hq]; rfl), mcn_f hq, hc, ih]
    | true =>
      have hm : mix q (M + 1) (mcn q M) = M := mix_at hq (Nat.lt_succ_self M)
      rw [mcn_t hq]
      cases hd : d M with
      | true => rw [mcn_t (p := fun n => q n && d n) (by rw [hq, hd]; rfl), mcn_t (p := fun k => d (mix q (M + 1) k)) (by rw [hm]; exact hd), hc, ih]
      | false => rw [mcn_f (p := fun n => q n && d n) (by rw [hq, hd]; rfl), mcn_f (p := fun k => d (mix q (M + 1) k)) (by rw [hm]; exact hd), hc, ih]
/-- what is known by a day: for class and model the same beginning -/
theorem kn_eq {S : Nat → Int32} {A : Nat → Nat → Int32} {M V D s : Nat} {x3 : Int32} (hj : mJ S A M V D) (hmo : mMo S A M) (hd : dI A (mst A s) M) : mcn (mpg S A (nI s) x3) M = mcn (fun k => decide (lF A (mst A s) M k 9 ≤ x3)) (mcn (mst A s) M) ∧ dI A (mpg S A (nI s) x3) M ∧ ∀ k, k < mcn (mpg S A (nI s) x3) M → lF A (mpg S A (nI s) x3) M k = lF A (mst A s) M k := by
  have hM := hj.1.2.1
  have hpn : ∀ n, n < M → mpg S A (nI s) x3 n = (mst A s n && decide (A 58 (10 * n + 7) ≤ x3)) := fun n hn => by
    unfold mpg mst
    rw [mof_n hj.2 (by omega), Bool.decide_and]
  have ht : ∀ n, n < M → mpg S A (nI s) x3 n = true → mst A s n = true ∧ A 58 (10 * n + 7) ≤ x3 := fun n hn hp => by
    rw [hpn n hn, Bool.and_eq_true] at hp
    exact ⟨hp.1, of_decide_eq_true hp.2⟩
  obtain ⟨m1, m2⟩ := mix_p (p := mpg S A (nI s) x3) (q := mst A s) (M := M) (fun n hn hp => (ht n hn hp).1) (fun m n hmn hn hq hp => by
    rw [hpn m (by omega), hq, Bool.true_and]
    exact decide_eq_true (Int32.le_trans ((hmo n hn).2 m (by omega)) (ht n hn hp).2))
  refine ⟨?_, fun n hn hp => ?_, fun k hk => ?_⟩
  · rw [mcn_congr hpn, mcn_mix (q := mst A s) (d := fun n => decide (A 58 (10 * n + 7) ≤ x3))]
    rfl
  · rw [m1 n hn hp]
    exact hd n hn (ht n hn hp).1
  · funext w
    unfold lF
    rw [m2 k hk]
theorem cS_rowS {X : Nat × (Nat → Int32)} {h : xH} {c : Nat} {td vc dc : Int32} {A : Nat → Nat → Int32} {M : Nat} {a T : Nat → Nat} (hW : xWF h) (hI : cI c td vc dc h) (hc : c ≤ 1026) (hS : cS h A M a T) (hM : M ≤ 400) (hd : ∀ s, s < 20 → dI A (mst A s) M) {s l : Nat} (hs : s < 20) (hl : l ≤ mcn (mst A s) M) : okM X 21 [.ref 6, .ref (rw' s), .int (nI l)] h (fun v h' => v = none ∧ rowS h' (rw' s) (lF A (mst A s) M) (wS (lF A (mst A s) M) l l).1 (wY (lF A (mst A s) M) l) l) := by
  refine (cS_settle hW hI hc hS hM hd hs hl).mono ?_
  rintro v h' ⟨rfl, hs1⟩
  obtain ⟨-, -, h3, -, ⟨Vv, Mv, hcell⟩, hinj, -⟩ := hS
  obtain ⟨r1, len, g, r2, r3, r4⟩ := h3 s hs
  have hlen := (cI_len hI r1 r2).2
  have hN := mcn_le (mst A s) M
  refine ⟨rfl, T (s + 1), len, mcn (mst A s) M, g, fun k => a (mix (mst A s) M k), _, r3, by omega, by omega, hl, fun k hk => ?_, ?_, ?_, hs1.2.2, fun k hk => ?_⟩
  · obtain ⟨q1, q2, q3⟩ := mix_in hk
    have := r4 _ q1 q2
    rw [q3] at this
    exact this
  · rw [hs1.2.1 (rw' s) (fun k hk => ne_oo r1 (hcell _ (mix_in (show k < mcn (mst A s) M by omega)).1) (by decide))]
    exact r1
  · rw [hs1.2.1 (T (s + 1)) (fun k hk => Ne.symm (ne_oa (hcell _ (mix_in (show k < mcn (mst A s) M by omega)).1) r2))]
    exact r2
  · unfold sM wY wE
    cases hm : (wS (lF A (mst A s) M) l l).2 k with
    | none => exact Or.inl ⟨rfl, rfl, rfl, rfl, rfl⟩
    | some i => exact Or.inr ⟨a (mix (mst A s) M i), _, _, _, _, _, _, _, _, _, rfl, hs1.2.2 i (wS_lt l (Nat.le_refl _) k i hm)⟩
theorem cS_kn {X : Nat × (Nat → Int32)} {h : xH} {c : Nat} {td vc dc : Int32} {A : Nat → Nat → Int32} {M : Nat} {a T : Nat → Nat} (hW : xWF h) (hI : cI c td vc dc h) (hc : c ≤ 1026) (hS : cS h A M a T) (hM : M ≤ 400) {s : Nat} (hs : s < 20) {x1 : Int32} : okM X 34 [.ref (rw' s), .int x1] h (fun v h' => h = h' ∧ v = some (.int (nI (mcn (fun k => decide (lF A (mst A s) M k 9 ≤ x1)) (mcn (mst A s) M))))) := by
  obtain ⟨-, -, h3, -, ⟨Vv, Mv, hcell⟩, hinj, -⟩ := hS
  obtain ⟨r1, len, g, r2, r3, r4⟩ := h3 s hs
  have hlen := (cI_len hI r1 r2).2
  exact ix34 (q := fun k => a (mix (mst A s) M k)) (V := fun k => Vv (mix (mst A s) M k)) (Mv := fun k => Mv (mix (mst A s) M k)) (F := lF A (mst A s) M) hW r3 (by omega) (Nat.le_trans (mcn_le _ _) hM) (fun k hk => by
    obtain ⟨q1, q2, q3⟩ := mix_in hk
    have := r4 _ q1 q2
    rw [q3] at this
    exact this) r1 r2 (fun k hk => hcell _ (mix_in hk).1)
/-- one answer for both: longs -/
theorem pr_rl {X : Nat × (Nat → Int32)} {j m : Nat} {vs ws : List Value} {h : xH} {i : Nat} {P : Option Value → Prop} {S : Nat → Int32} {A : Nat → Nat → Int32} {B : Nat → Nat → Int64} {M V D : Nat} {a : Nat → Nat} (hI : cI (2 * i) (S 2) (nI V) (nI D) h) (hm : mC S A B h) (hj : mJ S A M V D) (z1 : h.1 ≤ 79 + 1030 * i) (z2 : h.2.1 ≤ 9000 + 8300 * i) (hH : rH cRg h) (hX : cX h A B M V D a) (hW : xWF h)
    (b1 : j < 132) (b2 : m < 132) (b3 : xal j = false) (b4 : xal m = false) (b5 : rs cRg vs) (b6 : rs mRg ws) (b7 : cAr (xwf j) (xwt j) = true) (b8 : cAv (xwf j) (xmk j) = true) (b9 : cAv (xwf m) (xmk m) = true)
    (hc : okM X j vs h (fun v _ => (∃ r, v = some (.long r)) ∧ P v)) (hmo : ∀ v h1, P v → xWF h1 → mC S A B h1 → okM X m ws h1 (fun v' h' => v' = v ∧ ∃ S' A' B', mC S' A' B' h' ∧ mKp S A B S' A' B')) : okM X j vs h (fun v h1 => ∃ r, v = some (.long r) ∧ lP X i m ws h1 (fun v' => v' = some (.long r))) := by
  refine (pr_rd (P := fun v => (∃ r, v = some (.long r)) ∧ P v) (Q := fun v v' => v' = v) hI hm hj z1 z2 hH hX hW b1 b2 b3 b4 b5 b6 b7 b8 b9 hc (fun v h1 q => hmo v h1 q.2)).mono (fun v h1 q => ?_)
  obtain ⟨⟨⟨r, rfl⟩, -⟩, q⟩ := q
  exact ⟨r, rfl, q⟩
set_option maxRecDepth 20000 in
theorem px53 {X : Nat × (Nat → Int32)} {h : xH} {i : Nat} (hW : xWF h) (hl : lX i h) (hq : mMj h) (hi : 2 * i + 2 ≤ 1026) {x1 x2 x3 x4 : Int32} : okM X 53 [.ref 0, .int x1, .int x2, .int x3, .int x4] h (fun v h1 => ∃ r, v = some (.long r) ∧ lP X i 106 [.ref 57, .int x1, .int x2, .int x3, .int x4] h1 (fun v' => v' = some (.long r))) := by
  obtain ⟨S, A, B, M, V, D, a, hI, hm, hj, z1, z2, hH, hX⟩ := hl
  have hM := hj.1.2.1
  have hmo : mMo S A M := by
    obtain ⟨S1, A1, B1, M1, V1, D1, q1, q2, q3⟩ := hq
    exact mMo_det q1 hm q2.1.1 q2.1.2.1 hj.1.1 hM q3
  obtain ⟨⟨T, hS⟩, hjz, hdI⟩ := hX.1
  obtain ⟨-, ⟨gs, r1, r2⟩, g3, -⟩ := id hS
  obtain ⟨⟨y1, y2, y3, y4, y5, y6, y7, s8, h6⟩, -⟩ := hjz
  have hc := ix53 (X := X) (x1 := x1) (x2 := x2) (x3 := x3) (x4 := x4) (f5 := fun s => [.int (nI (mcn (mst A s) M)), .ref (T (s + 1))]) (L := fun s => mcn (fun k => decide (lF A (mst A s) M k 9 ≤ x3)) (mcn (mst A s) M)) (F := fun s => lF A (mst A s) M) (V := fun s => (wS (lF A (mst A s) M) (mcn (fun k => decide (lF A (mst A s) M k 9 ≤ x3)) (mcn (mst A s) M)) (mcn (fun k => decide (lF A (mst A s) M k 9 ≤ x3)) (mcn (mst A s) M))).1) (Y := fun s => wY (lF A (mst A s) M) (mcn (fun k => decide (lF A (mst A s) M k 9 ≤ x3)) (mcn (mst A s) M))) hW hI.1 r1 r2 (fun s hs => (g3 s hs).1) h6 (fun s hs => cS_kn hW hI (by omega) hS hM hs) (fun s hs => cS_rowS hW hI (by omega) hS hM hdI hs (mcn_le _ _))
  refine pr_rl (P := _) hI hm hj z1 z2 hH hX hW (by decide) (by decide) rfl rfl (rs_c0 (by simp)) (rs_m0 (by simp)) rfl rfl rfl (hc.mono (fun v h' q => ⟨?_, q⟩)) ?_
  · rcases q with ⟨z, -⟩ | ⟨d, -, -, -, z⟩ <;> exact ⟨_, z⟩
  intro v h1 q hW1 hm1
  refine ((mk106 hW1 hm1 hj).and (me106 hW1 hm1 hj)).mono ?_
  rintro v' h' ⟨⟨-, q1⟩, q2⟩
  refine ⟨?_, q1⟩
  rw [s20] at q2
  rcases q with ⟨rfl, n1⟩ | ⟨d, n1, rfl, ⟨⟨n2, n3⟩, n4⟩, rfl⟩ <;> rcases q2 with ⟨rfl, m1⟩ | ⟨⟨m1, m2, m3⟩, m4, A', B', hG, rfl⟩
  · rfl
  · exact absurd ⟨m1, ⟨m2, m3⟩, m4⟩ n1
  · exact absurd ⟨⟨⟨d, n1, rfl⟩, n2, n3⟩, n4⟩ m1
  · obtain ⟨k1, k2, k3⟩ := kn_eq (s := d) (x3 := x3) hj hmo (hdI d n1)
    have hge := gath_eq hj.2 hM rfl rfl rfl k2 hG
    rw [← k1]
    congr 2
    refine mss_congr (fun k hk => ?_) (fun k hk => ?_)
    · obtain ⟨-, -, u3, -, u5, u6, -⟩ := hge k hk
      unfold mps
      refine decide_eq_decide.mpr ?_
      rw [u3, u5, u6, wS_c k3 _ (Nat.le_refl _), wY_c k3 hk, wY_c k3 hk, k3 k hk]
    · obtain ⟨-, -, -, -, -, -, u7⟩ := hge k hk
      rw [u7, wY_c k3 hk, wY_c k3 hk, k3 k hk]
set_option maxRecDepth 20000 in
theorem px54 {X : Nat × (Nat → Int32)} {h : xH} {i : Nat} (hW : xWF h) (hl : lX i h) (hq : mMj h) (hi : 2 * i + 2 ≤ 1026) {x1 x2 x3 : Int32} : okM X 54 [.ref 0, .int x1, .int x2, .int x3] h (fun v h1 => ∃ r, v = some (.int r) ∧ lP X i 107 [.ref 57, .int x1, .int x2, .int x3] h1 (fun v' => v' = some (.int r))) := by
  obtain ⟨S, A, B, M, V, D, a, hI, hm, hj, z1, z2, hH, hX⟩ := hl
  have hM := hj.1.2.1
  have hmo : mMo S A M := by
    obtain ⟨S1, A1, B1, M1, V1, D1, q1, q2, q3⟩ := hq
    exact mMo_det q1 hm q2.1.1 q2.1.2.1 hj.1.1 hM q3
  obtain ⟨⟨T, hS⟩, hjz, hdI⟩ := hX.1
  obtain ⟨-, ⟨gs, r1, r2⟩, g3, -⟩ := id hS
  obtain ⟨⟨y1, y2, y3, y4, y5, y6, y7, s8, h6⟩, -⟩ := hjz
  have hc := ix54 (X := X) (x1 := x1) (x2 := x2) (x3 := x3) (f5 := fun s => [.int (nI (mcn (mst A s) M)), .ref (T (s + 1))]) (L := fun s => mcn (fun k => decide (lF A (mst A s) M k 9 ≤ x3)) (mcn (mst A s) M)) (F := fun s => lF A (mst A s) M) (V := fun s => (wS (lF A (mst A s) M) (mcn (fun k => decide (lF A (mst A s) M k 9 ≤ x3)) (mcn (mst A s) M)) (mcn (fun k => decide (lF A (mst A s) M k 9 ≤ x3)) (mcn (mst A s) M))).1) (Y := fun s => wY (lF A (mst A s) M) (mcn (fun k => decide (lF A (mst A s) M k 9 ≤ x3)) (mcn (mst A s) M))) hW hI.1 r1 r2 (fun s hs => (g3 s hs).1) h6 (fun s hs => cS_kn hW hI (by omega) hS hM hs) (fun s hs => cS_rowS hW hI (by omega) hS hM hdI hs (mcn_le _ _))
  refine pr_rx (P := _) hI hm hj z1 z2 hH hX hW (by decide) (by decide) rfl rfl (rs_c0 (by simp)) (rs_m0 (by simp)) rfl rfl rfl (hc.mono (fun v h' q => ⟨?_, q⟩)) ?_
  · rcases q with ⟨z, -⟩ | ⟨d, -, -, -, z⟩ <;> exact ⟨_, z⟩
  intro v h1 q hW1 hm1
  refine ((mk107 hW1 hm1 hj).and (me107 hW1 hm1 hj)).mono ?_
  rintro v' h' ⟨⟨-, q1⟩, q2⟩
  refine ⟨?_, q1⟩
  rw [s20] at q2
  rcases q with ⟨rfl, n1⟩ | ⟨d, n1, rfl, ⟨n2, n3⟩, rfl⟩ <;> rcases q2 with ⟨rfl, m1⟩ | ⟨⟨m1, m2, m3⟩, A', B', hG, rfl⟩
  · rfl
  · exact absurd ⟨m1, m2, m3⟩ n1
  · exact absurd ⟨⟨d, n1, rfl⟩, n2, n3⟩ m1
  · obtain ⟨k1, k2, k3⟩ := kn_eq (s := d) (x3 := x3) hj hmo (hdI d n1)
    have hge := gath_eq hj.2 hM rfl rfl rfl k2 hG
    rw [← k1]
    congr 2
    refine stF_c (fun k hk => ?_) (fun k hk => ?_)
    · obtain ⟨-, -, u3, -, u5, -, -⟩ := hge k hk
      unfold mpt
      refine decide_eq_decide.mpr ?_
      rw [u3, u5, wS_c k3 _ (Nat.le_refl _), wY_c k3 hk, k3 k hk]
    · obtain ⟨-, -, -, u4, -⟩ := hge k hk
      show mof _ A' (A' 60 k).toNatClampNeg 2 = _
      rw [u4 _ (by rw [mP_n (by decide)]; exact hj.2), k3 k hk]
