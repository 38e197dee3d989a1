/-! PAIRS: happening -/
theorem cS_settle {X : Nat × (Nat → Int32)} {h : xH} {c : Nat} {td vc dc : Int32} {A : Nat → Nat → Int32} {M : Nat} {a T : Nat → Nat} (hW : xWF h) (hI : cI c td vc dc h) (hc : c ≤ 1026) (hS : cS h A M a T) (hM : M ≤ 400) (hd : ∀ s, s < 20 → dI A (mst A s) M) {s l : Nat} (hs : s < 20) (hl : l ≤ mcn (mst A s) M) : okM X 21 [.ref 6, .ref (rw' s), .int (nI l)] h (fun v h' => v = none ∧ sC h h' (fun k => a (mix (mst A s) M k)) (lF A (mst A s) M) l (wS (lF A (mst A s) M) l l).1 (sM (fun k => a (mix (mst A s) M k)) (wS (lF A (mst A s) M) l l).2)) := by
  obtain ⟨-, -, h3, -, ⟨Vv, Mv, hcell⟩, hinj, -⟩ := hS
  obtain ⟨r1, len, g, r2, r3, r4⟩ := h3 s hs
  have hlen := (cI_len hI r1 r2).2
  exact ix21 (V := fun k => Vv (mix (mst A s) M k)) (Mv := fun k => Mv (mix (mst A s) M k)) hW r3 (by omega) hl (fun k hk => by
    obtain ⟨q1, q2, q3⟩ := mix_in hk
    have := r4 _ q1 q2
    rw [q3] at this
    exact this) (fun x y hx hy e => by
    obtain ⟨q1, -, q3⟩ := mix_in (show x < mcn (mst A s) M by omega)
    obtain ⟨p1, -, p3⟩ := mix_in (show y < mcn (mst A s) M by omega)
    have := hinj _ _ q1 p1 e
    rw [← q3, this, p3]) r1 r2 (fun k hk => hcell _ (mix_in (show k < mcn (mst A s) M by omega)).1) (fun j hj => (dI_F (hd s hs) j (by omega)).2.2)
/-- the stream of a happening -/
def sN (A : Nat → Nat → Int32) (n : Nat) : Nat := (A 58 (10 * n)).toNatClampNeg
theorem sN_is {S : Nat → Int32} {A : Nat → Nat → Int32} {M V D n : Nat} (hj : mJ S A M V D) (hn : n < M) : sN A n < 20 ∧ A 58 (10 * n) = nI (sN A n) ∧ mst A (sN A n) n = true ∧ A 58 (10 * n + 1) = nI (mcn (mst A (sN A n)) n) ∧ mix (mst A (sN A n)) M (mcn (mst A (sN A n)) n) = n ∧ mcn (mst A (sN A n)) n < mcn (mst A (sN A n)) M := by
  obtain ⟨s, s1, s2, s3⟩ := hj.1.2.2.2.1.2.1 n hn
  have e : sN A n = s := by unfold sN; rw [s2, nI_clamp (by omega)]
  rw [e]
  have ht : mst A s n = true := decide_eq_true s2
  exact ⟨s1, s2, ht, s3, mix_at ht hn, mcn_lq hn ht⟩
theorem mpg_st {S : Nat → Int32} {A : Nat → Nat → Int32} {M V D s T : Nat} (hj : mJ S A M V D) (hT : T ≤ M) : ∀ n, n < T → mpg S A (nI s) 999 n = mst A s n := fun n hn => by
  have hM := hj.1.2.1
  unfold mpg mst
  refine decide_eq_decide.mpr ⟨fun z => z.1, fun z => ⟨z, ?_⟩⟩
  rw [mof_n hj.2 (by omega)]
  exact hj.1.2.2.2.1.2.2 n (by omega)
theorem wS_01 {F : Nat → Nat → Int32} {l k : Nat} (hl : l < 2 ^ 31) (href : ∀ j, j < l → ¬ F j 4 ≤ 2 → ∃ k, k < j ∧ F j 10 = nI k) (hk : k < l) : (wS F l l).1 k = 0 ∨ (wS F l l).1 k = 1 := by
  rcases (wG_0 hl href).1 k hk with ⟨z, -⟩ | ⟨z, -⟩
  · exact Or.inr z
  · exact Or.inl z
theorem fxv_A {A : Nat → Nat → Int32} {n w : Nat} (hw : w < 10) : fxv (hfl A n) w = A 58 (10 * n + w) := by
  have : w = 0 ∨ w = 1 ∨ w = 2 ∨ w = 3 ∨ w = 4 ∨ w = 5 ∨ w = 6 ∨ w = 7 ∨ w = 8 ∨ w = 9 := by omega
  rcases this with rfl | rfl | rfl | rfl | rfl | rfl | rfl | rfl | rfl | rfl <;> rfl
set_option maxRecDepth 20000 in
theorem px49 {X : Nat × (Nat → Int32)} {h : xH} {i : Nat} (hW : xWF h) (hl : lX i h) (hi : 2 * i + 2 ≤ 1026) {x1 x2 : Int32} : okM X 49 [.ref 0, .int x1, .int x2] h (fun v h1 => ∃ r, v = some (.int r) ∧ lP X i 101 [.ref 57, .int x1, .int x2] h1 (fun v' => v' = some (.int r))) := by
  obtain ⟨S, A, B, M, V, D, a, hI, hm, hj, z1, z2, hH, hX⟩ := hl
  have hM := hj.1.2.1
  obtain ⟨⟨T, hS⟩, hjz, hdI⟩ := hX.1
  obtain ⟨⟨e1, len1, g1, e2, e3, e4⟩, ⟨gs, r1, r2⟩, g3, -, ⟨Vv, Mv, hcell⟩, -⟩ := id hS
  obtain ⟨⟨y1, y2, y3, y4, y5, y6, y7, s8, h6⟩, -⟩ := hjz
  have hlen := (cI_len hI e1 e2).2
  have f78 : ∀ n, n < M → okM X 78 [.ref 0, .ref (a n)] h (fun v _ => v = some (.int ((wS (lF A (mst A (sN A n)) M) (mcn (mst A (sN A n)) M) (mcn (mst A (sN A n)) M)).1 (mcn (mst A (sN A n)) n)))) := fun n hn => by
    obtain ⟨s1, s2, s3, s4, s5, s6⟩ := sN_is hj hn
    have hN : mcn (mst A (sN A n)) M ≤ 400 := Nat.le_trans (mcn_le _ _) hM
    refine ix78 (F := hfl A n) (Mw := sM (fun k => a (mix (mst A (sN A n)) M k)) (wS (lF A (mst A (sN A n)) M) (mcn (mst A (sN A n)) M) (mcn (mst A (sN A n)) M)).2 (mcn (mst A (sN A n)) n)) hW hI.1 r1 r2 s1 (g3 _ s1).1 h6 (hcell n hn) s2 (wS_01 (by omega) (fun j hj' => (dI_F (hdI _ s1) j hj').2.2) s6) ((cS_settle hW hI (by omega) hS hM hdI s1 (Nat.le_refl _)).mono ?_)
    rintro v h' ⟨rfl, q⟩
    have := q.2.2 _ s6
    simp only [lF, s5] at this
    exact ⟨rfl, this⟩
  have hc := ix49 (X := X) (x1 := x1) (x2 := x2) (G := hfl A) (a := a) (Va := Vv) (Ma := Mv) hW hI.1 e1 e2 e3 (by omega) hM (fun n hn => ⟨e4 n hn, hcell n hn⟩) f78
  refine pr_rx (P := _) hI hm hj z1 z2 hH hX hW (by decide) (by decide) rfl rfl (rs_c0 (by simp)) (rs_m0 (by simp)) rfl rfl rfl (hc.mono (fun v h' q => ⟨?_, q⟩)) ?_
  · rcases q with ⟨z, -⟩ | ⟨n, -, -, ⟨-, z⟩ | ⟨-, z⟩ | ⟨-, -, ⟨w, -, -, z⟩ | ⟨-, z⟩⟩⟩ <;> exact ⟨_, z⟩
  intro v h1 q hW1 hm1
  refine ((mk101 hW1 hm1 hj).and (me101 hW1 hm1 hj)).mono ?_
  rintro v' h' ⟨⟨-, q1⟩, q2⟩
  refine ⟨?_, q1⟩
  rcases q with ⟨rfl, n1⟩ | ⟨n, n1, rfl, n3⟩ <;> rcases q2 with ⟨rfl, m1⟩ | ⟨n', w, m1, m2, m3, rfl, m5⟩
  · rfl
  · exact absurd ⟨n', m1, m2⟩ n1
  · rcases n3 with ⟨k1, -⟩ | ⟨k1, -⟩ | ⟨-, -, ⟨w, k1, k2, -⟩ | ⟨-, rfl⟩⟩
    · exact absurd ⟨⟨n, n1, rfl⟩, by rw [k1]; decide⟩ m1
    · exact absurd ⟨⟨n, n1, rfl⟩, by rw [k1]; decide⟩ m1
    · refine absurd ⟨⟨n, n1, rfl⟩, ?_⟩ m1
      rw [k2, nk0p (by omega), show (11 : Int32) = nI 11 from rfl, nI_leI (by omega) (by decide)]
      omega
    · rfl
  · rw [nI_eq (by omega) (by omega)] at m2
    subst m2
    have i10 : nI w = 10 ↔ w = 10 := by rw [show (10 : Int32) = nI 10 from rfl, nI_eq (by omega) (by decide)]
    have i11 : nI w = 11 ↔ w = 11 := by rw [show (11 : Int32) = nI 11 from rfl, nI_eq (by omega) (by decide)]
    obtain ⟨s1, s2, s3, s4, s5, s6⟩ := sN_is hj n1
    rw [i10, i11] at n3
    rcases n3 with ⟨k1, rfl⟩ | ⟨k1, rfl⟩ | ⟨k1, k2, k3⟩
    · rcases m5 with ⟨w1, -⟩ | ⟨w1, -⟩ | ⟨-, A', B', j, hG, j1, j2, rfl⟩
      · omega
      · omega
      · have hpq := mpg_st (s := sN A n) (T := M) hj (Nat.le_refl _)
        rw [s2] at hG j1
        have hge := gath_eq hj.2 hM rfl rfl rfl (dI_c hpq (hdI _ s1)) hG j j1
        obtain ⟨o1, o2, o3⟩ := mix_in j1
        have e60 : mix (mpg S A (nI (sN A n)) 999) M j = n := by
          have := hge.1
          rw [j2, nI_eq (by omega) (by omega)] at this
          exact this.symm
        have hjn : j = mcn (mst A (sN A n)) n := by
          rw [← o3, e60]
          exact mcn_congr (fun x hx => hpq x (by omega))
        rw [hge.2.1, lF_c hpq, mcn_congr hpq, hjn]
    · rcases m5 with ⟨w1, -⟩ | ⟨-, rfl⟩ | ⟨w1, -⟩
      · omega
      · have ham : isAm (A 58 (10 * n + 4)) := (hdI _ s1 n n1 s3).2.1.2.2.1
        show some (Value.int (mrd S A n).toInt32) = some (Value.int (hund (A 58 (10 * n + 3)) (A 58 (10 * n + 4))))
        unfold mrd
        rw [mof_n hj.2 (by omega), mof_n hj.2 (by omega), ← hund64 ham, Int32.toInt32_toInt64]
      · omega
    · have hw : w < 10 := by omega
      rcases k3 with ⟨w', k3, k4, rfl⟩ | ⟨k3, -⟩
      · rw [nI_eq (by omega) (by omega)] at k4
        subst k4
        rcases m5 with ⟨-, rfl⟩ | ⟨w1, -⟩ | ⟨w1, -⟩
        · rw [fxv_A hw]
        · omega
        · omega
      · exact absurd ⟨w, hw, rfl⟩ k3
