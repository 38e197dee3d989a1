/-! PAIRS: at, lead, in step -/
def vP (A : Nat → Nat → Int32) (M r : Nat) (b x2 : Int32) (n : Nat) : Bool := decide (hfl A n 4 ≤ 1 ∧ (hfl A n 4 ≤ 2 ∧ vW A M r n = 0) ∧ rwAsk b (hfl A n 0) (vY A M r n 7) (vY A M r n 8) = x2)
def vF (A : Nat → Nat → Int32) (M r : Nat) (w : Int32) (n : Nat) : Int64 := if w = 0 then (if hfl A n 4 = 2 then 0 else hund (vY A M r n 5) (vY A M r n 6)).toInt64 else 1
theorem hfl_e {A A' : Nat → Nat → Int32} (e : A' 58 = A 58) : hfl A' = hfl A := by
  funext n w
  unfold hfl
  rw [e]
theorem sN_of {A : Nat → Nat → Int32} {n s : Nat} (hs : s < 20) (h : mst A s n = true) : sN A n = s := by
  have := of_decide_eq_true h
  unfold sN
  rw [this, nI_clamp (by omega)]
/-- what the model gathers for a view is what the class settles -/
theorem gv_eq {S S' : Nat → Int32} {A A' A1 : Nat → Nat → Int32} {B B' B1 : Nat → Nat → Int64} {M V D r s w : Nat} {x2 v13 : Int32} (hk : mKp S A B S' A' B') (hj : mJ S' A' M V D) (hr : r ≤ M) (hs : s < 20) (hd : dI A (mst A s) M) (hG : mG S' A' B' (nI s) 999 r A1 B1) : mcn (mpg S' A' (nI s) 999) r = mcn (mst A s) r ∧ ∀ k, k < mcn (mst A s) r → A1 60 k = nI (mix (mst A s) r k) ∧ mMk (mP S' 13 v13) A1 w x2 (nI s) k = vP A M r (A 66 w) x2 (mix (mst A s) r k) ∧ mMv A1 B1 w k = vF A M r (A 67 w) (mix (mst A s) r k) := by
  have hM := hj.1.2.1
  have e58 : A' 58 = A 58 := hk.2.1 58 (by decide)
  have est : mst A' s = mst A s := by funext n; unfold mst; rw [e58]
  have hpq : ∀ n, n < r → mpg S' A' (nI s) 999 n = mst A s n := fun n hn => by rw [mpg_st hj hr n hn, est]
  have hl : mcn (mpg S' A' (nI s) 999) r = mcn (mst A s) r := mcn_congr hpq
  have d1 : dI A' (mst A' s) M := dI_A (fun i _ => by rw [e58]) hd
  have hge := gath_eq hj.2 (show r ≤ 400 by omega) rfl rfl rfl (dI_c (mpg_st hj hr) (fun n hn hp => d1 n (by omega) hp)) hG
  rw [hl] at hge
  have k3 : ∀ k, k < mcn (mst A s) r → lF A' (mpg S' A' (nI s) 999) r k = lF A (mst A s) M k := fun k hk => by
    funext x
    unfold lF
    rw [hfl_e e58, mix_c hpq, mix_le hr hk]
  refine ⟨hl, fun k hk1 => ?_⟩
  obtain ⟨u1, u2, u3, u4, u5, u6, u7⟩ := hge k hk1
  obtain ⟨o1, o2, o3⟩ := mix_in hk1
  have hn := sN_of hs o2
  have hF : hfl A (mix (mst A s) r k) = lF A (mst A s) M k := by
    funext x
    unfold lF
    rw [mix_le hr hk1]
  have h0 : hfl A (mix (mst A s) r k) 0 = nI s := of_decide_eq_true o2
  have hW : vW A M r (mix (mst A s) r k) = (wS (lF A (mst A s) M) (mcn (mst A s) r) (mcn (mst A s) r)).1 k := by
    unfold vW vL
    rw [hn, o3]
  have hY : vY A M r (mix (mst A s) r k) = wY (lF A (mst A s) M) (mcn (mst A s) r) k := by
    unfold vY vL
    rw [hn, o3]
  have e66 : A1 66 = A 66 := by rw [mG_q hG 66 (by decide)]; exact hk.2.1 66 (by decide)
  have e67 : A1 67 = A 67 := by rw [mG_q hG 67 (by decide)]; exact hk.2.1 67 (by decide)
  refine ⟨by rw [u1, mix_c hpq], ?_, ?_⟩
  · unfold mMk vP mkd
    refine decide_eq_decide.mpr ?_
    rw [u3, u4 (mP S' 13 v13) (by rw [mP_n (by decide)]; exact hj.2), u5, u6, e66, wS_c k3 _ (Nat.le_refl _), wY_c k3 hk1, wY_c k3 hk1, k3 k hk1, h0, hW, hY, hF]
    exact ⟨fun z => ⟨z.2.1, z.1, z.2.2⟩, fun z => ⟨z.2.1, z.1, z.2.2⟩⟩
  · unfold mMv vF
    rw [u7, e67, wY_c k3 hk1, wY_c k3 hk1, k3 k hk1, hY, hF]
/-- a sum over all that is read is the sum over the streams -/
theorem mss_str {A : Nat → Nat → Int32} {P : Nat → Bool} {f : Nat → Int64} : ∀ R, (∀ n, n < R → sN A n < 20 ∧ mst A (sN A n) n = true) → mss P f R = dsum (fun s => mss (fun k => P (mix (mst A s) R k)) (fun k => f (mix (mst A s) R k)) (mcn (mst A s) R)) 20
  | 0, _ => (dsum_0 (fun _ _ => rfl)).symm
  | R + 1, h => by
    have ih := mss_str (P := P) (f := f) R (fun n hn => h n (by omega))
    obtain ⟨s1, s2⟩ := h R (Nat.lt_succ_self R)
    have lo : ∀ s, mss (fun k => P (mix (mst A s) (R + 1) k)) (fun k => f (mix (mst A s) (R + 1) k)) (mcn (mst A s) R) = mss (fun k => P (mix (mst A s) R k)) (fun k => f (mix (mst A s) R k)) (mcn (mst A s) R) := fun s => mss_congr (fun k hk => by rw [mix_s hk]) (fun k hk => by rw [mix_s hk])
    have ot : ∀ s, s < 20 → s ≠ sN A R → mss (fun k => P (mix (mst A s) (R + 1) k)) (fun k => f (mix (mst A s) (R + 1) k)) (mcn (mst A s) (R + 1)) = mss (fun k => P (mix (mst A s) R k)) (fun k => f (mix (mst A s) R k)) (mcn (mst A s) R) := fun s hs hne => by
      have hf : mst A s R = false := by
        cases hm : mst A s R with
        | true => exact absurd (sN_of hs hm).symm hne
        | false => rfl
      rw [mcn_f hf]
      exact lo s
    have hmx : mix (mst A (sN A R)) (R + 1) (mcn (mst A (sN A R)) R) = R := mix_at s2 (Nat.lt_succ_self R)
    cases hp : P R with
    | false =>
      rw [mss_f hp, ih]
      refine (mss_congr (fun _ _ => rfl) (fun s hs => ?_)).symm
      by_cases he : s = sN A R
      · subst he
        rw [mcn_t s2, mss_f (p := fun k => P (mix (mst A (sN A R)) (R + 1) k)) (by rw [hmx]; exact hp)]
        exact lo _
      · exact ot s hs he
    | true =>
      rw [mss_t hp, ih]
      have hup := dsum_up (a := fun s => mss (fun k => P (mix (mst A s) R k)) (fun k => f (mix (mst A s) R k)) (mcn (mst A s) R)) (d := sN A R) (x := f R) 20
      rw [if_pos s1] at hup
      rw [← hup]
      refine (mss_congr (fun _ _ => rfl) (fun s hs => ?_)).symm
      by_cases he : s = sN A R
      · subst he
        rw [pk_uLs, mcn_t s2, mss_t (p := fun k => P (mix (mst A (sN A R)) (R + 1) k)) (by rw [hmx]; exact hp), hmx, lo]
      · rw [pk_uLn he]
        exact ot s hs he
theorem mss_z {P : Nat → Bool} {f : Nat → Int64} : ∀ {n}, (∀ i, i < n → P i = false) → mss P f n = 0
  | 0, _ => rfl
  | n + 1, h => by rw [mss_f (h n (Nat.lt_succ_self n))]; exact mss_z (fun i hi => h i (by omega))
theorem mcn_z {P : Nat → Bool} : ∀ {n}, (∀ i, i < n → P i = false) → mcn P n = 0
  | 0, _ => rfl
  | n + 1, h => by rw [mcn_f (h n (Nat.lt_succ_self n))]; exact mcn_z (fun i hi => h i (by omega))
/-- no row beyond the rows of a view -/
theorem vP_out {S : Nat → Int32} {A : Nat → Nat → Int32} {M V D r n : Nat} {b x2 : Int32} (hj : mJ S A M V D) (hd : ∀ s, s < 20 → dI A (mst A s) M) (hr : r ≤ M) (hn : n < r) (ho : ¬ (0 ≤ x2 ∧ x2 ≤ rwsOf b - 1)) : vP A M r b x2 n = false := by
  refine decide_eq_false (fun z => ho ?_)
  obtain ⟨-, -, z⟩ := z
  obtain ⟨s1, s2, s3, s4, s5, s6⟩ := sN_is hj (show n < M by omega)
  have hk : mcn (mst A (sN A n)) n < vL A r n := mcn_lq hn s3
  have hl : vL A r n ≤ mcn (mst A (sN A n)) M := mcn_up hr
  have hT := (dI_F (hd _ s1) _ (Nat.lt_of_lt_of_le (wE_lt (F := lF A (mst A (sN A n)) M) hk) hl)).1
  have h7 : 0 ≤ vY A M r n 7 ∧ vY A M r n 7 ≤ 9 := hT.2.2.2.1
  have h8 : isD (vY A M r n 8) := hT.2.2.2.2.1
  rw [← z]
  unfold rwAsk rwsOf
  by_cases b0 : b = 0
  · rw [if_pos b0, if_pos b0]
    show 0 ≤ A 58 (10 * n) ∧ A 58 (10 * n) ≤ 20 - 1
    rw [s2]
    refine ⟨by rw [nk0p (by omega)]; omega, ?_⟩
    rw [show (20 : Int32) - 1 = nI 19 by decide, nI_leI (by omega) (by decide)]
    omega
  · rw [if_neg b0, if_neg b0]
    by_cases b1 : b = 1
    · rw [if_pos b1, if_pos b1]
      exact h7
    · rw [if_neg b1, if_neg b1]
      obtain ⟨d, hd2, e⟩ := isD_of h8
      rw [e, show (30 : Int32) = nI 30 from rfl, pk_div (by omega) (by decide) (by decide)]
      refine ⟨by rw [nk0p (by omega)]; omega, ?_⟩
      rw [show (34 : Int32) - 1 = nI 33 by decide, nI_leI (by omega) (by decide)]
      omega
set_option maxRecDepth 20000 in
theorem px58 {X : Nat × (Nat → Int32)} {h : xH} {i : Nat} (hW : xWF h) (hl : lX i h) (hi : 2 * i + 2 ≤ 1026) {x1 x2 : Int32} : okM X 58 [.ref 0, .int x1, .int x2] h (fun v h1 => ∃ r, v = some (.long r) ∧ lP X i 115 [.ref 57, .int x1, .int x2] h1 (fun v' => v' = some (.long r))) := by
  obtain ⟨S, A, B, M, V, D, a, hI, hm, hj, z1, z2, hH, hX⟩ := hl
  have hM := hj.1.2.1
  have hV := hj.1.2.2.2.2.1.2.1
  obtain ⟨⟨T, hS⟩, hjz, hdI⟩ := hX.1
  obtain ⟨gv, va, g1, g2, g3, g4⟩ := hX.2.2.2
  have hR : ∀ d, d < V → A 68 d = nI (A 68 d).toNatClampNeg ∧ (A 68 d).toNatClampNeg ≤ M := fun d hd => by
    obtain ⟨r, q1, q2⟩ := hj.1.2.2.2.2.1.2.2 d hd
    rw [q2, nI_clamp (by omega)]
    exact ⟨rfl, q1⟩
  have f3 : ∀ d, d < V → h.2.2 (va d) = some (.inr (7, [.int (A 66 d), .int (A 67 d), .int (nI (A 68 d).toNatClampNeg)])) := fun d hd => by
    rw [← (hR d hd).1]; exact g3 d hd
  have hc := ix58 (X := X) (x1 := x1) (x2 := x2) (M := M) (G := hfl A) (R := fun d => (A 68 d).toNatClampNeg) (b := fun d => A 66 d) (w := fun d => A 67 d) (Y := fun d => vY A M (A 68 d).toNatClampNeg) (W := fun d => vW A M (A 68 d).toNatClampNeg) hW hI.1 hV g1 g2 f3 (fun d hd => f79 hW hI (by omega) hS hjz hj hdI (hR d hd).2 (f3 d hd))
  refine pr_rl (P := fun v => (v = some (.long 0) ∧ ¬ ∃ d, d < V ∧ x1 = nI d) ∨ ∃ d, d < V ∧ x1 = nI d ∧ v = some (.long (mss (vP A M (A 68 d).toNatClampNeg (A 66 d) x2) (vF A M (A 68 d).toNatClampNeg (A 67 d)) (A 68 d).toNatClampNeg))) hI hm hj z1 z2 hH hX hW (by decide) (by decide) rfl rfl (rs_c0 (by simp)) (rs_m0 (by simp)) rfl rfl rfl (hc.mono (fun v h' q => ⟨?_, q⟩)) ?_
  · rcases q with ⟨z, -⟩ | ⟨d, -, -, z⟩ <;> exact ⟨_, z⟩
  intro v h1 q hW1 hm1
  refine ((mk115 hW1 hm1 hj).and (me115 (x1 := x1) (x2 := x2) (val := fun w s => mss (fun k => vP A M (A 68 w).toNatClampNeg (A 66 w) x2 (mix (mst A s) (A 68 w).toNatClampNeg k)) (fun k => vF A M (A 68 w).toNatClampNeg (A 67 w) (mix (mst A s) (A 68 w).toNatClampNeg k)) (mcn (mst A s) (A 68 w).toNatClampNeg)) hW1 hm1 hj (fun w r hw er hr S' A' B' A1 B1 s hs hk hj' hG => ?_))).mono ?_
  · have hrr : (A 68 w).toNatClampNeg = r := by rw [er, nI_clamp (by omega)]
    try dsimp only
    rw [hrr]
    obtain ⟨e1, e2⟩ := gv_eq (w := w) (x2 := x2) (v13 := nI (mcn (mpg S' A' (nI s) 999) r)) hk hj' hr hs (hdI s hs) hG
    rw [show mcn (mpg S' A' (nI s) 999) r = mcn (mst A s) r from e1] at e2 ⊢
    exact mss_congr (fun k hk1 => (e2 k hk1).2.1) (fun k hk1 => (e2 k hk1).2.2)
  rintro v' h' ⟨⟨-, q1⟩, q2⟩
  refine ⟨?_, q1⟩
  rcases q with ⟨rfl, n1⟩ | ⟨d, n1, n2, rfl⟩ <;> rcases q2 with ⟨rfl, m1⟩ | ⟨w, m1, m2, m3, rfl⟩
  · rfl
  · exact absurd ⟨w, m1, m2⟩ n1
  · rw [mss_z (fun k hk => vP_out hj hdI (hR d n1).2 hk (fun z => m1 ⟨d, n1, n2, z⟩))]
  · rw [n2, nI_eq (by omega) (by omega)] at m2
    subst m2
    rw [mss_str (A := A) _ (fun n hn => ⟨(sN_is hj (show n < M by have := (hR d n1).2; omega)).1, (sN_is hj (show n < M by have := (hR d n1).2; omega)).2.2.1⟩)]
set_option maxRecDepth 20000 in
theorem px59 {X : Nat × (Nat → Int32)} {h : xH} {i : Nat} (hW : xWF h) (hl : lX i h) (hi : 2 * i + 2 ≤ 1026) {x1 x2 x3 : Int32} : okM X 59 [.ref 0, .int x1, .int x2, .int x3] h (fun v h1 => ∃ r, v = some (.int r) ∧ lP X i 116 [.ref 57, .int x1, .int x2, .int x3] h1 (fun v' => v' = some (.int r))) := by
  obtain ⟨S, A, B, M, V, D, a, hI, hm, hj, z1, z2, hH, hX⟩ := hl
  have hM := hj.1.2.1
  have hV := hj.1.2.2.2.2.1.2.1
  obtain ⟨⟨T, hS⟩, hjz, hdI⟩ := hX.1
  obtain ⟨gv, va, g1, g2, g3, g4⟩ := hX.2.2.2
  have hR : ∀ d, d < V → A 68 d = nI (A 68 d).toNatClampNeg ∧ (A 68 d).toNatClampNeg ≤ M := fun d hd => by
    obtain ⟨r, q1, q2⟩ := hj.1.2.2.2.2.1.2.2 d hd
    rw [q2, nI_clamp (by omega)]
    exact ⟨rfl, q1⟩
  have f3 : ∀ d, d < V → h.2.2 (va d) = some (.inr (7, [.int (A 66 d), .int (A 67 d), .int (nI (A 68 d).toNatClampNeg)])) := fun d hd => by
    rw [← (hR d hd).1]; exact g3 d hd
  have hc := ix59 (X := X) (x1 := x1) (x2 := x2) (x3 := x3) (M := M) (G := hfl A) (R := fun d => (A 68 d).toNatClampNeg) (b := fun d => A 66 d) (w := fun d => A 67 d) (Y := fun d => vY A M (A 68 d).toNatClampNeg) (W := fun d => vW A M (A 68 d).toNatClampNeg) hW hI.1 hV g1 g2 f3 (fun d hd => f79 hW hI (by omega) hS hjz hj hdI (hR d hd).2 (f3 d hd))
  refine pr_rx (P := fun v => (v = some (.int (-1)) ∧ ¬ ((∃ d, d < V ∧ x1 = nI d) ∧ ¬ x3 < 0)) ∨ ∃ d k0, d < V ∧ x1 = nI d ∧ k0 < 2 ^ 31 ∧ x3 = nI k0 ∧ ((∃ n, n < (A 68 d).toNatClampNeg ∧ vP A M (A 68 d).toNatClampNeg (A 66 d) x2 n = true ∧ mcn (vP A M (A 68 d).toNatClampNeg (A 66 d) x2) n = k0 ∧ v = some (.int (nI n))) ∨ (mcn (vP A M (A 68 d).toNatClampNeg (A 66 d) x2) (A 68 d).toNatClampNeg ≤ k0 ∧ v = some (.int (-1))))) hI hm hj z1 z2 hH hX hW (by decide) (by decide) rfl rfl (rs_c0 (by simp)) (rs_m0 (by simp)) rfl rfl rfl (hc.mono (fun v h' q => ⟨?_, q⟩)) ?_
  · rcases q with ⟨z, -⟩ | ⟨d, k0, -, -, -, -, ⟨n, -, -, -, z⟩ | ⟨-, z⟩⟩ <;> exact ⟨_, z⟩
  intro v h1 q hW1 hm1
  refine ((mk116 hW1 hm1 hj).and (me116 (x1 := x1) (x2 := x2) (x3 := x3) (Pb := fun w n => vP A M (A 68 w).toNatClampNeg (A 66 w) x2 n) hW1 hm1 hj (fun w r hw er hr S' A' B' A1 B1 s hs hk hj' hG n hn => ?_))).mono ?_
  · have hrr : (A 68 w).toNatClampNeg = r := by rw [er, nI_clamp (by omega)]
    try dsimp only
    rw [hrr]
    obtain ⟨e1, e2⟩ := gv_eq (w := w) (x2 := x2) (v13 := nI (mcn (mpg S' A' (nI s) 999) r)) hk hj' hr hs (hdI s hs) hG
    rw [show mcn (mpg S' A' (nI s) 999) r = mcn (mst A s) r from e1] at e2 ⊢
    constructor
    · rintro ⟨j, j1, j2, j3⟩
      obtain ⟨o1, o2, o3⟩ := mix_in j1
      obtain ⟨u1, u2, -⟩ := e2 j j1
      rw [u1, nI_eq (by omega) (by omega)] at j2
      subst j2
      exact ⟨o1, sN_of hs o2, by rw [← u2]; exact j3⟩
    · rintro ⟨n1, n2, n3⟩
      obtain ⟨s1, s2, s3, -⟩ := sN_is hj (show n < M by omega)
      rw [n2] at s3
      have hj1 := mcn_lq n1 s3
      have hmx := mix_at (p := mst A s) s3 n1
      obtain ⟨u1, u2, -⟩ := e2 _ hj1
      rw [hmx] at u1 u2
      exact ⟨_, hj1, u1, by rw [u2]; exact n3⟩
  rintro v' h' ⟨⟨-, q1⟩, q2⟩
  refine ⟨?_, q1⟩
  rcases q with ⟨rfl, n1⟩ | ⟨d, k0, n1, n2, n3, n4, n5⟩ <;> rcases q2 with ⟨rfl, m1⟩ | ⟨w, r, k1, m1, m2, m3, m4, m5, m6, m7, m8⟩
  · rfl
  · exact absurd ⟨⟨w, m1, m2⟩, by rw [m5]; exact qn_n0 m4⟩ n1
  · rcases n5 with ⟨n, u1, u2, -⟩ | ⟨-, rfl⟩
    · rw [vP_out hj hdI (hR d n1).2 u1 (fun z => m1 ⟨⟨d, n1, n2, z⟩, by rw [n4]; exact qn_n0 n3⟩)] at u2
      cases u2
    · rfl
  · rw [n2, nI_eq (by omega) (by omega)] at m2
    subst m2
    rw [n4, nI_eq (by omega) (by omega)] at m5
    subst m5
    have hrr : (A 68 d).toNatClampNeg = r := by rw [m6, nI_clamp (by omega)]
    rw [hrr] at n5
    try dsimp only at m8
    rw [hrr] at m8
    have hcg : ∀ n, n ≤ r → mcn (fun n => decide (n < r) && vP A M r (A 66 d) x2 n) n = mcn (vP A M r (A 66 d) x2) n := fun n hn => mcn_congr (fun x hx => by rw [decide_eq_true (show x < r by omega), Bool.true_and])
    have hcM : mcn (fun n => decide (n < r) && vP A M r (A 66 d) x2 n) M = mcn (vP A M r (A 66 d) x2) r := by
      rw [← mcn_cut (q := vP A M r (A 66 d) x2) m7]
      exact mcn_congr (fun x hx => Bool.and_comm _ _)
    rw [hcM] at m8
    rcases n5 with ⟨n, u1, u2, u3, rfl⟩ | ⟨u1, rfl⟩ <;> rcases m8 with ⟨n', w1, w2, w3, rfl⟩ | ⟨w1, rfl⟩
    · rw [hcg n' (by omega)] at w3
      have : n = n' := by
        rcases Nat.lt_trichotomy n n' with z | z | z
        · have := mcn_lq z u2; omega
        · exact z
        · have := mcn_lq z w2; omega
      rw [this]
    · have := mcn_lq u1 u2
      omega
    · rw [hcg n' (by omega)] at w3
      have := mcn_lq w1 w2
      omega
    · rfl
