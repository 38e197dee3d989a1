/-! PAIRS: at, lead -/
theorem okM_k {X : Nat × (Nat → Int32)} {j : Nat} {vs : List Value} {h : xH} {P : Option Value → xH → Prop} (hj : j < 132) (hW : xWF h) (hM : okM X j vs h P) : okM X j vs h (fun v h' => P v h' ∧ xkq (xwf j) (xwt j) (xmk j) h h') := by
  obtain ⟨n, r, h', h1, h2⟩ := hM
  obtain ⟨i1, i2, i3⟩ := xrun_inv hj hW h1
  exact ⟨n, r, h', h1, h2, i1, i2, xrun_bk hj h1⟩
theorem mix_le {q : Nat → Bool} {r M k : Nat} (hr : r ≤ M) (hk : k < mcn q r) : mix q M k = mix q r k := by
  obtain ⟨o1, o2, o3⟩ := mix_in hk
  have := mix_at (p := q) (n := mix q r k) o2 (M := M) (by omega)
  rw [o3] at this
  exact this
theorem mcn_cut {q : Nat → Bool} {r : Nat} : ∀ {M}, r ≤ M → mcn (fun n => q n && decide (n < r)) M = mcn q r
  | 0, h => by rw [Nat.le_zero.mp h]; rfl
  | M + 1, h => by
    by_cases he : r = M + 1
    · subst he
      exact mcn_congr (fun i hi => by rw [decide_eq_true hi, Bool.and_true])
    · rw [mcn_f (p := fun n => q n && decide (n < r)) (by rw [decide_eq_false (by omega), Bool.and_false])]
      exact mcn_cut (by omega)
/-- rows are rows when some of their happenings are settled -/
theorem cS_sC {h h' : xH} {A : Nat → Nat → Int32} {M s l : Nat} {a T : Nat → Nat} {V' : Nat → Int32} {M' : Nat → Value} (hS : cS h A M a T) {n8 n9 : Nat} {k8 k9 : xK} (j8 : h.2.2 8 = some (.inl (1, n8, k8))) (j9 : h.2.2 9 = some (.inl (1, n9, k9))) (hl : l ≤ mcn (mst A s) M) (hs1 : sC h h' (fun k => a (mix (mst A s) M k)) (lF A (mst A s) M) l V' M') : cS h' A M a T := by
  obtain ⟨Vv, Mv, hcell⟩ := hS.2.2.2.2.1
  have hq : ∀ k, k < l → ∃ fs, h.2.2 (a (mix (mst A s) M k)) = some (.inr (2, fs)) := fun k hk => ⟨_, hcell _ (mix_in (show k < mcn (mst A s) M by omega)).1⟩
  refine cS_keep hS (fun _ _ => rfl) (fun p e he q1 _ _ _ _ _ => ?_) ?_ (fun i hi => ?_)
  · rw [hs1.2.1 p (fun k hk z => ?_)]
    · exact he
    · obtain ⟨fs, hf⟩ := hq k hk
      rw [z, hf] at he
      injection he with he
      exact q1 fs he.symm
  · refine ch2 (P := fun n v m => h'.2.2 (a n) = some (.inr (2, [.int (hfl A n 0), .int (hfl A n 1), .int (hfl A n 2), .int (hfl A n 3), .int (hfl A n 4), .int (hfl A n 5), .int (hfl A n 6), .int (hfl A n 7), .int (hfl A n 8), .int (hfl A n 9), .int (hfl A n 10), .int v, m]))) (fun n hn => ?_)
    try dsimp only
    by_cases hz : ∃ k, k < l ∧ a n = a (mix (mst A s) M k)
    · obtain ⟨k, hk, hz⟩ := hz
      have hm := (mix_in (show k < mcn (mst A s) M by omega)).1
      have e := hS.2.2.2.2.2.1 _ _ hn hm hz
      rw [hz]
      have := hs1.2.2 k hk
      rw [e]
      exact ⟨_, _, this⟩
    · rw [hs1.2.1 (a n) (fun k hk z => hz ⟨k, hk, z⟩)]
      exact ⟨_, _, hcell n hn⟩
  · obtain ⟨len, g, q⟩ := cS_T hS i hi
    exact ⟨ne_aa q j8 (by decide), ne_aa q j9 (by decide)⟩
/-- what a view that has read r finds void, and what it reads as mended -/
def vL (A : Nat → Nat → Int32) (r n : Nat) : Nat := mcn (mst A (sN A n)) r
def vW (A : Nat → Nat → Int32) (M r n : Nat) : Int32 := (wS (lF A (mst A (sN A n)) M) (vL A r n) (vL A r n)).1 (mcn (mst A (sN A n)) n)
def vY (A : Nat → Nat → Int32) (M r n : Nat) : Nat → Int32 := wY (lF A (mst A (sN A n)) M) (vL A r n) (mcn (mst A (sN A n)) n)
def vM (A : Nat → Nat → Int32) (M r : Nat) (a : Nat → Nat) (n : Nat) : Value := sM (fun k => a (mix (mst A (sN A n)) M k)) (wS (lF A (mst A (sN A n)) M) (vL A r n) (vL A r n)).2 (mcn (mst A (sN A n)) n)
/-- streams below s are settled -/
def stI (h0 : xH) (c : Nat) (td vc dc : Int32) (A : Nat → Nat → Int32) (M r : Nat) (a T : Nat → Nat) (s : Nat) (h : xH) : Prop :=
  cI c td vc dc h ∧ cS h A M a T ∧ (∀ p e, h0.2.2 p = some e → (∀ fs, e ≠ .inr (2, fs)) → h.2.2 p = some e) ∧ ∀ n, n < r → sN A n < s → h.2.2 (a n) = some (.inr (2, [.int (hfl A n 0), .int (hfl A n 1), .int (hfl A n 2), .int (hfl A n 3), .int (hfl A n 4), .int (hfl A n 5), .int (hfl A n 6), .int (hfl A n 7), .int (hfl A n 8), .int (hfl A n 9), .int (hfl A n 10), .int (vW A M r n), vM A M r a n]))
theorem cS_af {X : Nat × (Nat → Int32)} {h : xH} {c : Nat} {td vc dc : Int32} {A : Nat → Nat → Int32} {M r : Nat} {a T : Nat → Nat} (hW : xWF h) (hI : cI c td vc dc h) (hc : c ≤ 1026) (hS : cS h A M a T) (hM : M ≤ 400) (hr : r ≤ M) {s : Nat} (hs : s < 20) : okM X 35 [.ref (rw' s), .int (nI r)] h (fun v h' => h = h' ∧ v = some (.int (nI (mcn (mst A s) r)))) := by
  obtain ⟨-, -, h3, -, ⟨Vv, Mv, hcell⟩, hinj, -⟩ := hS
  obtain ⟨r1, len, g, r2, r3, r4⟩ := h3 s hs
  have hlen := (cI_len hI r1 r2).2
  have hcnt : mcn (fun k => decide (lF A (mst A s) M k 2 < nI r)) (mcn (mst A s) M) = mcn (mst A s) r := by
    rw [← mcn_cut (q := mst A s) hr, mcn_mix (q := mst A s) (d := fun n => decide (n < r))]
    refine mcn_congr (fun k hk => decide_eq_decide.mpr ?_)
    have := (mix_in hk).1
    show nI (mix (mst A s) M k) < nI r ↔ _
    rw [nI_ltI (by omega) (by omega)]
  have := ix35 (X := X) (x1 := nI r) (q := fun k => a (mix (mst A s) M k)) (V := fun k => Vv (mix (mst A s) M k)) (Mv := fun k => Mv (mix (mst A s) M k)) (F := lF A (mst A s) M) hW r3 (by omega) (Nat.le_trans (mcn_le _ _) hM) (fun k hk => by
    obtain ⟨q1, q2, q3⟩ := mix_in hk
    have := r4 _ q1 q2
    rw [q3] at this
    exact this) r1 r2 (fun k hk => hcell _ (mix_in hk).1)
  rw [hcnt] at this
  exact this
set_option maxRecDepth 20000 in
theorem f79 {X : Nat × (Nat → Int32)} {h : xH} {c : Nat} {td vc dc : Int32} {S : Nat → Int32} {A : Nat → Nat → Int32} {M V D r p : Nat} {a T : Nat → Nat} {b w : Int32} (hW : xWF h) (hI : cI c td vc dc h) (hc : c ≤ 1026) (hS : cS h A M a T) (hz : jZ h) (hj : mJ S A M V D) (hd : ∀ s, s < 20 → dI A (mst A s) M) (hr : r ≤ M) (hp : h.2.2 p = some (.inr (7, [.int b, .int w, .int (nI r)]))) : okM X 79 [.ref 0, .int (nI r)] h (fun v h' => v = none ∧ atS h' p M r b w (hfl A) (vY A M r) (vW A M r)) := by
  have hM := hj.1.2.1
  obtain ⟨⟨y1, y2, y3, y4, y5, y6, y7, s8, h6⟩, -, g8, g9, h8, h9, -⟩ := hz
  have h0 := hI.1
  have i0 : stI h c td vc dc A M r a T 0 h := ⟨hI, hS, fun _ _ he _ => he, fun n _ z => absurd z (Nat.not_lt_zero _)⟩
  refine (ix79 (I := stI h c td vc dc A M r a T) (L := fun s => mcn (mst A s) r) hW (fun s h1 hs q => ?_) (fun s h1 hs hW1 q => cS_af hW1 q.1 hc q.2.1 hM hr hs) (fun s h1 hs hW1 q => ?_) i0).mono ?_
  · obtain ⟨gs, f1, f2⟩ := q.2.1.2.1
    exact ⟨td, vc, dc, gs, _, _, q.1.1, f1, f2, (q.2.1.2.2.1 s hs).1, q.2.2.1 _ _ h6 (fun fs z => by cases z)⟩
  · obtain ⟨qI, qS, qF, qC⟩ := q
    have hlr : mcn (mst A s) r ≤ mcn (mst A s) M := mcn_up hr
    refine (okM_k (by decide) hW1 (cS_settle hW1 qI hc qS hM hd hs hlr)).mono ?_
    rintro v h2 ⟨⟨rfl, hs1⟩, k⟩
    obtain ⟨Vv, Mv, hcell⟩ := qS.2.2.2.2.1
    refine ⟨rfl, qI.kp k (by decide), cS_sC qS (qF _ _ h8 (fun fs z => by cases z)) (qF _ _ h9 (fun fs z => by cases z)) hlr hs1, fun x e he q1 => ?_, fun n hn hsn => ?_⟩
    · have h3 := qF x e he q1
      rw [hs1.2.1 x (fun k hk z => ?_)]
      · exact h3
      · have := hcell _ (mix_in (show k < mcn (mst A s) M by omega)).1
        rw [z, this] at h3
        injection h3 with h3
        exact q1 _ h3.symm
    · obtain ⟨s1, s2, s3, s4, s5, s6⟩ := sN_is hj (show n < M by omega)
      by_cases he : sN A n = s
      · subst he
        have := hs1.2.2 (mcn (mst A (sN A n)) n) (mcn_lq hn s3)
        simp only [lF, s5] at this
        exact this
      · rw [hs1.2.1 (a n) (fun k hk z => he ?_)]
        · exact qC n hn (by omega)
        · obtain ⟨o1, o2, -⟩ := mix_in (show k < mcn (mst A s) M by omega)
          have e := qS.2.2.2.2.2.1 _ _ (show n < M by omega) o1 z
          have o3 : A 58 (10 * n) = nI s := by rw [e]; exact of_decide_eq_true o2
          rw [s2, nI_eq (by omega) (by omega)] at o3
          exact o3
  · rintro v h' ⟨rfl, qI, qS, qF, qC⟩
    obtain ⟨⟨e1, len1, g1, e2, e3, e4⟩, -⟩ := id qS
    have hlen := (cI_len qI e1 e2).2
    have hC : ∀ n, n < r → h'.2.2 (a n) = _ := fun n hn => qC n hn (sN_is hj (show n < M by omega)).1
    refine ⟨rfl, td, vc, dc, T 0, len1, g1, a, vM A M r a, qI.1, e1, e2, e3, by omega, hM, hr, e4, qF _ _ hp (fun fs z => by cases z), hC, fun n hn => ?_⟩
    obtain ⟨s1, s2, s3, s4, s5, s6⟩ := sN_is hj (show n < M by omega)
    have hk := mcn_lq hn s3
    unfold vM vY sM wY wE
    have e : lF A (mst A (sN A n)) M (mcn (mst A (sN A n)) n) = hfl A n := by funext x; unfold lF; rw [s5]
    cases hm : (wS (lF A (mst A (sN A n)) M) (vL A r n) (vL A r n)).2 (mcn (mst A (sN A n)) n) with
    | none =>
      refine Or.inl ⟨rfl, ?_, ?_, ?_, ?_⟩ <;> (show lF A (mst A (sN A n)) M (mcn (mst A (sN A n)) n) _ = _; rw [e])
    | some i =>
      have hi := wS_lt (vL A r n) (Nat.le_refl _) _ i hm
      have hi2 : mix (mst A (sN A n)) M i < r := by rw [mix_le hr hi]; exact (mix_in hi).1
      exact Or.inr ⟨a (mix (mst A (sN A n)) M i), _, _, _, _, _, _, _, _, _, rfl, hC _ hi2⟩
