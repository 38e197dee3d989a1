/-! RUNS THAT COME TO A GOOD END -/
theorem xrun_fuel {X : Nat × (Nat → Int32)} : ∀ {n m : Nat} {C : xC} {f : xF} {h : xH} {o : Option Value × xH}, n ≤ m → xrun X n C f h = some o → xrun X m C f h = some o
  | 0, _, _, _, _, _, _, hs => by cases hs
  | n + 1, 0, _, _, _, _, hm, _ => absurd hm (by omega)
  | n + 1, m + 1, C, f, h, o, hm, hs => by
    have hm' : n ≤ m := by omega
    unfold xrun at hs ⊢
    split at hs
    · cases hs
    · rename_i I hI
      split at hs
      · exact hs
      · exact hs
      · rename_i n0 n1
        cases hb : Nat.blt I.1 5 with
        | true =>
          rw [hb] at hs
          simp only [cond_true] at hs ⊢
          split at hs
          · rename_i hc
            rw [if_pos hc]
            split at hs
            · cases hs
            · rename_i v h1 hr
              rw [xrun_fuel hm' hr]
              exact xrun_fuel hm' hs
          · cases hs
        | false =>
          rw [hb] at hs
          simp only [cond_false] at hs ⊢
          split at hs
          · cases hs
          · rename_i g h1 hg
            exact xrun_fuel hm' hs
def ok (X : Nat × (Nat → Int32)) (C : xC) (f : xF) (h : xH) (Q : Option Value → xH → Prop) : Prop := ∃ n r h', xrun X n C f h = some (r, h') ∧ Q r h'
/-- a method's run from its start -/
def okM (X : Nat × (Nat → Int32)) (j : Nat) (vs : List Value) (h : xH) (Q : Option Value → xH → Prop) : Prop := ok X (xTab j).1 (0, xent (xTab j).2.2.1 vs, []) h Q
section OK
variable {X : Nat × (Nat → Int32)} {C : xC} {f : xF} {h : xH} {Q P : Option Value → xH → Prop}
theorem ok.mono (hk : ok X C f h P) (hm : ∀ r h', P r h' → Q r h') : ok X C f h Q := by
  obtain ⟨n, r, h', h1, h2⟩ := hk
  exact ⟨n, r, h', h1, hm r h' h2⟩
/-- what is asked behind one step -/
def okS (X : Nat × (Nat → Int32)) (C : xC) (Q : Option Value → xH → Prop) (o : Option (xF × xH)) : Prop := match o with
  | some g => ok X C g.1 g.2 Q
  | none => False
theorem ok_st {I : xI} (hI : xlk2 C f.1 = some I) (hk : Nat.ble 5 I.1 = true) (hs : okS X C Q (xst X I f h)) : ok X C f h Q := by
  unfold okS at hs
  split at hs
  · rename_i g hg
    obtain ⟨n, r, h', h1, h2⟩ := hs
    refine ⟨n + 1, r, h', ?_, h2⟩
    unfold xrun
    rw [hI]
    dsimp only
    have h5 : 5 ≤ I.1 := Nat.le_of_ble_eq_true hk
    split
    · rename_i h0; rw [h0] at h5; omega
    · rename_i h0; rw [h0] at h5; omega
    · have hb : Nat.blt I.1 5 = false := by
        cases hz : Nat.blt I.1 5 with
        | true => exact absurd (Nat.le_of_ble_eq_true hz) (by omega)
        | false => rfl
      rw [hb, hg]
      exact h1
  · cases hs
theorem ok_r0 {I : xI} (hI : xlk2 C f.1 = some I) (hk : I.1 = 0) (hs : f.2.2 = []) (hQ : Q none h) : ok X C f h Q := by
  refine ⟨1, none, h, ?_, hQ⟩
  unfold xrun
  rw [hI]
  dsimp only
  rw [hk, hs]
  rfl
theorem ok_r1 {I : xI} {v : Value} (hI : xlk2 C f.1 = some I) (hk : I.1 = 1) (hs : f.2.2 = [v]) (hv : xrt I.2.2.2.1 v = true) (hQ : Q (some v) h) : ok X C f h Q := by
  refine ⟨1, some v, h, ?_, hQ⟩
  unfold xrun
  rw [hI]
  dsimp only
  rw [hk, hs]
  simp [hv]
theorem ok_cl {I : xI} {vs rest : List Value} (hI : xlk2 C f.1 = some I) (hk : (Nat.ble 2 I.1 && Nat.ble I.1 4) = true) (hs : f.2.2 = vs.reverse ++ rest) (hn : vs.length = (xTab I.2.2.2.1).2.1) (hc : xcat rest ≤ 8) (hl : (xsl vs).length ≤ (xTab I.2.2.2.1).2.2.1) (h0 : xcl0 I.1 (xTab I.2.2.2.1).2.2.2 vs h = true)
    (hM : okM X I.2.2.2.1 vs h P) (kk : ∀ v h1, P v h1 → ok X C (f.1 + 3, f.2.1, v.toList ++ rest) h1 Q) : ok X C f h Q := by
  obtain ⟨n1, v, h1, r1, p1⟩ := hM
  obtain ⟨n2, r, h', r2, q2⟩ := kk v h1 p1
  refine ⟨max n1 n2 + 1, r, h', ?_, q2⟩
  unfold xrun
  rw [hI]
  dsimp only
  simp only [Bool.and_eq_true] at hk
  have h2 : 2 ≤ I.1 := Nat.le_of_ble_eq_true hk.1
  have h4 : I.1 ≤ 4 := Nat.le_of_ble_eq_true hk.2
  split
  · rename_i h0; rw [h0] at h2; omega
  · rename_i h0; rw [h0] at h2; omega
  · have hb : Nat.blt I.1 5 = true := Nat.ble_eq_true_of_le (by omega)
    have ht : f.2.2.take (xTab I.2.2.2.1).2.1 = vs.reverse := by rw [hs, ← hn, ← List.length_reverse, List.take_left]
    have hd : f.2.2.drop (xTab I.2.2.2.1).2.1 = rest := by rw [hs, ← hn, ← List.length_reverse, List.drop_left]
    rw [hb, ht, hd, List.reverse_reverse, List.length_reverse, if_pos ⟨hn, hc, hl, h0⟩]
    simp only [cond_true]
    rw [xrun_fuel (Nat.le_max_left n1 n2) r1]
    exact xrun_fuel (Nat.le_max_right n1 n2) r2
end OK
