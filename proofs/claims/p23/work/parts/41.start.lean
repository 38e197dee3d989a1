/-! THE START: both constructors, run by the kernel -/
set_option maxRecDepth 100000 in
theorem xno23 : (List.range 131).all (fun j => (xall (xTab j).1).all (fun q => !(Nat.beq q.2.1 23))) = true := by decide +kernel
theorem xst_X {X X' : Nat × (Nat → Int32)} {I : xI} {f : xF} {h : xH} (hI : I.1 ≠ 23) : xst X I f h = xst X' I f h := by
  obtain ⟨k, i, len, a, b⟩ := I
  unfold xst
  dsimp only at hI ⊢
  split
  all_goals first
    | rfl
    | exact absurd rfl hI
theorem xrun_X {X X' : Nat × (Nat → Int32)} : ∀ {n j : Nat} {f : xF} {h : xH} {r : Option Value} {h' : xH}, j < 131 → xrun X n (xTab j).1 f h = some (r, h') → ok X' (xTab j).1 f h (fun r2 h2 => r2 = r ∧ h2 = h')
  | 0, _, _, _, _, _, _, hs => by cases hs
  | n + 1, j, f, h, r, h', hj, hs => by
    obtain ⟨I, hI, ⟨h0, hst, rfl, rfl⟩ | ⟨h0, v, hst, hv, rfl, rfl⟩ | ⟨vs, rest, v, h1, hk, hst, hn, hc, hl, h0, hr, hs⟩ | ⟨g, hg, hs⟩⟩ := xrun_cases hs
    · exact ok_r0 hI h0 hst ⟨rfl, rfl⟩
    · exact ok_r1 hI h0 hst hv ⟨rfl, rfl⟩
    · have hw := xmkk_at (Nat.lt_succ_of_lt hj) hI
      have hck := (xat (Nat.lt_succ_of_lt hj) hI).2.1
      have ha : I.2.2.2.1 < 131 := by
        obtain ⟨k, i, len, a, b⟩ := I
        dsimp only at hk hck ⊢
        rcases hk with rfl | rfl | rfl <;> simp only [xck] at hck <;> split at hck <;> first | exact (xck_ml hck).1 | cases hck
      refine ok_cl hI ?_ hst hn hc hl h0 (xrun_X ha hr) (fun v' h1' hp => ?_)
      · rcases hk with hk | hk | hk <;> rw [hk] <;> rfl
      · obtain ⟨rfl, rfl⟩ := hp
        exact xrun_X hj hs
    · have h23 : I.1 ≠ 23 := by
        have hm := xlk2_mem hI
        have h3 := List.all_eq_true.mp xno23 j (List.mem_range.mpr hj)
        generalize xall (xTab j).1 = C at hm h3
        have h4 := List.all_eq_true.mp h3 (f.1, I) hm
        intro e
        rw [show ((f.1, I) : Nat × xI).2.1 = I.1 from rfl, e] at h4
        cases h4
      have hk5 : Nat.ble 5 I.1 = true := by
        cases hz : Nat.ble 5 I.1 with
        | true => rfl
        | false =>
          exfalso
          obtain ⟨k, i, len, a, b⟩ := I
          have h5 : k < 5 := by
            rcases Nat.lt_or_ge k 5 with q | q
            · exact q
            · rw [Nat.ble_eq_true_of_le q] at hz; cases hz
          unfold xst at hg
          dsimp only at hg
          match k, h5 with
          | 0, _ => cases hg
          | 1, _ => cases hg
          | 2, _ => cases hg
          | 3, _ => cases hg
          | 4, _ => cases hg
      refine ok_st hI hk5 ?_
      rw [xst_X (X' := X) h23, hg]
      exact xrun_X hj hs
def X00 : Nat × (Nat → Int32) := (0, fun _ => 0)
def hA0 : xH := xnew (0, 0, fun _ => none) 10 (.inr (8, xfs 8))
def rB0 : Option (Option Value × xH) := xrun X00 3000 (xTab 44).1 (0, xent 2 [.ref 0], []) hA0
def hB0 : xH := match rB0 with
  | some (_, h) => h
  | none => hA0
def isv (r : Option (Option Value × xH)) : Bool := match r with
  | some (none, _) => true
  | _ => false
set_option maxRecDepth 100000 in
theorem rB0_ok : isv rB0 = true := by decide +kernel
set_option maxRecDepth 100000 in
theorem hB0_size : (Nat.beq hB0.1 57 && Nat.ble hB0.2.1 2000) = true := by decide +kernel
def hC0 : xH := xnew hB0 30 (.inr (9, xfs 9))
def rD0 : Option (Option Value × xH) := xrun X00 1000 (xTab 86).1 (0, xent 1 [.ref 57], []) hC0
def hD0 : xH := match rD0 with
  | some (_, h) => h
  | none => hC0
set_option maxRecDepth 100000 in
theorem rD0_ok : isv rD0 = true := by decide +kernel
set_option maxRecDepth 100000 in
theorem hD0_size : (Nat.beq hD0.1 79 && Nat.ble hD0.2.1 9000) = true := by decide +kernel
