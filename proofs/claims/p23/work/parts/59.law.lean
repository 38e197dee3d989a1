/-! THE LAW -/
theorem l_il {X : Nat × (Nat → Int32)} {C : xC} {pc : Nat} {L : List (Option Value)} {st : List Value} {h : xH} {Q : Option Value → xH → Prop} {a b q : Nat} {j : Int32} (hI : xlk2 C pc = some (23, .iaload, 1, a, b)) (hj : xIn j X.1) (kk : ok X C (pc + 1, L, .int (X.2 j.toNatClampNeg) :: st) h Q) : ok X C (pc, L, .int j :: .retAddr q :: st) h Q := by
  refine ok_go (g := (pc + 1, L, .int (X.2 j.toNatClampNeg) :: st)) (h1 := h) hI rfl ?_ kk
  simp [xst, xq3, hj]
theorem mJ_day {S : Nat → Int32} {A : Nat → Nat → Int32} {M V D : Nat} {x : Int32} (h : mJ S A M V D) (h1 : ¬ x ≤ S 2) (h2 : x ≤ 999) : mJ (mP S 2 x) A M V D := by
  obtain ⟨⟨a1, a2, a3, a4, ⟨a5, a51, a52⟩, a6, a7, a8⟩, a9⟩ := h
  refine ⟨⟨by rw [mP_n (by decide)]; exact a1, a2, ?_, a4, ⟨by rw [mP_n (by decide)]; exact a5, a51, a52⟩, by rw [mP_n (by decide)]; exact a6, a7, a8⟩, by rw [mP_n (by decide)]; exact a9⟩
  rw [mP_s]
  exact ⟨Int32.le_trans a3.1 (Int32.le_of_lt (Int32.not_le.mp h1)), h2⟩
theorem l_go {L i : Nat} (hL : L ≤ 4096) (hi : 8 * i ≤ 4096) (h : nI (8 * i) ≤ nI L - 8) : 8 * i + 8 ≤ L := by
  rw [Int32.le_iff_toInt_le, nI_toInt (by omega), fb_subI (by rw [nI_toInt (by omega)]; show -2147483648 ≤ (L : Int) - 8; omega) (by rw [nI_toInt (by omega)]; show (L : Int) - 8 < 2147483648; omega), nI_toInt (by omega)] at h
  have h3 : (8 * i : Nat) ≤ (L : Int) - 8 := h
  omega
def lQ (v : Option Value) (h' : xH) : Prop := v = some (.int 1) ∧ h'.1 ≤ 600000 ∧ h'.2.1 ≤ 7302250
/-- what holds before each call -/
def lI (i : Nat) (h : xH) : Prop := ∃ (td vc dc : Int32) (S : Nat → Int32) (A : Nat → Nat → Int32) (B : Nat → Nat → Int64) (M V D : Nat), cI (2 * i) td vc dc h ∧ mC S A B h ∧ mJ S A M V D ∧ S 2 = td ∧ h.1 ≤ 79 + 1030 * i ∧ h.2.1 ≤ 9000 + 8300 * i
set_option maxRecDepth 20000 in
theorem law_start {X : Nat × (Nat → Int32)} {Q : Option Value → xH → Prop} (kk : ok X cd131 (18, [some (.retAddr 0), some (.ref 0), some (.ref 57), some (.int (nI 0))], []) hD0 Q) : ok X cd131 (0, xent 4 [.retAddr 0], []) (0, 0, fun _ => none) Q := by
  have o1 : okM X 44 [.ref 0] hA0 (fun v h' => v = none ∧ h' = hB0) := xrun_X (j := 44) (by decide) rB0_is
  have o2 : okM X 86 [.ref 57] hC0 (fun v h' => v = none ∧ h' = hD0) := xrun_X (j := 86) (by decide) rD0_is
  show ok X cd131 (0, [some (.retAddr 0), none, none, none], []) (0, 0, fun _ => none) Q
  refine ok_go (g := (3, [some (.retAddr 0), none, none, none], [.ref 0])) (h1 := hA0) rfl rfl rfl ?_
  refine ok_go (g := (4, [some (.retAddr 0), none, none, none], [.ref 0, .ref 0])) (h1 := hA0) rfl rfl rfl ?_
  refine ok_cm (vs := [_]) rfl rfl rfl rfl (Nat.le_of_ble_eq_true rfl) (Nat.le_of_ble_eq_true rfl) rfl (by decide) hA0_wf o1 ?_
  rintro _ _ ⟨rfl, rfl⟩ _ _
  refine ok_go (g := (8, [some (.retAddr 0), some (.ref 0), none, none], [])) (h1 := hB0) rfl rfl rfl ?_
  refine ok_go (g := (11, [some (.retAddr 0), some (.ref 0), none, none], [.ref 57])) (h1 := hC0) rfl rfl ?_ ?_
  · rw [← hB0_1]; rfl
  refine ok_go (g := (12, [some (.retAddr 0), some (.ref 0), none, none], [.ref 57, .ref 57])) (h1 := hC0) rfl rfl rfl ?_
  refine ok_cm (vs := [_]) rfl rfl rfl rfl (Nat.le_of_ble_eq_true rfl) (Nat.le_of_ble_eq_true rfl) ?_ (by decide) hC0_wf o2 ?_
  · have : hC0.2.2 57 = some (.inr (9, xfs 9)) := by rw [← hB0_1]; simp [hC0, xnew, xup]
    show xcl0 4 9 _ _ = true
    simp [xcl0, this]
  rintro _ _ ⟨rfl, rfl⟩ _ _
  refine ok_go (g := (16, [some (.retAddr 0), some (.ref 0), some (.ref 57), none], [])) (h1 := hD0) rfl rfl rfl ?_
  refine ok_go (g := (17, [some (.retAddr 0), some (.ref 0), some (.ref 57), none], [.int (nI 0)])) (h1 := hD0) rfl rfl rfl ?_
  exact ok_go (g := (18, [some (.retAddr 0), some (.ref 0), some (.ref 57), some (.int (nI 0))], [])) (h1 := hD0) rfl rfl rfl kk
