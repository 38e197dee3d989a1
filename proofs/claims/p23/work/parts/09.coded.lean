def xdkc (j : Nat) (c : Nat × List (Nat × xI)) : Bool := c.2.all (fun q => decide (decode (xby j) q.1 = .ok (q.2.2.1, q.2.2.2.1)))
theorem xsl6 {α : Type} {l : List α} {Q : α → Bool} {m : Nat} (h : ∀ i, i < m → ((l.drop (6 * i)).take 6).all Q = true) (hm : l.length ≤ 6 * m) : l.all Q = true := by
  refine List.all_eq_true.mpr fun x hx => ?_
  obtain ⟨k, hk⟩ := List.getElem?_of_mem hx
  have hl : k < l.length := (List.getElem?_eq_some_iff.mp hk).1
  refine List.all_eq_true.mp (h (k / 6) (by omega)) x (List.mem_of_getElem? (i := k % 6) ?_)
  rw [List.getElem?_take_of_lt (by omega), List.getElem?_drop, show 6 * (k / 6) + k % 6 = k by omega]
  exact hk
theorem xdks_of {j : Nat} (h : (xTab j).1.all (xdkc j) = true) : xdks j = true := by
  refine List.all_eq_true.mpr fun q hq => ?_
  obtain ⟨c, hc, hq⟩ := List.mem_flatMap.mp hq
  exact List.all_eq_true.mp (List.all_eq_true.mp h c hc) q hq
set_option maxRecDepth 100000 in
theorem xdkl_0 : ((cd131.drop 0).take 6).all (xdkc 131) = true := by decide +kernel
set_option maxRecDepth 100000 in
theorem xdkl_1 : ((cd131.drop 6).take 6).all (xdkc 131) = true := by decide +kernel
set_option maxRecDepth 100000 in
theorem xdkl_2 : ((cd131.drop 12).take 6).all (xdkc 131) = true := by decide +kernel
set_option maxRecDepth 100000 in
theorem xdkl_3 : ((cd131.drop 18).take 6).all (xdkc 131) = true := by decide +kernel
set_option maxRecDepth 100000 in
theorem xdkl_4 : ((cd131.drop 24).take 6).all (xdkc 131) = true := by decide +kernel
set_option maxRecDepth 100000 in
theorem xdkl_5 : ((cd131.drop 30).take 6).all (xdkc 131) = true := by decide +kernel
set_option maxRecDepth 100000 in
theorem xdkl_6 : ((cd131.drop 36).take 6).all (xdkc 131) = true := by decide +kernel
set_option maxRecDepth 100000 in
theorem xdkl_7 : ((cd131.drop 42).take 6).all (xdkc 131) = true := by decide +kernel
set_option maxRecDepth 100000 in
theorem xdkl_8 : ((cd131.drop 48).take 6).all (xdkc 131) = true := by decide +kernel
set_option maxRecDepth 100000 in
theorem xdkl_9 : ((cd131.drop 54).take 6).all (xdkc 131) = true := by decide +kernel
set_option maxRecDepth 100000 in
theorem xdkl_10 : ((cd131.drop 60).take 6).all (xdkc 131) = true := by decide +kernel
theorem xdks_131 : (List.range' 131 1).all xdks = true := by
  have h : xdks 131 = true := xdks_of (xsl6 (m := 11) (fun i hi => by
    match i, hi with
    | 0, _ => exact xdkl_0
    | 1, _ => exact xdkl_1
    | 2, _ => exact xdkl_2
    | 3, _ => exact xdkl_3
    | 4, _ => exact xdkl_4
    | 5, _ => exact xdkl_5
    | 6, _ => exact xdkl_6
    | 7, _ => exact xdkl_7
    | 8, _ => exact xdkl_8
    | 9, _ => exact xdkl_9
    | 10, _ => exact xdkl_10
    | n + 11, h => exact absurd h (by omega)) (by decide +kernel))
  simp [List.range', h]
set_option maxRecDepth 100000 in
theorem xdks_0 : (List.range' 0 22).all xdks = true := by decide +kernel
set_option maxRecDepth 100000 in
theorem xdks_22 : (List.range' 22 22).all xdks = true := by decide +kernel
set_option maxRecDepth 100000 in
theorem xdks_44 : (List.range' 44 22).all xdks = true := by decide +kernel
set_option maxRecDepth 100000 in
theorem xdks_66 : (List.range' 66 22).all xdks = true := by decide +kernel
set_option maxRecDepth 100000 in
theorem xdks_88 : (List.range' 88 22).all xdks = true := by decide +kernel
set_option maxRecDepth 100000 in
theorem xdks_110 : (List.range' 110 21).all xdks = true := by decide +kernel
theorem xcks_all (j : Nat) (hj : j < 132) : xcks j = true := by
  rcases Nat.lt_or_ge j 22 with h | h
  · exact List.all_eq_true.mp xcks_0 j (List.mem_range'_1.mpr ⟨by omega, by omega⟩)
  rcases Nat.lt_or_ge j 44 with h | h
  · exact List.all_eq_true.mp xcks_22 j (List.mem_range'_1.mpr ⟨by omega, by omega⟩)
  rcases Nat.lt_or_ge j 66 with h | h
  · exact List.all_eq_true.mp xcks_44 j (List.mem_range'_1.mpr ⟨by omega, by omega⟩)
  rcases Nat.lt_or_ge j 88 with h | h
  · exact List.all_eq_true.mp xcks_66 j (List.mem_range'_1.mpr ⟨by omega, by omega⟩)
  rcases Nat.lt_or_ge j 110 with h | h
  · exact List.all_eq_true.mp xcks_88 j (List.mem_range'_1.mpr ⟨by omega, by omega⟩)
  rcases Nat.lt_or_ge j 131 with h | h
  · exact List.all_eq_true.mp xcks_110 j (List.mem_range'_1.mpr ⟨by omega, by omega⟩)
  rcases Nat.lt_or_ge j 132 with h | h
  · exact List.all_eq_true.mp xcks_131 j (List.mem_range'_1.mpr ⟨by omega, by omega⟩)
  exact absurd hj (by omega)
theorem xdks_all (j : Nat) (hj : j < 132) : xdks j = true := by
  rcases Nat.lt_or_ge j 22 with h | h
  · exact List.all_eq_true.mp xdks_0 j (List.mem_range'_1.mpr ⟨by omega, by omega⟩)
  rcases Nat.lt_or_ge j 44 with h | h
  · exact List.all_eq_true.mp xdks_22 j (List.mem_range'_1.mpr ⟨by omega, by omega⟩)
  rcases Nat.lt_or_ge j 66 with h | h
  · exact List.all_eq_true.mp xdks_44 j (List.mem_range'_1.mpr ⟨by omega, by omega⟩)
  rcases Nat.lt_or_ge j 88 with h | h
  · exact List.all_eq_true.mp xdks_66 j (List.mem_range'_1.mpr ⟨by omega, by omega⟩)
  rcases Nat.lt_or_ge j 110 with h | h
  · exact List.all_eq_true.mp xdks_88 j (List.mem_range'_1.mpr ⟨by omega, by omega⟩)
  rcases Nat.lt_or_ge j 131 with h | h
  · exact List.all_eq_true.mp xdks_110 j (List.mem_range'_1.mpr ⟨by omega, by omega⟩)
  rcases Nat.lt_or_ge j 132 with h | h
  · exact List.all_eq_true.mp xdks_131 j (List.mem_range'_1.mpr ⟨by omega, by omega⟩)
  exact absurd hj (by omega)
