/-! HELP FOR THE WALKS -/
theorem xmap_s {g : xF} {h : xH} : Option.map (fun g => (g, h)) (some g) = some (g, h) := rfl
section OK
variable {X : Nat × (Nat → Int32)} {C : xC} {pc : Nat} {L : List (Option Value)} {st : List Value} {h : xH} {Q P : Option Value → xH → Prop}
theorem ok_bt {c : Bool} {a b : Nat} (hc : c = true) (kk : ok X C (a, L, st) h Q) : ok X C (bif c then a else b, L, st) h Q := by subst hc; exact kk
theorem ok_bf {c : Bool} {a b : Nat} (hc : c = false) (kk : ok X C (b, L, st) h Q) : ok X C (bif c then a else b, L, st) h Q := by subst hc; exact kk
theorem ok_sw {d lo : Int} {offs : List Int} {x : Int32} {p : Nat} (kk : ∀ t, t ∈ offs.map (fun o => ((p : Int) + o).toNat) ++ [((p : Int) + d).toNat] → ok X C (t, L, st) h Q) : ok X C (xsw p d lo offs x, L, st) h Q := by
  refine kk _ ?_
  unfold xsw
  split
  · rename_i o ho
    split at ho
    · cases ho
    · exact List.mem_append_left _ (List.mem_map.mpr ⟨o, List.mem_of_getElem? ho, rfl⟩)
  · exact List.mem_append_right _ (List.mem_singleton.mpr rfl)
theorem xlw_mem {p : Nat} {d : Int} {x : Int32} : ∀ ps : List (Int × Int), xlw p d x ps ∈ ps.map (fun q => ((p : Int) + q.2).toNat) ++ [((p : Int) + d).toNat]
  | [] => List.mem_singleton.mpr rfl
  | (k, o) :: t => by
    unfold xlw
    split
    · exact List.mem_cons_self
    · exact List.mem_cons_of_mem _ (xlw_mem t)
theorem ok_lw {d : Int} {ps : List (Int × Int)} {x : Int32} {p : Nat} (kk : ∀ t, t ∈ ps.map (fun q => ((p : Int) + q.2).toNat) ++ [((p : Int) + d).toNat] → ok X C (t, L, st) h Q) : ok X C (xlw p d x ps, L, st) h Q := kk _ (xlw_mem ps)
end OK
theorem kbm10 : (Int8.ofInt (-10)).toInt32 = (-10 : Int32) := by decide
theorem kbm9 : (Int8.ofInt (-9)).toInt32 = (-9 : Int32) := by decide
theorem kbm8 : (Int8.ofInt (-8)).toInt32 = (-8 : Int32) := by decide
theorem kbm7 : (Int8.ofInt (-7)).toInt32 = (-7 : Int32) := by decide
theorem kbm6 : (Int8.ofInt (-6)).toInt32 = (-6 : Int32) := by decide
theorem kbm5 : (Int8.ofInt (-5)).toInt32 = (-5 : Int32) := by decide
theorem kbm4 : (Int8.ofInt (-4)).toInt32 = (-4 : Int32) := by decide
theorem kbm3 : (Int8.ofInt (-3)).toInt32 = (-3 : Int32) := by decide
theorem kbm2 : (Int8.ofInt (-2)).toInt32 = (-2 : Int32) := by decide
theorem kb6 : (Int8.ofInt 6).toInt32 = (6 : Int32) := by decide
theorem kb7 : (Int8.ofInt 7).toInt32 = (7 : Int32) := by decide
theorem kb8 : (Int8.ofInt 8).toInt32 = (8 : Int32) := by decide
theorem kb9 : (Int8.ofInt 9).toInt32 = (9 : Int32) := by decide
theorem kb10 : (Int8.ofInt 10).toInt32 = (10 : Int32) := by decide
theorem kb11 : (Int8.ofInt 11).toInt32 = (11 : Int32) := by decide
theorem kb16 : (Int8.ofInt 16).toInt32 = (16 : Int32) := by decide
theorem kb19 : (Int8.ofInt 19).toInt32 = (19 : Int32) := by decide
theorem kb20 : (Int8.ofInt 20).toInt32 = (20 : Int32) := by decide
theorem kb30 : (Int8.ofInt 30).toInt32 = (30 : Int32) := by decide
theorem kb31 : (Int8.ofInt 31).toInt32 = (31 : Int32) := by decide
theorem kb32 : (Int8.ofInt 32).toInt32 = (32 : Int32) := by decide
theorem kb34 : (Int8.ofInt 34).toInt32 = (34 : Int32) := by decide
theorem kb40 : (Int8.ofInt 40).toInt32 = (40 : Int32) := by decide
theorem kb64 : (Int8.ofInt 64).toInt32 = (64 : Int32) := by decide
theorem kb100 : (Int8.ofInt 100).toInt32 = (100 : Int32) := by decide
theorem kb127 : (Int8.ofInt 127).toInt32 = (127 : Int32) := by decide
theorem kim1 : Int32.ofInt (-1) = (-1 : Int32) := by decide
theorem ki0 : Int32.ofInt 0 = (0 : Int32) := by decide
theorem ki1 : Int32.ofInt 1 = (1 : Int32) := by decide
theorem ki2 : Int32.ofInt 2 = (2 : Int32) := by decide
theorem ki3 : Int32.ofInt 3 = (3 : Int32) := by decide
theorem ki4 : Int32.ofInt 4 = (4 : Int32) := by decide
theorem ki5 : Int32.ofInt 5 = (5 : Int32) := by decide
theorem ks128 : (Int16.ofInt 128).toInt32 = (128 : Int32) := by decide
theorem ks400 : (Int16.ofInt 400).toInt32 = (400 : Int32) := by decide
theorem ks999 : (Int16.ofInt 999).toInt32 = (999 : Int32) := by decide
theorem ks1000 : (Int16.ofInt 1000).toInt32 = (1000 : Int32) := by decide
theorem ks4010 : (Int16.ofInt 4010).toInt32 = (4010 : Int32) := by decide
theorem ktm1000000 : (-1000000 : Int32).toInt = -1000000 := by decide
theorem ktm10 : (-10 : Int32).toInt = -10 := by decide
theorem ktm9 : (-9 : Int32).toInt = -9 := by decide
theorem ktm8 : (-8 : Int32).toInt = -8 := by decide
theorem ktm7 : (-7 : Int32).toInt = -7 := by decide
theorem ktm6 : (-6 : Int32).toInt = -6 := by decide
theorem ktm5 : (-5 : Int32).toInt = -5 := by decide
theorem ktm4 : (-4 : Int32).toInt = -4 := by decide
theorem ktm3 : (-3 : Int32).toInt = -3 := by decide
theorem ktm2 : (-2 : Int32).toInt = -2 := by decide
theorem ktm1 : (-1 : Int32).toInt = -1 := by decide
theorem kt0 : (0 : Int32).toInt = 0 := by decide
theorem kt1 : (1 : Int32).toInt = 1 := by decide
theorem kt2 : (2 : Int32).toInt = 2 := by decide
theorem kt3 : (3 : Int32).toInt = 3 := by decide
theorem kt4 : (4 : Int32).toInt = 4 := by decide
theorem kt5 : (5 : Int32).toInt = 5 := by decide
theorem kt6 : (6 : Int32).toInt = 6 := by decide
theorem kt7 : (7 : Int32).toInt = 7 := by decide
theorem kt8 : (8 : Int32).toInt = 8 := by decide
theorem kt9 : (9 : Int32).toInt = 9 := by decide
theorem kt10 : (10 : Int32).toInt = 10 := by decide
theorem kt11 : (11 : Int32).toInt = 11 := by decide
theorem kt16 : (16 : Int32).toInt = 16 := by decide
theorem kt19 : (19 : Int32).toInt = 19 := by decide
theorem kt20 : (20 : Int32).toInt = 20 := by decide
theorem kt30 : (30 : Int32).toInt = 30 := by decide
theorem kt31 : (31 : Int32).toInt = 31 := by decide
theorem kt32 : (32 : Int32).toInt = 32 := by decide
theorem kt34 : (34 : Int32).toInt = 34 := by decide
theorem kt40 : (40 : Int32).toInt = 40 := by decide
theorem kt64 : (64 : Int32).toInt = 64 := by decide
theorem kt100 : (100 : Int32).toInt = 100 := by decide
theorem kt127 : (127 : Int32).toInt = 127 := by decide
theorem kt128 : (128 : Int32).toInt = 128 := by decide
theorem kt400 : (400 : Int32).toInt = 400 := by decide
theorem kt999 : (999 : Int32).toInt = 999 := by decide
theorem kt1000 : (1000 : Int32).toInt = 1000 := by decide
theorem kt4010 : (4010 : Int32).toInt = 4010 := by decide
theorem kt1000000 : (1000000 : Int32).toInt = 1000000 := by decide
theorem ko16 : (Int32.ofNat 16).toInt = 16 := by decide
theorem ko1000 : (Int32.ofNat 1000).toInt = 1000 := by decide
theorem fb_rng (x : Int32) : -2147483648 ≤ x.toInt ∧ x.toInt < 2147483648 := by
  have h1 := Int32.le_toInt x
  have h2 := Int32.toInt_lt x
  omega
theorem fb_bmod {z : Int} (h1 : -2147483648 ≤ z) (h2 : z < 2147483648) : z.bmod (2 ^ 32) = z := by
  rw [Int.bmod_eq_of_le (by omega) (by omega)]
theorem fb_addI {x y : Int32} (h1 : -2147483648 ≤ x.toInt + y.toInt) (h2 : x.toInt + y.toInt < 2147483648) : (x + y).toInt = x.toInt + y.toInt := by
  rw [Int32.toInt_add, fb_bmod h1 h2]
theorem fb_subI {x y : Int32} (h1 : -2147483648 ≤ x.toInt - y.toInt) (h2 : x.toInt - y.toInt < 2147483648) : (x - y).toInt = x.toInt - y.toInt := by
  rw [Int32.toInt_sub, fb_bmod h1 h2]
theorem fb_mulI {x y : Int32} (h1 : -2147483648 ≤ x.toInt * y.toInt) (h2 : x.toInt * y.toInt < 2147483648) : (x * y).toInt = x.toInt * y.toInt := by
  rw [Int32.toInt_mul, fb_bmod h1 h2]
theorem xsub1 {v : Int32} (h : 0 ≤ v.toInt) : (v - 1).toInt = v.toInt - 1 := by
  have h1 := fb_rng v
  rw [fb_subI (by rw [kt1]; omega) (by rw [kt1]; omega), kt1]
theorem xadd1 {v : Int32} (h : v.toInt < 2147483647) : (v + 1).toInt = v.toInt + 1 := by
  have h1 := fb_rng v
  rw [fb_addI (by rw [kt1]; omega) (by rw [kt1]; omega), kt1]
