set_option maxRecDepth 20000 in
set_option maxHeartbeats 4000000 in
/-- ToldHouse.bring(LToldHouse$Happening;I)I -/
theorem sp81 {X : Nat × (Nat → Int32)} {c : Nat} {td vc dc : Int32} {h : xH} (hW : xWF h) (hI : cI c td vc dc h) (hc : c + 2 ≤ 2000) {p1 : Nat} {f1 : List Value} (hp1 : h.2.2 p1 = some (.inr (2, f1))) {x2 : Int32} : okM X 81 [.ref 0, .ref p1, .int x2] h (fun v h' => (∃ x, v = some (.int x)) ∧ cI (c + 2) td vc dc h' ∧ h'.1 ≤ h.1 + 2 ∧ h'.2.1 ≤ h.2.1 + 4 * (2 * (c + 2) + 8)) := by
  show ok X cd81 (0, [some (.ref 0), some (.ref p1), some (.int x2), none, none], []) h _
  iterate 2 (refine ok_st rfl rfl ?_; simp only [okS_some, xst, xp0, xp1, xp2, xp3, xp4, xp5, xload, xstore, xget_0, xget_s, xs_0, xs_1n, xs_1i, xs_1r, xs_1u, xs_1l, xs_s, xt_0, xt_1n, xt_1i, xt_1r, xt_1u, xt_1l, xt_s, xisref, xq0, Value.category, xcat, List.map_nil, List.map_cons, List.sum_nil, List.sum_cons, List.length_cons, List.length_nil, List.getElem?_cons_zero, List.getElem?_cons_succ, xmap_s, if_true, and_self, Nat.reduceAdd, Nat.reduceLT, Nat.reduceLeDiff, Nat.reduceEqDiff, Nat.lt_add_one, Nat.zero_le, Nat.le_refl, Nat.le_zero_eq, Nat.zero_lt_succ, xldc, kbm10, kbm9, kbm8, kbm7, kbm6, kbm5, kbm4, kbm3, kbm2, kb6, kb7, kb8, kb9, kb10, kb11, kb16, kb19, kb20, kb30, kb31, kb32, kb34, kb40, kb64, kb100, kb127, kim1, ki0, ki1, ki2, ki3, ki4, ki5, ks128, ks400, ks999, ks1000, ks4010])
  obtain ⟨a4, a5, a6, a7, a8, a9, a10, a11, a12, a13, a14, a15, v1, rfl, hb3, hv2⟩ := sh2 hW hp1
  refine ok_st rfl rfl ?_
  simp only [okS_some, xst, xp0, xp1, xp2, xp3, xp4, xp5, xload, xstore, xget_0, xget_s, xs_0, xs_1n, xs_1i, xs_1r, xs_1u, xs_1l, xs_s, xt_0, xt_1n, xt_1i, xt_1r, xt_1u, xt_1l, xt_s, xisref, xq0, Value.category, xcat, List.map_nil, List.map_cons, List.sum_nil, List.sum_cons, List.length_cons, List.length_nil, List.getElem?_cons_zero, List.getElem?_cons_succ, xmap_s, if_true, and_self, Nat.reduceAdd, Nat.reduceLT, Nat.reduceLeDiff, Nat.reduceEqDiff, Nat.lt_add_one, Nat.zero_le, Nat.le_refl, Nat.le_zero_eq, Nat.zero_lt_succ, xldc, kbm10, kbm9, kbm8, kbm7, kbm6, kbm5, kbm4, kbm3, kbm2, kb6, kb7, kb8, kb9, kb10, kb11, kb16, kb19, kb20, kb30, kb31, kb32, kb34, kb40, kb64, kb100, kb127, kim1, ki0, ki1, ki2, ki3, ki4, ki5, ks128, ks400, ks999, ks1000, ks4010, hp1]
  refine ok_cm (vs := [_, _]) rfl rfl rfl rfl (Nat.le_of_ble_eq_true rfl) (Nat.le_of_ble_eq_true rfl) (by show xcl0 2 8 _ _ = true; simp [xcl0, hI.1]) (by decide) hW (sp73 hW hI) ?_
  rintro _ h16 (rfl | ⟨p20, f21, rfl, hp22⟩) k17 al18
  · dsimp only [Option.toList, List.cons_append, List.nil_append, Nat.reduceAdd]
    have s23 := al18 rfl
    try dsimp only at s23
    have hW := k17.1
    have hI := hI.kp k17 (by decide)
    obtain ⟨f24, hp25⟩ := k17.2.1.cls hp1
    iterate 4 (refine ok_st rfl rfl ?_; simp only [okS_some, xst, xp0, xp1, xp2, xp3, xp4, xp5, xload, xstore, xget_0, xget_s, xs_0, xs_1n, xs_1i, xs_1r, xs_1u, xs_1l, xs_s, xt_0, xt_1n, xt_1i, xt_1r, xt_1u, xt_1l, xt_s, xisref, xq0, Value.category, xcat, List.map_nil, List.map_cons, List.sum_nil, List.sum_cons, List.length_cons, List.length_nil, List.getElem?_cons_zero, List.getElem?_cons_succ, xmap_s, if_true, and_self, Nat.reduceAdd, Nat.reduceLT, Nat.reduceLeDiff, Nat.reduceEqDiff, Nat.lt_add_one, Nat.zero_le, Nat.le_refl, Nat.le_zero_eq, Nat.zero_lt_succ, xldc, kbm10, kbm9, kbm8, kbm7, kbm6, kbm5, kbm4, kbm3, kbm2, kb6, kb7, kb8, kb9, kb10, kb11, kb16, kb19, kb20, kb30, kb31, kb32, kb34, kb40, kb64, kb100, kb127, kim1, ki0, ki1, ki2, ki3, ki4, ki5, ks128, ks400, ks999, ks1000, ks4010])
    refine ok_r1 rfl rfl rfl rfl ?_
    try dsimp only
    exact ⟨⟨_, rfl⟩, hI.up (by omega), by omega, by omega⟩
  · dsimp only [Option.toList, List.cons_append, List.nil_append, Nat.reduceAdd]
    have s26 := al18 rfl
    try dsimp only at s26
    have hW := k17.1
    have hI := hI.kp k17 (by decide)
    obtain ⟨f27, hp28⟩ := k17.2.1.cls hp1
    iterate 4 (refine ok_st rfl rfl ?_; simp only [okS_some, xst, xp0, xp1, xp2, xp3, xp4, xp5, xload, xstore, xget_0, xget_s, xs_0, xs_1n, xs_1i, xs_1r, xs_1u, xs_1l, xs_s, xt_0, xt_1n, xt_1i, xt_1r, xt_1u, xt_1l, xt_s, xisref, xq0, Value.category, xcat, List.map_nil, List.map_cons, List.sum_nil, List.sum_cons, List.length_cons, List.length_nil, List.getElem?_cons_zero, List.getElem?_cons_succ, xmap_s, if_true, and_self, Nat.reduceAdd, Nat.reduceLT, Nat.reduceLeDiff, Nat.reduceEqDiff, Nat.lt_add_one, Nat.zero_le, Nat.le_refl, Nat.le_zero_eq, Nat.zero_lt_succ, xldc, kbm10, kbm9, kbm8, kbm7, kbm6, kbm5, kbm4, kbm3, kbm2, kb6, kb7, kb8, kb9, kb10, kb11, kb16, kb19, kb20, kb30, kb31, kb32, kb34, kb40, kb64, kb100, kb127, kim1, ki0, ki1, ki2, ki3, ki4, ki5, ks128, ks400, ks999, ks1000, ks4010])
    refine ok_cm (vs := [_]) rfl rfl rfl rfl (Nat.le_of_ble_eq_true rfl) (Nat.le_of_ble_eq_true rfl) (by show xcl0 2 2 _ _ = true; simp [xcl0, hp28]) (by decide) hW (sp12 hW hI hp28) ?_
    rintro _ h29 (rfl | rfl) k30 al31
    · dsimp only [Option.toList, List.cons_append, List.nil_append, Nat.reduceAdd]
      have s33 := al31 rfl
      try dsimp only at s33
      have hW := k30.1
      have hI := hI.kp k30 (by decide)
      obtain ⟨f34, hp35⟩ := k30.2.1.cls hp28
      obtain ⟨f36, hp37⟩ := k30.2.1.cls hp22
      refine ok_st rfl rfl ?_
      simp only [okS_some, xst, xp0, xp1, xp2, xp3, xp4, xp5, xload, xstore, xget_0, xget_s, xs_0, xs_1n, xs_1i, xs_1r, xs_1u, xs_1l, xs_s, xt_0, xt_1n, xt_1i, xt_1r, xt_1u, xt_1l, xt_s, xisref, xq0, Value.category, xcat, List.map_nil, List.map_cons, List.sum_nil, List.sum_cons, List.length_cons, List.length_nil, List.getElem?_cons_zero, List.getElem?_cons_succ, xmap_s, if_true, and_self, Nat.reduceAdd, Nat.reduceLT, Nat.reduceLeDiff, Nat.reduceEqDiff, Nat.lt_add_one, Nat.zero_le, Nat.le_refl, Nat.le_zero_eq, Nat.zero_lt_succ, xldc, kbm10, kbm9, kbm8, kbm7, kbm6, kbm5, kbm4, kbm3, kbm2, kb6, kb7, kb8, kb9, kb10, kb11, kb16, kb19, kb20, kb30, kb31, kb32, kb34, kb40, kb64, kb100, kb127, kim1, ki0, ki1, ki2, ki3, ki4, ki5, ks128, ks400, ks999, ks1000, ks4010]
      refine ok_bf rfl ?_
      refine ok_st rfl rfl ?_
      simp only [okS_some, xst, xp0, xp1, xp2, xp3, xp4, xp5, xload, xstore, xget_0, xget_s, xs_0, xs_1n, xs_1i, xs_1r, xs_1u, xs_1l, xs_s, xt_0, xt_1n, xt_1i, xt_1r, xt_1u, xt_1l, xt_s, xisref, xq0, Value.category, xcat, List.map_nil, List.map_cons, List.sum_nil, List.sum_cons, List.length_cons, List.length_nil, List.getElem?_cons_zero, List.getElem?_cons_succ, xmap_s, if_true, and_self, Nat.reduceAdd, Nat.reduceLT, Nat.reduceLeDiff, Nat.reduceEqDiff, Nat.lt_add_one, Nat.zero_le, Nat.le_refl, Nat.le_zero_eq, Nat.zero_lt_succ, xldc, kbm10, kbm9, kbm8, kbm7, kbm6, kbm5, kbm4, kbm3, kbm2, kb6, kb7, kb8, kb9, kb10, kb11, kb16, kb19, kb20, kb30, kb31, kb32, kb34, kb40, kb64, kb100, kb127, kim1, ki0, ki1, ki2, ki3, ki4, ki5, ks128, ks400, ks999, ks1000, ks4010]
      refine ok_r1 rfl rfl rfl rfl ?_
      try dsimp only
      exact ⟨⟨_, rfl⟩, hI.up (by omega), by omega, by omega⟩
    · dsimp only [Option.toList, List.cons_append, List.nil_append, Nat.reduceAdd]
      have s38 := al31 rfl
      try dsimp only at s38
      have hW := k30.1
      have hI := hI.kp k30 (by decide)
      obtain ⟨f39, hp40⟩ := k30.2.1.cls hp28
      obtain ⟨f41, hp42⟩ := k30.2.1.cls hp22
      refine ok_st rfl rfl ?_
      simp only [okS_some, xst, xp0, xp1, xp2, xp3, xp4, xp5, xload, xstore, xget_0, xget_s, xs_0, xs_1n, xs_1i, xs_1r, xs_1u, xs_1l, xs_s, xt_0, xt_1n, xt_1i, xt_1r, xt_1u, xt_1l, xt_s, xisref, xq0, Value.category, xcat, List.map_nil, List.map_cons, List.sum_nil, List.sum_cons, List.length_cons, List.length_nil, List.getElem?_cons_zero, List.getElem?_cons_succ, xmap_s, if_true, and_self, Nat.reduceAdd, Nat.reduceLT, Nat.reduceLeDiff, Nat.reduceEqDiff, Nat.lt_add_one, Nat.zero_le, Nat.le_refl, Nat.le_zero_eq, Nat.zero_lt_succ, xldc, kbm10, kbm9, kbm8, kbm7, kbm6, kbm5, kbm4, kbm3, kbm2, kb6, kb7, kb8, kb9, kb10, kb11, kb16, kb19, kb20, kb30, kb31, kb32, kb34, kb40, kb64, kb100, kb127, kim1, ki0, ki1, ki2, ki3, ki4, ki5, ks128, ks400, ks999, ks1000, ks4010]
      refine ok_bt rfl ?_
      iterate 3 (refine ok_st rfl rfl ?_; simp only [okS_some, xst, xp0, xp1, xp2, xp3, xp4, xp5, xload, xstore, xget_0, xget_s, xs_0, xs_1n, xs_1i, xs_1r, xs_1u, xs_1l, xs_s, xt_0, xt_1n, xt_1i, xt_1r, xt_1u, xt_1l, xt_s, xisref, xq0, Value.category, xcat, List.map_nil, List.map_cons, List.sum_nil, List.sum_cons, List.length_cons, List.length_nil, List.getElem?_cons_zero, List.getElem?_cons_succ, xmap_s, if_true, and_self, Nat.reduceAdd, Nat.reduceLT, Nat.reduceLeDiff, Nat.reduceEqDiff, Nat.lt_add_one, Nat.zero_le, Nat.le_refl, Nat.le_zero_eq, Nat.zero_lt_succ, xldc, kbm10, kbm9, kbm8, kbm7, kbm6, kbm5, kbm4, kbm3, kbm2, kb6, kb7, kb8, kb9, kb10, kb11, kb16, kb19, kb20, kb30, kb31, kb32, kb34, kb40, kb64, kb100, kb127, kim1, ki0, ki1, ki2, ki3, ki4, ki5, ks128, ks400, ks999, ks1000, ks4010])
      refine ok_if (fun c43 => ?_) (fun c43 => ?_)
      · simp only [xcnd, decide_eq_true_eq, decide_eq_false_iff_not, Bool.not_eq_true', Bool.not_eq_false'] at c43
        refine ok_st rfl rfl ?_
        simp only [okS_some, xst, xp0, xp1, xp2, xp3, xp4, xp5, xload, xstore, xget_0, xget_s, xs_0, xs_1n, xs_1i, xs_1r, xs_1u, xs_1l, xs_s, xt_0, xt_1n, xt_1i, xt_1r, xt_1u, xt_1l, xt_s, xisref, xq0, Value.category, xcat, List.map_nil, List.map_cons, List.sum_nil, List.sum_cons, List.length_cons, List.length_nil, List.getElem?_cons_zero, List.getElem?_cons_succ, xmap_s, if_true, and_self, Nat.reduceAdd, Nat.reduceLT, Nat.reduceLeDiff, Nat.reduceEqDiff, Nat.lt_add_one, Nat.zero_le, Nat.le_refl, Nat.le_zero_eq, Nat.zero_lt_succ, xldc, kbm10, kbm9, kbm8, kbm7, kbm6, kbm5, kbm4, kbm3, kbm2, kb6, kb7, kb8, kb9, kb10, kb11, kb16, kb19, kb20, kb30, kb31, kb32, kb34, kb40, kb64, kb100, kb127, kim1, ki0, ki1, ki2, ki3, ki4, ki5, ks128, ks400, ks999, ks1000, ks4010]
        refine ok_st rfl rfl ?_
        simp only [okS_some, xst, xp0, xp1, xp2, xp3, xp4, xp5, xload, xstore, xget_0, xget_s, xs_0, xs_1n, xs_1i, xs_1r, xs_1u, xs_1l, xs_s, xt_0, xt_1n, xt_1i, xt_1r, xt_1u, xt_1l, xt_s, xisref, xq0, Value.category, xcat, List.map_nil, List.map_cons, List.sum_nil, List.sum_cons, List.length_cons, List.length_nil, List.getElem?_cons_zero, List.getElem?_cons_succ, xmap_s, if_true, and_self, Nat.reduceAdd, Nat.reduceLT, Nat.reduceLeDiff, Nat.reduceEqDiff, Nat.lt_add_one, Nat.zero_le, Nat.le_refl, Nat.le_zero_eq, Nat.zero_lt_succ, xldc, kbm10, kbm9, kbm8, kbm7, kbm6, kbm5, kbm4, kbm3, kbm2, kb6, kb7, kb8, kb9, kb10, kb11, kb16, kb19, kb20, kb30, kb31, kb32, kb34, kb40, kb64, kb100, kb127, kim1, ki0, ki1, ki2, ki3, ki4, ki5, ks128, ks400, ks999, ks1000, ks4010, hI.1]
        obtain ⟨f44, hp45⟩ := hI.2.2.1.1
        obtain ⟨n46, t47, l48, k49, rfl, ht50, b51, b52, b53, b54, b55⟩ := hI.2.2.2.1 _ _ hp45
        refine ok_st rfl rfl ?_
        simp only [okS_some, xst, xp0, xp1, xp2, xp3, xp4, xp5, xload, xstore, xget_0, xget_s, xs_0, xs_1n, xs_1i, xs_1r, xs_1u, xs_1l, xs_s, xt_0, xt_1n, xt_1i, xt_1r, xt_1u, xt_1l, xt_s, xisref, xq0, Value.category, xcat, List.map_nil, List.map_cons, List.sum_nil, List.sum_cons, List.length_cons, List.length_nil, List.getElem?_cons_zero, List.getElem?_cons_succ, xmap_s, if_true, and_self, Nat.reduceAdd, Nat.reduceLT, Nat.reduceLeDiff, Nat.reduceEqDiff, Nat.lt_add_one, Nat.zero_le, Nat.le_refl, Nat.le_zero_eq, Nat.zero_lt_succ, xldc, kbm10, kbm9, kbm8, kbm7, kbm6, kbm5, kbm4, kbm3, kbm2, kb6, kb7, kb8, kb9, kb10, kb11, kb16, kb19, kb20, kb30, kb31, kb32, kb34, kb40, kb64, kb100, kb127, kim1, ki0, ki1, ki2, ki3, ki4, ki5, ks128, ks400, ks999, ks1000, ks4010, hp45]
        iterate 2 (refine ok_st rfl rfl ?_; simp only [okS_some, xst, xp0, xp1, xp2, xp3, xp4, xp5, xload, xstore, xget_0, xget_s, xs_0, xs_1n, xs_1i, xs_1r, xs_1u, xs_1l, xs_s, xt_0, xt_1n, xt_1i, xt_1r, xt_1u, xt_1l, xt_s, xisref, xq0, Value.category, xcat, List.map_nil, List.map_cons, List.sum_nil, List.sum_cons, List.length_cons, List.length_nil, List.getElem?_cons_zero, List.getElem?_cons_succ, xmap_s, if_true, and_self, Nat.reduceAdd, Nat.reduceLT, Nat.reduceLeDiff, Nat.reduceEqDiff, Nat.lt_add_one, Nat.zero_le, Nat.le_refl, Nat.le_zero_eq, Nat.zero_lt_succ, xldc, kbm10, kbm9, kbm8, kbm7, kbm6, kbm5, kbm4, kbm3, kbm2, kb6, kb7, kb8, kb9, kb10, kb11, kb16, kb19, kb20, kb30, kb31, kb32, kb34, kb40, kb64, kb100, kb127, kim1, ki0, ki1, ki2, ki3, ki4, ki5, ks128, ks400, ks999, ks1000, ks4010])
        refine ok_if (fun c56 => ?_) (fun c56 => ?_)
        · simp only [xcnd, decide_eq_true_eq, decide_eq_false_iff_not, Bool.not_eq_true', Bool.not_eq_false'] at c56
          iterate 2 (refine ok_st rfl rfl ?_; simp only [okS_some, xst, xp0, xp1, xp2, xp3, xp4, xp5, xload, xstore, xget_0, xget_s, xs_0, xs_1n, xs_1i, xs_1r, xs_1u, xs_1l, xs_s, xt_0, xt_1n, xt_1i, xt_1r, xt_1u, xt_1l, xt_s, xisref, xq0, Value.category, xcat, List.map_nil, List.map_cons, List.sum_nil, List.sum_cons, List.length_cons, List.length_nil, List.getElem?_cons_zero, List.getElem?_cons_succ, xmap_s, if_true, and_self, Nat.reduceAdd, Nat.reduceLT, Nat.reduceLeDiff, Nat.reduceEqDiff, Nat.lt_add_one, Nat.zero_le, Nat.le_refl, Nat.le_zero_eq, Nat.zero_lt_succ, xldc, kbm10, kbm9, kbm8, kbm7, kbm6, kbm5, kbm4, kbm3, kbm2, kb6, kb7, kb8, kb9, kb10, kb11, kb16, kb19, kb20, kb30, kb31, kb32, kb34, kb40, kb64, kb100, kb127, kim1, ki0, ki1, ki2, ki3, ki4, ki5, ks128, ks400, ks999, ks1000, ks4010])
          refine ok_st rfl rfl ?_
          simp only [okS_some, xst, xp0, xp1, xp2, xp3, xp4, xp5, xload, xstore, xget_0, xget_s, xs_0, xs_1n, xs_1i, xs_1r, xs_1u, xs_1l, xs_s, xt_0, xt_1n, xt_1i, xt_1r, xt_1u, xt_1l, xt_s, xisref, xq0, Value.category, xcat, List.map_nil, List.map_cons, List.sum_nil, List.sum_cons, List.length_cons, List.length_nil, List.getElem?_cons_zero, List.getElem?_cons_succ, xmap_s, if_true, and_self, Nat.reduceAdd, Nat.reduceLT, Nat.reduceLeDiff, Nat.reduceEqDiff, Nat.lt_add_one, Nat.zero_le, Nat.le_refl, Nat.le_zero_eq, Nat.zero_lt_succ, xldc, kbm10, kbm9, kbm8, kbm7, kbm6, kbm5, kbm4, kbm3, kbm2, kb6, kb7, kb8, kb9, kb10, kb11, kb16, kb19, kb20, kb30, kb31, kb32, kb34, kb40, kb64, kb100, kb127, kim1, ki0, ki1, ki2, ki3, ki4, ki5, ks128, ks400, ks999, ks1000, ks4010, hI.1]
          refine ok_st rfl rfl ?_
          simp only [okS_some, xst, xp0, xp1, xp2, xp3, xp4, xp5, xload, xstore, xget_0, xget_s, xs_0, xs_1n, xs_1i, xs_1r, xs_1u, xs_1l, xs_s, xt_0, xt_1n, xt_1i, xt_1r, xt_1u, xt_1l, xt_s, xisref, xq0, Value.category, xcat, List.map_nil, List.map_cons, List.sum_nil, List.sum_cons, List.length_cons, List.length_nil, List.getElem?_cons_zero, List.getElem?_cons_succ, xmap_s, if_true, and_self, Nat.reduceAdd, Nat.reduceLT, Nat.reduceLeDiff, Nat.reduceEqDiff, Nat.lt_add_one, Nat.zero_le, Nat.le_refl, Nat.le_zero_eq, Nat.zero_lt_succ, xldc, kbm10, kbm9, kbm8, kbm7, kbm6, kbm5, kbm4, kbm3, kbm2, kb6, kb7, kb8, kb9, kb10, kb11, kb16, kb19, kb20, kb30, kb31, kb32, kb34, kb40, kb64, kb100, kb127, kim1, ki0, ki1, ki2, ki3, ki4, ki5, ks128, ks400, ks999, ks1000, ks4010, hp45]
          obtain ⟨a60, a61, a62, a63, a64, a65, a66, a67, a68, a69, a70, a71, v57, rfl, hb59, hv58⟩ := sh2 hW hp40
          refine ok_pf rfl hW hp40 (Nat.le_of_ble_eq_true rfl) rfl rfl ?_
          intro h72 k73 hp74 s76 og75
          try dsimp only at s76
          try dsimp only at og75
          dsimp only [List.set, Nat.reduceAdd] at hp74 ⊢
          have hW := k73.1
          have hI := hI.kp k73 (by decide)
          obtain ⟨f77, hp78⟩ := k73.2.1.cls hp40
          obtain ⟨f79, hp80⟩ := k73.2.1.cls hp42
          iterate 2 (refine ok_st rfl rfl ?_; simp only [okS_some, xst, xp0, xp1, xp2, xp3, xp4, xp5, xload, xstore, xget_0, xget_s, xs_0, xs_1n, xs_1i, xs_1r, xs_1u, xs_1l, xs_s, xt_0, xt_1n, xt_1i, xt_1r, xt_1u, xt_1l, xt_s, xisref, xq0, Value.category, xcat, List.map_nil, List.map_cons, List.sum_nil, List.sum_cons, List.length_cons, List.length_nil, List.getElem?_cons_zero, List.getElem?_cons_succ, xmap_s, if_true, and_self, Nat.reduceAdd, Nat.reduceLT, Nat.reduceLeDiff, Nat.reduceEqDiff, Nat.lt_add_one, Nat.zero_le, Nat.le_refl, Nat.le_zero_eq, Nat.zero_lt_succ, xldc, kbm10, kbm9, kbm8, kbm7, kbm6, kbm5, kbm4, kbm3, kbm2, kb6, kb7, kb8, kb9, kb10, kb11, kb16, kb19, kb20, kb30, kb31, kb32, kb34, kb40, kb64, kb100, kb127, kim1, ki0, ki1, ki2, ki3, ki4, ki5, ks128, ks400, ks999, ks1000, ks4010])
          obtain ⟨n81, t82, l83, k84, rfl, ht85, b86, b87, b88, b89, b90⟩ := hI.2.2.2.1 _ _ hp80
          refine ok_st rfl rfl ?_
          simp only [okS_some, xst, xp0, xp1, xp2, xp3, xp4, xp5, xload, xstore, xget_0, xget_s, xs_0, xs_1n, xs_1i, xs_1r, xs_1u, xs_1l, xs_s, xt_0, xt_1n, xt_1i, xt_1r, xt_1u, xt_1l, xt_s, xisref, xq0, Value.category, xcat, List.map_nil, List.map_cons, List.sum_nil, List.sum_cons, List.length_cons, List.length_nil, List.getElem?_cons_zero, List.getElem?_cons_succ, xmap_s, if_true, and_self, Nat.reduceAdd, Nat.reduceLT, Nat.reduceLeDiff, Nat.reduceEqDiff, Nat.lt_add_one, Nat.zero_le, Nat.le_refl, Nat.le_zero_eq, Nat.zero_lt_succ, xldc, kbm10, kbm9, kbm8, kbm7, kbm6, kbm5, kbm4, kbm3, kbm2, kb6, kb7, kb8, kb9, kb10, kb11, kb16, kb19, kb20, kb30, kb31, kb32, kb34, kb40, kb64, kb100, kb127, kim1, ki0, ki1, ki2, ki3, ki4, ki5, ks128, ks400, ks999, ks1000, ks4010, hp80]
          obtain ⟨a94, a95, a96, a97, a98, a99, a100, a101, a102, a103, a104, a105, v91, rfl, hb93, hv92⟩ := sh2 hW hp78
          refine ok_pf rfl hW hp78 (Nat.le_of_ble_eq_true rfl) rfl rfl ?_
          intro h106 k107 hp108 s110 og109
          try dsimp only at s110
          try dsimp only at og109
          dsimp only [List.set, Nat.reduceAdd] at hp108 ⊢
          have hW := k107.1
          have hI := hI.kp k107 (by decide)
          obtain ⟨f111, hp112⟩ := k107.2.1.cls hp78
          have hp114 := k107.2.1.objn hp80 2 rfl (by decide)
          obtain ⟨k115, ht116⟩ := k107.2.1.arr ht85
          iterate 2 (refine ok_st rfl rfl ?_; simp only [okS_some, xst, xp0, xp1, xp2, xp3, xp4, xp5, xload, xstore, xget_0, xget_s, xs_0, xs_1n, xs_1i, xs_1r, xs_1u, xs_1l, xs_s, xt_0, xt_1n, xt_1i, xt_1r, xt_1u, xt_1l, xt_s, xisref, xq0, Value.category, xcat, List.map_nil, List.map_cons, List.sum_nil, List.sum_cons, List.length_cons, List.length_nil, List.getElem?_cons_zero, List.getElem?_cons_succ, xmap_s, if_true, and_self, Nat.reduceAdd, Nat.reduceLT, Nat.reduceLeDiff, Nat.reduceEqDiff, Nat.lt_add_one, Nat.zero_le, Nat.le_refl, Nat.le_zero_eq, Nat.zero_lt_succ, xldc, kbm10, kbm9, kbm8, kbm7, kbm6, kbm5, kbm4, kbm3, kbm2, kb6, kb7, kb8, kb9, kb10, kb11, kb16, kb19, kb20, kb30, kb31, kb32, kb34, kb40, kb64, kb100, kb127, kim1, ki0, ki1, ki2, ki3, ki4, ki5, ks128, ks400, ks999, ks1000, ks4010])
          refine ok_cm (vs := [_, _]) rfl rfl rfl rfl (Nat.le_of_ble_eq_true rfl) (Nat.le_of_ble_eq_true rfl) (by show xcl0 2 2 _ _ = true; simp [xcl0, hp112]) (by decide) hW (sp14 hW hI hp112 hp114) ?_
          rintro _ h117 (rfl | rfl) k118 al119
          · dsimp only [Option.toList, List.cons_append, List.nil_append, Nat.reduceAdd]
            have s121 := al119 rfl
            try dsimp only at s121
            have hW := k118.1
            have hI := hI.kp k118 (by decide)
            obtain ⟨f122, hp123⟩ := k118.2.1.cls hp112
            have hp125 := k118.2.1.objn hp114 2 rfl (by decide)
            obtain ⟨k126, ht127⟩ := k118.2.1.arr ht116
            refine ok_st rfl rfl ?_
            simp only [okS_some, xst, xp0, xp1, xp2, xp3, xp4, xp5, xload, xstore, xget_0, xget_s, xs_0, xs_1n, xs_1i, xs_1r, xs_1u, xs_1l, xs_s, xt_0, xt_1n, xt_1i, xt_1r, xt_1u, xt_1l, xt_s, xisref, xq0, Value.category, xcat, List.map_nil, List.map_cons, List.sum_nil, List.sum_cons, List.length_cons, List.length_nil, List.getElem?_cons_zero, List.getElem?_cons_succ, xmap_s, if_true, and_self, Nat.reduceAdd, Nat.reduceLT, Nat.reduceLeDiff, Nat.reduceEqDiff, Nat.lt_add_one, Nat.zero_le, Nat.le_refl, Nat.le_zero_eq, Nat.zero_lt_succ, xldc, kbm10, kbm9, kbm8, kbm7, kbm6, kbm5, kbm4, kbm3, kbm2, kb6, kb7, kb8, kb9, kb10, kb11, kb16, kb19, kb20, kb30, kb31, kb32, kb34, kb40, kb64, kb100, kb127, kim1, ki0, ki1, ki2, ki3, ki4, ki5, ks128, ks400, ks999, ks1000, ks4010]
            refine ok_bf rfl ?_
            refine ok_st rfl rfl ?_
            simp only [okS_some, xst, xp0, xp1, xp2, xp3, xp4, xp5, xload, xstore, xget_0, xget_s, xs_0, xs_1n, xs_1i, xs_1r, xs_1u, xs_1l, xs_s, xt_0, xt_1n, xt_1i, xt_1r, xt_1u, xt_1l, xt_s, xisref, xq0, Value.category, xcat, List.map_nil, List.map_cons, List.sum_nil, List.sum_cons, List.length_cons, List.length_nil, List.getElem?_cons_zero, List.getElem?_cons_succ, xmap_s, if_true, and_self, Nat.reduceAdd, Nat.reduceLT, Nat.reduceLeDiff, Nat.reduceEqDiff, Nat.lt_add_one, Nat.zero_le, Nat.le_refl, Nat.le_zero_eq, Nat.zero_lt_succ, xldc, kbm10, kbm9, kbm8, kbm7, kbm6, kbm5, kbm4, kbm3, kbm2, kb6, kb7, kb8, kb9, kb10, kb11, kb16, kb19, kb20, kb30, kb31, kb32, kb34, kb40, kb64, kb100, kb127, kim1, ki0, ki1, ki2, ki3, ki4, ki5, ks128, ks400, ks999, ks1000, ks4010]
            refine ok_r1 rfl rfl rfl rfl ?_
            try dsimp only
            exact ⟨⟨_, rfl⟩, hI.up (by omega), by omega, by omega⟩
          · dsimp only [Option.toList, List.cons_append, List.nil_append, Nat.reduceAdd]
            have s128 := al119 rfl
            try dsimp only at s128
            have hW := k118.1
            have hI := hI.kp k118 (by decide)
            obtain ⟨f129, hp130⟩ := k118.2.1.cls hp112
            have hp132 := k118.2.1.objn hp114 2 rfl (by decide)
            obtain ⟨k133, ht134⟩ := k118.2.1.arr ht116
            refine ok_st rfl rfl ?_
            simp only [okS_some, xst, xp0, xp1, xp2, xp3, xp4, xp5, xload, xstore, xget_0, xget_s, xs_0, xs_1n, xs_1i, xs_1r, xs_1u, xs_1l, xs_s, xt_0, xt_1n, xt_1i, xt_1r, xt_1u, xt_1l, xt_s, xisref, xq0, Value.category, xcat, List.map_nil, List.map_cons, List.sum_nil, List.sum_cons, List.length_cons, List.length_nil, List.getElem?_cons_zero, List.getElem?_cons_succ, xmap_s, if_true, and_self, Nat.reduceAdd, Nat.reduceLT, Nat.reduceLeDiff, Nat.reduceEqDiff, Nat.lt_add_one, Nat.zero_le, Nat.le_refl, Nat.le_zero_eq, Nat.zero_lt_succ, xldc, kbm10, kbm9, kbm8, kbm7, kbm6, kbm5, kbm4, kbm3, kbm2, kb6, kb7, kb8, kb9, kb10, kb11, kb16, kb19, kb20, kb30, kb31, kb32, kb34, kb40, kb64, kb100, kb127, kim1, ki0, ki1, ki2, ki3, ki4, ki5, ks128, ks400, ks999, ks1000, ks4010]
            refine ok_bt rfl ?_
            iterate 2 (refine ok_st rfl rfl ?_; simp only [okS_some, xst, xp0, xp1, xp2, xp3, xp4, xp5, xload, xstore, xget_0, xget_s, xs_0, xs_1n, xs_1i, xs_1r, xs_1u, xs_1l, xs_s, xt_0, xt_1n, xt_1i, xt_1r, xt_1u, xt_1l, xt_s, xisref, xq0, Value.category, xcat, List.map_nil, List.map_cons, List.sum_nil, List.sum_cons, List.length_cons, List.length_nil, List.getElem?_cons_zero, List.getElem?_cons_succ, xmap_s, if_true, and_self, Nat.reduceAdd, Nat.reduceLT, Nat.reduceLeDiff, Nat.reduceEqDiff, Nat.lt_add_one, Nat.zero_le, Nat.le_refl, Nat.le_zero_eq, Nat.zero_lt_succ, xldc, kbm10, kbm9, kbm8, kbm7, kbm6, kbm5, kbm4, kbm3, kbm2, kb6, kb7, kb8, kb9, kb10, kb11, kb16, kb19, kb20, kb30, kb31, kb32, kb34, kb40, kb64, kb100, kb127, kim1, ki0, ki1, ki2, ki3, ki4, ki5, ks128, ks400, ks999, ks1000, ks4010])
            refine ok_cm (vs := [_, _]) rfl rfl rfl rfl (Nat.le_of_ble_eq_true rfl) (Nat.le_of_ble_eq_true rfl) (by show xcl0 2 5 _ _ = true; simp [xcl0, hp132]) (by decide) hW (sp29 (c' := c + 1) hW hI (by omega) (by omega) hp132 ht134 (by omega) (Or.inr ⟨_, _, rfl, hp130⟩)) ?_
            rintro _ h135 ⟨rfl, hI, t139, l140, k141, hp142, ht143, s144, s145, s146, oo147⟩ k136 al137
            dsimp only [Option.toList, List.nil_append, Nat.reduceAdd] at s144 s145 ⊢
            have hW := k136.1
            obtain ⟨f148, hp149⟩ := k136.2.1.cls hp130
            obtain ⟨f150, hp151⟩ := k136.2.1.cls hp132
            refine ok_st rfl rfl ?_
            simp only [okS_some, xst, xp0, xp1, xp2, xp3, xp4, xp5, xload, xstore, xget_0, xget_s, xs_0, xs_1n, xs_1i, xs_1r, xs_1u, xs_1l, xs_s, xt_0, xt_1n, xt_1i, xt_1r, xt_1u, xt_1l, xt_s, xisref, xq0, Value.category, xcat, List.map_nil, List.map_cons, List.sum_nil, List.sum_cons, List.length_cons, List.length_nil, List.getElem?_cons_zero, List.getElem?_cons_succ, xmap_s, if_true, and_self, Nat.reduceAdd, Nat.reduceLT, Nat.reduceLeDiff, Nat.reduceEqDiff, Nat.lt_add_one, Nat.zero_le, Nat.le_refl, Nat.le_zero_eq, Nat.zero_lt_succ, xldc, kbm10, kbm9, kbm8, kbm7, kbm6, kbm5, kbm4, kbm3, kbm2, kb6, kb7, kb8, kb9, kb10, kb11, kb16, kb19, kb20, kb30, kb31, kb32, kb34, kb40, kb64, kb100, kb127, kim1, ki0, ki1, ki2, ki3, ki4, ki5, ks128, ks400, ks999, ks1000, ks4010]
            refine ok_st rfl rfl ?_
            simp only [okS_some, xst, xp0, xp1, xp2, xp3, xp4, xp5, xload, xstore, xget_0, xget_s, xs_0, xs_1n, xs_1i, xs_1r, xs_1u, xs_1l, xs_s, xt_0, xt_1n, xt_1i, xt_1r, xt_1u, xt_1l, xt_s, xisref, xq0, Value.category, xcat, List.map_nil, List.map_cons, List.sum_nil, List.sum_cons, List.length_cons, List.length_nil, List.getElem?_cons_zero, List.getElem?_cons_succ, xmap_s, if_true, and_self, Nat.reduceAdd, Nat.reduceLT, Nat.reduceLeDiff, Nat.reduceEqDiff, Nat.lt_add_one, Nat.zero_le, Nat.le_refl, Nat.le_zero_eq, Nat.zero_lt_succ, xldc, kbm10, kbm9, kbm8, kbm7, kbm6, kbm5, kbm4, kbm3, kbm2, kb6, kb7, kb8, kb9, kb10, kb11, kb16, kb19, kb20, kb30, kb31, kb32, kb34, kb40, kb64, kb100, kb127, kim1, ki0, ki1, ki2, ki3, ki4, ki5, ks128, ks400, ks999, ks1000, ks4010, hI.1]
            iterate 2 (refine ok_st rfl rfl ?_; simp only [okS_some, xst, xp0, xp1, xp2, xp3, xp4, xp5, xload, xstore, xget_0, xget_s, xs_0, xs_1n, xs_1i, xs_1r, xs_1u, xs_1l, xs_s, xt_0, xt_1n, xt_1i, xt_1r, xt_1u, xt_1l, xt_s, xisref, xq0, Value.category, xcat, List.map_nil, List.map_cons, List.sum_nil, List.sum_cons, List.length_cons, List.length_nil, List.getElem?_cons_zero, List.getElem?_cons_succ, xmap_s, if_true, and_self, Nat.reduceAdd, Nat.reduceLT, Nat.reduceLeDiff, Nat.reduceEqDiff, Nat.lt_add_one, Nat.zero_le, Nat.le_refl, Nat.le_zero_eq, Nat.zero_lt_succ, xldc, kbm10, kbm9, kbm8, kbm7, kbm6, kbm5, kbm4, kbm3, kbm2, kb6, kb7, kb8, kb9, kb10, kb11, kb16, kb19, kb20, kb30, kb31, kb32, kb34, kb40, kb64, kb100, kb127, kim1, ki0, ki1, ki2, ki3, ki4, ki5, ks128, ks400, ks999, ks1000, ks4010])
            obtain ⟨n152, t153, l154, k155, rfl, ht156, b157, b158, b159, b160, b161⟩ := hI.2.2.2.1 _ _ hp151
            refine ok_st rfl rfl ?_
            simp only [okS_some, xst, xp0, xp1, xp2, xp3, xp4, xp5, xload, xstore, xget_0, xget_s, xs_0, xs_1n, xs_1i, xs_1r, xs_1u, xs_1l, xs_s, xt_0, xt_1n, xt_1i, xt_1r, xt_1u, xt_1l, xt_s, xisref, xq0, Value.category, xcat, List.map_nil, List.map_cons, List.sum_nil, List.sum_cons, List.length_cons, List.length_nil, List.getElem?_cons_zero, List.getElem?_cons_succ, xmap_s, if_true, and_self, Nat.reduceAdd, Nat.reduceLT, Nat.reduceLeDiff, Nat.reduceEqDiff, Nat.lt_add_one, Nat.zero_le, Nat.le_refl, Nat.le_zero_eq, Nat.zero_lt_succ, xldc, kbm10, kbm9, kbm8, kbm7, kbm6, kbm5, kbm4, kbm3, kbm2, kb6, kb7, kb8, kb9, kb10, kb11, kb16, kb19, kb20, kb30, kb31, kb32, kb34, kb40, kb64, kb100, kb127, kim1, ki0, ki1, ki2, ki3, ki4, ki5, ks128, ks400, ks999, ks1000, ks4010, hp151]
            obtain ⟨a163, a164, a165, a166, a167, a168, a169, a170, hj162⟩ := sh3 hW hI.2.2.1
            refine ok_cm (vs := [_, _, _]) rfl rfl rfl rfl (Nat.le_of_ble_eq_true rfl) (Nat.le_of_ble_eq_true rfl) (by show xcl0 2 3 _ _ = true; simp [xcl0, hj162]) (by decide) hW (sp23 hW hI hp151) ?_
            rintro _ h171 ⟨x175, rfl⟩ k172 al173
            have s176 := al173 rfl
            try dsimp only at s176
            have hW := k172.1
            have hI := hI.kp k172 (by decide)
            obtain ⟨f177, hp178⟩ := k172.2.1.cls hp149
            have hp180 := k172.2.1.objn hp151 2 rfl (by decide)
            obtain ⟨k181, ht182⟩ := k172.2.1.arr ht156
            dsimp only [Option.toList, List.cons_append, List.nil_append, Nat.reduceAdd]
            iterate 3 (refine ok_st rfl rfl ?_; simp only [okS_some, xst, xp0, xp1, xp2, xp3, xp4, xp5, xload, xstore, xget_0, xget_s, xs_0, xs_1n, xs_1i, xs_1r, xs_1u, xs_1l, xs_s, xt_0, xt_1n, xt_1i, xt_1r, xt_1u, xt_1l, xt_s, xisref, xq0, Value.category, xcat, List.map_nil, List.map_cons, List.sum_nil, List.sum_cons, List.length_cons, List.length_nil, List.getElem?_cons_zero, List.getElem?_cons_succ, xmap_s, if_true, and_self, Nat.reduceAdd, Nat.reduceLT, Nat.reduceLeDiff, Nat.reduceEqDiff, Nat.lt_add_one, Nat.zero_le, Nat.le_refl, Nat.le_zero_eq, Nat.zero_lt_succ, xldc, kbm10, kbm9, kbm8, kbm7, kbm6, kbm5, kbm4, kbm3, kbm2, kb6, kb7, kb8, kb9, kb10, kb11, kb16, kb19, kb20, kb30, kb31, kb32, kb34, kb40, kb64, kb100, kb127, kim1, ki0, ki1, ki2, ki3, ki4, ki5, ks128, ks400, ks999, ks1000, ks4010])
            refine ok_if (fun c183 => ?_) (fun c183 => ?_)
            · simp only [xcnd, decide_eq_true_eq, decide_eq_false_iff_not, Bool.not_eq_true', Bool.not_eq_false'] at c183
              refine ok_st rfl rfl ?_
              simp only [okS_some, xst, xp0, xp1, xp2, xp3, xp4, xp5, xload, xstore, xget_0, xget_s, xs_0, xs_1n, xs_1i, xs_1r, xs_1u, xs_1l, xs_s, xt_0, xt_1n, xt_1i, xt_1r, xt_1u, xt_1l, xt_s, xisref, xq0, Value.category, xcat, List.map_nil, List.map_cons, List.sum_nil, List.sum_cons, List.length_cons, List.length_nil, List.getElem?_cons_zero, List.getElem?_cons_succ, xmap_s, if_true, and_self, Nat.reduceAdd, Nat.reduceLT, Nat.reduceLeDiff, Nat.reduceEqDiff, Nat.lt_add_one, Nat.zero_le, Nat.le_refl, Nat.le_zero_eq, Nat.zero_lt_succ, xldc, kbm10, kbm9, kbm8, kbm7, kbm6, kbm5, kbm4, kbm3, kbm2, kb6, kb7, kb8, kb9, kb10, kb11, kb16, kb19, kb20, kb30, kb31, kb32, kb34, kb40, kb64, kb100, kb127, kim1, ki0, ki1, ki2, ki3, ki4, ki5, ks128, ks400, ks999, ks1000, ks4010]
              refine ok_st rfl rfl ?_
              simp only [okS_some, xst, xp0, xp1, xp2, xp3, xp4, xp5, xload, xstore, xget_0, xget_s, xs_0, xs_1n, xs_1i, xs_1r, xs_1u, xs_1l, xs_s, xt_0, xt_1n, xt_1i, xt_1r, xt_1u, xt_1l, xt_s, xisref, xq0, Value.category, xcat, List.map_nil, List.map_cons, List.sum_nil, List.sum_cons, List.length_cons, List.length_nil, List.getElem?_cons_zero, List.getElem?_cons_succ, xmap_s, if_true, and_self, Nat.reduceAdd, Nat.reduceLT, Nat.reduceLeDiff, Nat.reduceEqDiff, Nat.lt_add_one, Nat.zero_le, Nat.le_refl, Nat.le_zero_eq, Nat.zero_lt_succ, xldc, kbm10, kbm9, kbm8, kbm7, kbm6, kbm5, kbm4, kbm3, kbm2, kb6, kb7, kb8, kb9, kb10, kb11, kb16, kb19, kb20, kb30, kb31, kb32, kb34, kb40, kb64, kb100, kb127, kim1, ki0, ki1, ki2, ki3, ki4, ki5, ks128, ks400, ks999, ks1000, ks4010, hI.1]
              refine ok_st rfl rfl ?_
              simp only [okS_some, xst, xp0, xp1, xp2, xp3, xp4, xp5, xload, xstore, xget_0, xget_s, xs_0, xs_1n, xs_1i, xs_1r, xs_1u, xs_1l, xs_s, xt_0, xt_1n, xt_1i, xt_1r, xt_1u, xt_1l, xt_s, xisref, xq0, Value.category, xcat, List.map_nil, List.map_cons, List.sum_nil, List.sum_cons, List.length_cons, List.length_nil, List.getElem?_cons_zero, List.getElem?_cons_succ, xmap_s, if_true, and_self, Nat.reduceAdd, Nat.reduceLT, Nat.reduceLeDiff, Nat.reduceEqDiff, Nat.lt_add_one, Nat.zero_le, Nat.le_refl, Nat.le_zero_eq, Nat.zero_lt_succ, xldc, kbm10, kbm9, kbm8, kbm7, kbm6, kbm5, kbm4, kbm3, kbm2, kb6, kb7, kb8, kb9, kb10, kb11, kb16, kb19, kb20, kb30, kb31, kb32, kb34, kb40, kb64, kb100, kb127, kim1, ki0, ki1, ki2, ki3, ki4, ki5, ks128, ks400, ks999, ks1000, ks4010]
              obtain ⟨f184, hp185⟩ := hI.2.2.1.1
              obtain ⟨f186, hp187⟩ := hI.2.2.1.1
              obtain ⟨n188, t189, l190, k191, rfl, ht192, b193, b194, b195, b196, b197⟩ := hI.2.2.2.1 _ _ hp187
              refine ok_cm (vs := [_, _]) rfl rfl rfl rfl (Nat.le_of_ble_eq_true rfl) (Nat.le_of_ble_eq_true rfl) (by show xcl0 2 5 _ _ = true; simp [xcl0, hp185]) (by decide) hW (sp29 (c' := c + 2) hW hI (by omega) (by omega) hp187 ht192 (by omega) (Or.inr ⟨_, _, rfl, hp178⟩)) ?_
              rintro _ h198 ⟨rfl, hI, t202, l203, k204, hp205, ht206, s207, s208, s209, oo210⟩ k199 al200
              dsimp only [Option.toList, List.nil_append, Nat.reduceAdd] at s207 s208 ⊢
              have hW := k199.1
              obtain ⟨f211, hp212⟩ := k199.2.1.cls hp178
              obtain ⟨f213, hp214⟩ := k199.2.1.cls hp180
              refine ok_st rfl rfl ?_
              simp only [okS_some, xst, xp0, xp1, xp2, xp3, xp4, xp5, xload, xstore, xget_0, xget_s, xs_0, xs_1n, xs_1i, xs_1r, xs_1u, xs_1l, xs_s, xt_0, xt_1n, xt_1i, xt_1r, xt_1u, xt_1l, xt_s, xisref, xq0, Value.category, xcat, List.map_nil, List.map_cons, List.sum_nil, List.sum_cons, List.length_cons, List.length_nil, List.getElem?_cons_zero, List.getElem?_cons_succ, xmap_s, if_true, and_self, Nat.reduceAdd, Nat.reduceLT, Nat.reduceLeDiff, Nat.reduceEqDiff, Nat.lt_add_one, Nat.zero_le, Nat.le_refl, Nat.le_zero_eq, Nat.zero_lt_succ, xldc, kbm10, kbm9, kbm8, kbm7, kbm6, kbm5, kbm4, kbm3, kbm2, kb6, kb7, kb8, kb9, kb10, kb11, kb16, kb19, kb20, kb30, kb31, kb32, kb34, kb40, kb64, kb100, kb127, kim1, ki0, ki1, ki2, ki3, ki4, ki5, ks128, ks400, ks999, ks1000, ks4010]
              obtain ⟨a218, a219, a220, a221, a222, a223, a224, a225, a226, a227, a228, a229, v215, rfl, hb217, hv216⟩ := sh2 hW hp212
              refine ok_st rfl rfl ?_
              simp only [okS_some, xst, xp0, xp1, xp2, xp3, xp4, xp5, xload, xstore, xget_0, xget_s, xs_0, xs_1n, xs_1i, xs_1r, xs_1u, xs_1l, xs_s, xt_0, xt_1n, xt_1i, xt_1r, xt_1u, xt_1l, xt_s, xisref, xq0, Value.category, xcat, List.map_nil, List.map_cons, List.sum_nil, List.sum_cons, List.length_cons, List.length_nil, List.getElem?_cons_zero, List.getElem?_cons_succ, xmap_s, if_true, and_self, Nat.reduceAdd, Nat.reduceLT, Nat.reduceLeDiff, Nat.reduceEqDiff, Nat.lt_add_one, Nat.zero_le, Nat.le_refl, Nat.le_zero_eq, Nat.zero_lt_succ, xldc, kbm10, kbm9, kbm8, kbm7, kbm6, kbm5, kbm4, kbm3, kbm2, kb6, kb7, kb8, kb9, kb10, kb11, kb16, kb19, kb20, kb30, kb31, kb32, kb34, kb40, kb64, kb100, kb127, kim1, ki0, ki1, ki2, ki3, ki4, ki5, ks128, ks400, ks999, ks1000, ks4010, hp212]
              refine ok_r1 rfl rfl rfl rfl ?_
              try dsimp only
              exact ⟨⟨_, rfl⟩, hI.up (by omega), by omega, by omega⟩
            · simp only [xcnd, decide_eq_true_eq, decide_eq_false_iff_not, Bool.not_eq_true', Bool.not_eq_false'] at c183
              refine ok_st rfl rfl ?_
              simp only [okS_some, xst, xp0, xp1, xp2, xp3, xp4, xp5, xload, xstore, xget_0, xget_s, xs_0, xs_1n, xs_1i, xs_1r, xs_1u, xs_1l, xs_s, xt_0, xt_1n, xt_1i, xt_1r, xt_1u, xt_1l, xt_s, xisref, xq0, Value.category, xcat, List.map_nil, List.map_cons, List.sum_nil, List.sum_cons, List.length_cons, List.length_nil, List.getElem?_cons_zero, List.getElem?_cons_succ, xmap_s, if_true, and_self, Nat.reduceAdd, Nat.reduceLT, Nat.reduceLeDiff, Nat.reduceEqDiff, Nat.lt_add_one, Nat.zero_le, Nat.le_refl, Nat.le_zero_eq, Nat.zero_lt_succ, xldc, kbm10, kbm9, kbm8, kbm7, kbm6, kbm5, kbm4, kbm3, kbm2, kb6, kb7, kb8, kb9, kb10, kb11, kb16, kb19, kb20, kb30, kb31, kb32, kb34, kb40, kb64, kb100, kb127, kim1, ki0, ki1, ki2, ki3, ki4, ki5, ks128, ks400, ks999, ks1000, ks4010]
              refine ok_cm (vs := [_]) rfl rfl rfl rfl (Nat.le_of_ble_eq_true rfl) (Nat.le_of_ble_eq_true rfl) (by show xcl0 2 5 _ _ = true; simp [xcl0, hp180]) (by decide) hW (sp30 hW hI hp180) ?_
              rintro _ h230 ⟨rfl, hI⟩ k231 al232
              have s234 := al232 rfl
              try dsimp only at s234
              dsimp only [Option.toList, List.nil_append, Nat.reduceAdd]
              have hW := k231.1
              obtain ⟨f235, hp236⟩ := k231.2.1.cls hp178
              obtain ⟨f237, hp238⟩ := k231.2.1.cls hp180
              refine ok_st rfl rfl ?_
              simp only [okS_some, xst, xp0, xp1, xp2, xp3, xp4, xp5, xload, xstore, xget_0, xget_s, xs_0, xs_1n, xs_1i, xs_1r, xs_1u, xs_1l, xs_s, xt_0, xt_1n, xt_1i, xt_1r, xt_1u, xt_1l, xt_s, xisref, xq0, Value.category, xcat, List.map_nil, List.map_cons, List.sum_nil, List.sum_cons, List.length_cons, List.length_nil, List.getElem?_cons_zero, List.getElem?_cons_succ, xmap_s, if_true, and_self, Nat.reduceAdd, Nat.reduceLT, Nat.reduceLeDiff, Nat.reduceEqDiff, Nat.lt_add_one, Nat.zero_le, Nat.le_refl, Nat.le_zero_eq, Nat.zero_lt_succ, xldc, kbm10, kbm9, kbm8, kbm7, kbm6, kbm5, kbm4, kbm3, kbm2, kb6, kb7, kb8, kb9, kb10, kb11, kb16, kb19, kb20, kb30, kb31, kb32, kb34, kb40, kb64, kb100, kb127, kim1, ki0, ki1, ki2, ki3, ki4, ki5, ks128, ks400, ks999, ks1000, ks4010]
              refine ok_r1 rfl rfl rfl rfl ?_
              try dsimp only
              exact ⟨⟨_, rfl⟩, hI.up (by omega), by omega, by omega⟩
        · simp only [xcnd, decide_eq_true_eq, decide_eq_false_iff_not, Bool.not_eq_true', Bool.not_eq_false'] at c56
          refine ok_st rfl rfl ?_
          simp only [okS_some, xst, xp0, xp1, xp2, xp3, xp4, xp5, xload, xstore, xget_0, xget_s, xs_0, xs_1n, xs_1i, xs_1r, xs_1u, xs_1l, xs_s, xt_0, xt_1n, xt_1i, xt_1r, xt_1u, xt_1l, xt_s, xisref, xq0, Value.category, xcat, List.map_nil, List.map_cons, List.sum_nil, List.sum_cons, List.length_cons, List.length_nil, List.getElem?_cons_zero, List.getElem?_cons_succ, xmap_s, if_true, and_self, Nat.reduceAdd, Nat.reduceLT, Nat.reduceLeDiff, Nat.reduceEqDiff, Nat.lt_add_one, Nat.zero_le, Nat.le_refl, Nat.le_zero_eq, Nat.zero_lt_succ, xldc, kbm10, kbm9, kbm8, kbm7, kbm6, kbm5, kbm4, kbm3, kbm2, kb6, kb7, kb8, kb9, kb10, kb11, kb16, kb19, kb20, kb30, kb31, kb32, kb34, kb40, kb64, kb100, kb127, kim1, ki0, ki1, ki2, ki3, ki4, ki5, ks128, ks400, ks999, ks1000, ks4010]
          refine ok_r1 rfl rfl rfl rfl ?_
          try dsimp only
          exact ⟨⟨_, rfl⟩, hI.up (by omega), by omega, by omega⟩
      · simp only [xcnd, decide_eq_true_eq, decide_eq_false_iff_not, Bool.not_eq_true', Bool.not_eq_false'] at c43
        iterate 2 (refine ok_st rfl rfl ?_; simp only [okS_some, xst, xp0, xp1, xp2, xp3, xp4, xp5, xload, xstore, xget_0, xget_s, xs_0, xs_1n, xs_1i, xs_1r, xs_1u, xs_1l, xs_s, xt_0, xt_1n, xt_1i, xt_1r, xt_1u, xt_1l, xt_s, xisref, xq0, Value.category, xcat, List.map_nil, List.map_cons, List.sum_nil, List.sum_cons, List.length_cons, List.length_nil, List.getElem?_cons_zero, List.getElem?_cons_succ, xmap_s, if_true, and_self, Nat.reduceAdd, Nat.reduceLT, Nat.reduceLeDiff, Nat.reduceEqDiff, Nat.lt_add_one, Nat.zero_le, Nat.le_refl, Nat.le_zero_eq, Nat.zero_lt_succ, xldc, kbm10, kbm9, kbm8, kbm7, kbm6, kbm5, kbm4, kbm3, kbm2, kb6, kb7, kb8, kb9, kb10, kb11, kb16, kb19, kb20, kb30, kb31, kb32, kb34, kb40, kb64, kb100, kb127, kim1, ki0, ki1, ki2, ki3, ki4, ki5, ks128, ks400, ks999, ks1000, ks4010])
        obtain ⟨n239, t240, l241, k242, rfl, ht243, b244, b245, b246, b247, b248⟩ := hI.2.2.2.1 _ _ hp42
        refine ok_st rfl rfl ?_
        simp only [okS_some, xst, xp0, xp1, xp2, xp3, xp4, xp5, xload, xstore, xget_0, xget_s, xs_0, xs_1n, xs_1i, xs_1r, xs_1u, xs_1l, xs_s, xt_0, xt_1n, xt_1i, xt_1r, xt_1u, xt_1l, xt_s, xisref, xq0, Value.category, xcat, List.map_nil, List.map_cons, List.sum_nil, List.sum_cons, List.length_cons, List.length_nil, List.getElem?_cons_zero, List.getElem?_cons_succ, xmap_s, if_true, and_self, Nat.reduceAdd, Nat.reduceLT, Nat.reduceLeDiff, Nat.reduceEqDiff, Nat.lt_add_one, Nat.zero_le, Nat.le_refl, Nat.le_zero_eq, Nat.zero_lt_succ, xldc, kbm10, kbm9, kbm8, kbm7, kbm6, kbm5, kbm4, kbm3, kbm2, kb6, kb7, kb8, kb9, kb10, kb11, kb16, kb19, kb20, kb30, kb31, kb32, kb34, kb40, kb64, kb100, kb127, kim1, ki0, ki1, ki2, ki3, ki4, ki5, ks128, ks400, ks999, ks1000, ks4010, hp42]
        refine ok_st rfl rfl ?_
        simp only [okS_some, xst, xp0, xp1, xp2, xp3, xp4, xp5, xload, xstore, xget_0, xget_s, xs_0, xs_1n, xs_1i, xs_1r, xs_1u, xs_1l, xs_s, xt_0, xt_1n, xt_1i, xt_1r, xt_1u, xt_1l, xt_s, xisref, xq0, Value.category, xcat, List.map_nil, List.map_cons, List.sum_nil, List.sum_cons, List.length_cons, List.length_nil, List.getElem?_cons_zero, List.getElem?_cons_succ, xmap_s, if_true, and_self, Nat.reduceAdd, Nat.reduceLT, Nat.reduceLeDiff, Nat.reduceEqDiff, Nat.lt_add_one, Nat.zero_le, Nat.le_refl, Nat.le_zero_eq, Nat.zero_lt_succ, xldc, kbm10, kbm9, kbm8, kbm7, kbm6, kbm5, kbm4, kbm3, kbm2, kb6, kb7, kb8, kb9, kb10, kb11, kb16, kb19, kb20, kb30, kb31, kb32, kb34, kb40, kb64, kb100, kb127, kim1, ki0, ki1, ki2, ki3, ki4, ki5, ks128, ks400, ks999, ks1000, ks4010]
        refine ok_if (fun c249 => ?_) (fun c249 => ?_)
        · simp only [xcnd, decide_eq_true_eq, decide_eq_false_iff_not, Bool.not_eq_true', Bool.not_eq_false'] at c249
          refine ok_st rfl rfl ?_
          simp only [okS_some, xst, xp0, xp1, xp2, xp3, xp4, xp5, xload, xstore, xget_0, xget_s, xs_0, xs_1n, xs_1i, xs_1r, xs_1u, xs_1l, xs_s, xt_0, xt_1n, xt_1i, xt_1r, xt_1u, xt_1l, xt_s, xisref, xq0, Value.category, xcat, List.map_nil, List.map_cons, List.sum_nil, List.sum_cons, List.length_cons, List.length_nil, List.getElem?_cons_zero, List.getElem?_cons_succ, xmap_s, if_true, and_self, Nat.reduceAdd, Nat.reduceLT, Nat.reduceLeDiff, Nat.reduceEqDiff, Nat.lt_add_one, Nat.zero_le, Nat.le_refl, Nat.le_zero_eq, Nat.zero_lt_succ, xldc, kbm10, kbm9, kbm8, kbm7, kbm6, kbm5, kbm4, kbm3, kbm2, kb6, kb7, kb8, kb9, kb10, kb11, kb16, kb19, kb20, kb30, kb31, kb32, kb34, kb40, kb64, kb100, kb127, kim1, ki0, ki1, ki2, ki3, ki4, ki5, ks128, ks400, ks999, ks1000, ks4010]
          refine ok_st rfl rfl ?_
          simp only [okS_some, xst, xp0, xp1, xp2, xp3, xp4, xp5, xload, xstore, xget_0, xget_s, xs_0, xs_1n, xs_1i, xs_1r, xs_1u, xs_1l, xs_s, xt_0, xt_1n, xt_1i, xt_1r, xt_1u, xt_1l, xt_s, xisref, xq0, Value.category, xcat, List.map_nil, List.map_cons, List.sum_nil, List.sum_cons, List.length_cons, List.length_nil, List.getElem?_cons_zero, List.getElem?_cons_succ, xmap_s, if_true, and_self, Nat.reduceAdd, Nat.reduceLT, Nat.reduceLeDiff, Nat.reduceEqDiff, Nat.lt_add_one, Nat.zero_le, Nat.le_refl, Nat.le_zero_eq, Nat.zero_lt_succ, xldc, kbm10, kbm9, kbm8, kbm7, kbm6, kbm5, kbm4, kbm3, kbm2, kb6, kb7, kb8, kb9, kb10, kb11, kb16, kb19, kb20, kb30, kb31, kb32, kb34, kb40, kb64, kb100, kb127, kim1, ki0, ki1, ki2, ki3, ki4, ki5, ks128, ks400, ks999, ks1000, ks4010, hI.1]
          obtain ⟨f250, hp251⟩ := hI.2.2.1.1
          obtain ⟨n252, t253, l254, k255, rfl, ht256, b257, b258, b259, b260, b261⟩ := hI.2.2.2.1 _ _ hp251
          refine ok_st rfl rfl ?_
          simp only [okS_some, xst, xp0, xp1, xp2, xp3, xp4, xp5, xload, xstore, xget_0, xget_s, xs_0, xs_1n, xs_1i, xs_1r, xs_1u, xs_1l, xs_s, xt_0, xt_1n, xt_1i, xt_1r, xt_1u, xt_1l, xt_s, xisref, xq0, Value.category, xcat, List.map_nil, List.map_cons, List.sum_nil, List.sum_cons, List.length_cons, List.length_nil, List.getElem?_cons_zero, List.getElem?_cons_succ, xmap_s, if_true, and_self, Nat.reduceAdd, Nat.reduceLT, Nat.reduceLeDiff, Nat.reduceEqDiff, Nat.lt_add_one, Nat.zero_le, Nat.le_refl, Nat.le_zero_eq, Nat.zero_lt_succ, xldc, kbm10, kbm9, kbm8, kbm7, kbm6, kbm5, kbm4, kbm3, kbm2, kb6, kb7, kb8, kb9, kb10, kb11, kb16, kb19, kb20, kb30, kb31, kb32, kb34, kb40, kb64, kb100, kb127, kim1, ki0, ki1, ki2, ki3, ki4, ki5, ks128, ks400, ks999, ks1000, ks4010, hp251]
          iterate 2 (refine ok_st rfl rfl ?_; simp only [okS_some, xst, xp0, xp1, xp2, xp3, xp4, xp5, xload, xstore, xget_0, xget_s, xs_0, xs_1n, xs_1i, xs_1r, xs_1u, xs_1l, xs_s, xt_0, xt_1n, xt_1i, xt_1r, xt_1u, xt_1l, xt_s, xisref, xq0, Value.category, xcat, List.map_nil, List.map_cons, List.sum_nil, List.sum_cons, List.length_cons, List.length_nil, List.getElem?_cons_zero, List.getElem?_cons_succ, xmap_s, if_true, and_self, Nat.reduceAdd, Nat.reduceLT, Nat.reduceLeDiff, Nat.reduceEqDiff, Nat.lt_add_one, Nat.zero_le, Nat.le_refl, Nat.le_zero_eq, Nat.zero_lt_succ, xldc, kbm10, kbm9, kbm8, kbm7, kbm6, kbm5, kbm4, kbm3, kbm2, kb6, kb7, kb8, kb9, kb10, kb11, kb16, kb19, kb20, kb30, kb31, kb32, kb34, kb40, kb64, kb100, kb127, kim1, ki0, ki1, ki2, ki3, ki4, ki5, ks128, ks400, ks999, ks1000, ks4010])
          refine ok_if (fun c262 => ?_) (fun c262 => ?_)
          · simp only [xcnd, decide_eq_true_eq, decide_eq_false_iff_not, Bool.not_eq_true', Bool.not_eq_false'] at c262
            iterate 2 (refine ok_st rfl rfl ?_; simp only [okS_some, xst, xp0, xp1, xp2, xp3, xp4, xp5, xload, xstore, xget_0, xget_s, xs_0, xs_1n, xs_1i, xs_1r, xs_1u, xs_1l, xs_s, xt_0, xt_1n, xt_1i, xt_1r, xt_1u, xt_1l, xt_s, xisref, xq0, Value.category, xcat, List.map_nil, List.map_cons, List.sum_nil, List.sum_cons, List.length_cons, List.length_nil, List.getElem?_cons_zero, List.getElem?_cons_succ, xmap_s, if_true, and_self, Nat.reduceAdd, Nat.reduceLT, Nat.reduceLeDiff, Nat.reduceEqDiff, Nat.lt_add_one, Nat.zero_le, Nat.le_refl, Nat.le_zero_eq, Nat.zero_lt_succ, xldc, kbm10, kbm9, kbm8, kbm7, kbm6, kbm5, kbm4, kbm3, kbm2, kb6, kb7, kb8, kb9, kb10, kb11, kb16, kb19, kb20, kb30, kb31, kb32, kb34, kb40, kb64, kb100, kb127, kim1, ki0, ki1, ki2, ki3, ki4, ki5, ks128, ks400, ks999, ks1000, ks4010])
            refine ok_st rfl rfl ?_
            simp only [okS_some, xst, xp0, xp1, xp2, xp3, xp4, xp5, xload, xstore, xget_0, xget_s, xs_0, xs_1n, xs_1i, xs_1r, xs_1u, xs_1l, xs_s, xt_0, xt_1n, xt_1i, xt_1r, xt_1u, xt_1l, xt_s, xisref, xq0, Value.category, xcat, List.map_nil, List.map_cons, List.sum_nil, List.sum_cons, List.length_cons, List.length_nil, List.getElem?_cons_zero, List.getElem?_cons_succ, xmap_s, if_true, and_self, Nat.reduceAdd, Nat.reduceLT, Nat.reduceLeDiff, Nat.reduceEqDiff, Nat.lt_add_one, Nat.zero_le, Nat.le_refl, Nat.le_zero_eq, Nat.zero_lt_succ, xldc, kbm10, kbm9, kbm8, kbm7, kbm6, kbm5, kbm4, kbm3, kbm2, kb6, kb7, kb8, kb9, kb10, kb11, kb16, kb19, kb20, kb30, kb31, kb32, kb34, kb40, kb64, kb100, kb127, kim1, ki0, ki1, ki2, ki3, ki4, ki5, ks128, ks400, ks999, ks1000, ks4010, hI.1]
            refine ok_st rfl rfl ?_
            simp only [okS_some, xst, xp0, xp1, xp2, xp3, xp4, xp5, xload, xstore, xget_0, xget_s, xs_0, xs_1n, xs_1i, xs_1r, xs_1u, xs_1l, xs_s, xt_0, xt_1n, xt_1i, xt_1r, xt_1u, xt_1l, xt_s, xisref, xq0, Value.category, xcat, List.map_nil, List.map_cons, List.sum_nil, List.sum_cons, List.length_cons, List.length_nil, List.getElem?_cons_zero, List.getElem?_cons_succ, xmap_s, if_true, and_self, Nat.reduceAdd, Nat.reduceLT, Nat.reduceLeDiff, Nat.reduceEqDiff, Nat.lt_add_one, Nat.zero_le, Nat.le_refl, Nat.le_zero_eq, Nat.zero_lt_succ, xldc, kbm10, kbm9, kbm8, kbm7, kbm6, kbm5, kbm4, kbm3, kbm2, kb6, kb7, kb8, kb9, kb10, kb11, kb16, kb19, kb20, kb30, kb31, kb32, kb34, kb40, kb64, kb100, kb127, kim1, ki0, ki1, ki2, ki3, ki4, ki5, ks128, ks400, ks999, ks1000, ks4010, hp251]
            obtain ⟨a266, a267, a268, a269, a270, a271, a272, a273, a274, a275, a276, a277, v263, rfl, hb265, hv264⟩ := sh2 hW hp40
            refine ok_pf rfl hW hp40 (Nat.le_of_ble_eq_true rfl) rfl rfl ?_
            intro h278 k279 hp280 s282 og281
            try dsimp only at s282
            try dsimp only at og281
            dsimp only [List.set, Nat.reduceAdd] at hp280 ⊢
            have hW := k279.1
            have hI := hI.kp k279 (by decide)
            obtain ⟨f283, hp284⟩ := k279.2.1.cls hp40
            have hp286 := k279.2.1.objn hp42 2 rfl (by decide)
            obtain ⟨k287, ht288⟩ := k279.2.1.arr ht243
            iterate 2 (refine ok_st rfl rfl ?_; simp only [okS_some, xst, xp0, xp1, xp2, xp3, xp4, xp5, xload, xstore, xget_0, xget_s, xs_0, xs_1n, xs_1i, xs_1r, xs_1u, xs_1l, xs_s, xt_0, xt_1n, xt_1i, xt_1r, xt_1u, xt_1l, xt_s, xisref, xq0, Value.category, xcat, List.map_nil, List.map_cons, List.sum_nil, List.sum_cons, List.length_cons, List.length_nil, List.getElem?_cons_zero, List.getElem?_cons_succ, xmap_s, if_true, and_self, Nat.reduceAdd, Nat.reduceLT, Nat.reduceLeDiff, Nat.reduceEqDiff, Nat.lt_add_one, Nat.zero_le, Nat.le_refl, Nat.le_zero_eq, Nat.zero_lt_succ, xldc, kbm10, kbm9, kbm8, kbm7, kbm6, kbm5, kbm4, kbm3, kbm2, kb6, kb7, kb8, kb9, kb10, kb11, kb16, kb19, kb20, kb30, kb31, kb32, kb34, kb40, kb64, kb100, kb127, kim1, ki0, ki1, ki2, ki3, ki4, ki5, ks128, ks400, ks999, ks1000, ks4010])
            refine ok_st rfl rfl ?_
            simp only [okS_some, xst, xp0, xp1, xp2, xp3, xp4, xp5, xload, xstore, xget_0, xget_s, xs_0, xs_1n, xs_1i, xs_1r, xs_1u, xs_1l, xs_s, xt_0, xt_1n, xt_1i, xt_1r, xt_1u, xt_1l, xt_s, xisref, xq0, Value.category, xcat, List.map_nil, List.map_cons, List.sum_nil, List.sum_cons, List.length_cons, List.length_nil, List.getElem?_cons_zero, List.getElem?_cons_succ, xmap_s, if_true, and_self, Nat.reduceAdd, Nat.reduceLT, Nat.reduceLeDiff, Nat.reduceEqDiff, Nat.lt_add_one, Nat.zero_le, Nat.le_refl, Nat.le_zero_eq, Nat.zero_lt_succ, xldc, kbm10, kbm9, kbm8, kbm7, kbm6, kbm5, kbm4, kbm3, kbm2, kb6, kb7, kb8, kb9, kb10, kb11, kb16, kb19, kb20, kb30, kb31, kb32, kb34, kb40, kb64, kb100, kb127, kim1, ki0, ki1, ki2, ki3, ki4, ki5, ks128, ks400, ks999, ks1000, ks4010, hp286]
            obtain ⟨a292, a293, a294, a295, a296, a297, a298, a299, a300, a301, a302, a303, v289, rfl, hb291, hv290⟩ := sh2 hW hp284
            refine ok_pf rfl hW hp284 (Nat.le_of_ble_eq_true rfl) rfl rfl ?_
            intro h304 k305 hp306 s308 og307
            try dsimp only at s308
            try dsimp only at og307
            dsimp only [List.set, Nat.reduceAdd] at hp306 ⊢
            have hW := k305.1
            have hI := hI.kp k305 (by decide)
            obtain ⟨f309, hp310⟩ := k305.2.1.cls hp284
            have hp312 := k305.2.1.objn hp286 2 rfl (by decide)
            obtain ⟨k313, ht314⟩ := k305.2.1.arr ht288
            iterate 2 (refine ok_st rfl rfl ?_; simp only [okS_some, xst, xp0, xp1, xp2, xp3, xp4, xp5, xload, xstore, xget_0, xget_s, xs_0, xs_1n, xs_1i, xs_1r, xs_1u, xs_1l, xs_s, xt_0, xt_1n, xt_1i, xt_1r, xt_1u, xt_1l, xt_s, xisref, xq0, Value.category, xcat, List.map_nil, List.map_cons, List.sum_nil, List.sum_cons, List.length_cons, List.length_nil, List.getElem?_cons_zero, List.getElem?_cons_succ, xmap_s, if_true, and_self, Nat.reduceAdd, Nat.reduceLT, Nat.reduceLeDiff, Nat.reduceEqDiff, Nat.lt_add_one, Nat.zero_le, Nat.le_refl, Nat.le_zero_eq, Nat.zero_lt_succ, xldc, kbm10, kbm9, kbm8, kbm7, kbm6, kbm5, kbm4, kbm3, kbm2, kb6, kb7, kb8, kb9, kb10, kb11, kb16, kb19, kb20, kb30, kb31, kb32, kb34, kb40, kb64, kb100, kb127, kim1, ki0, ki1, ki2, ki3, ki4, ki5, ks128, ks400, ks999, ks1000, ks4010])
            refine ok_cm (vs := [_, _]) rfl rfl rfl rfl (Nat.le_of_ble_eq_true rfl) (Nat.le_of_ble_eq_true rfl) (by show xcl0 2 2 _ _ = true; simp [xcl0, hp310]) (by decide) hW (sp14 hW hI hp310 hp312) ?_
            rintro _ h315 (rfl | rfl) k316 al317
            · dsimp only [Option.toList, List.cons_append, List.nil_append, Nat.reduceAdd]
              have s319 := al317 rfl
              try dsimp only at s319
              have hW := k316.1
              have hI := hI.kp k316 (by decide)
              obtain ⟨f320, hp321⟩ := k316.2.1.cls hp310
              have hp323 := k316.2.1.objn hp312 2 rfl (by decide)
              obtain ⟨k324, ht325⟩ := k316.2.1.arr ht314
              refine ok_st rfl rfl ?_
              simp only [okS_some, xst, xp0, xp1, xp2, xp3, xp4, xp5, xload, xstore, xget_0, xget_s, xs_0, xs_1n, xs_1i, xs_1r, xs_1u, xs_1l, xs_s, xt_0, xt_1n, xt_1i, xt_1r, xt_1u, xt_1l, xt_s, xisref, xq0, Value.category, xcat, List.map_nil, List.map_cons, List.sum_nil, List.sum_cons, List.length_cons, List.length_nil, List.getElem?_cons_zero, List.getElem?_cons_succ, xmap_s, if_true, and_self, Nat.reduceAdd, Nat.reduceLT, Nat.reduceLeDiff, Nat.reduceEqDiff, Nat.lt_add_one, Nat.zero_le, Nat.le_refl, Nat.le_zero_eq, Nat.zero_lt_succ, xldc, kbm10, kbm9, kbm8, kbm7, kbm6, kbm5, kbm4, kbm3, kbm2, kb6, kb7, kb8, kb9, kb10, kb11, kb16, kb19, kb20, kb30, kb31, kb32, kb34, kb40, kb64, kb100, kb127, kim1, ki0, ki1, ki2, ki3, ki4, ki5, ks128, ks400, ks999, ks1000, ks4010]
              refine ok_bf rfl ?_
              refine ok_st rfl rfl ?_
              simp only [okS_some, xst, xp0, xp1, xp2, xp3, xp4, xp5, xload, xstore, xget_0, xget_s, xs_0, xs_1n, xs_1i, xs_1r, xs_1u, xs_1l, xs_s, xt_0, xt_1n, xt_1i, xt_1r, xt_1u, xt_1l, xt_s, xisref, xq0, Value.category, xcat, List.map_nil, List.map_cons, List.sum_nil, List.sum_cons, List.length_cons, List.length_nil, List.getElem?_cons_zero, List.getElem?_cons_succ, xmap_s, if_true, and_self, Nat.reduceAdd, Nat.reduceLT, Nat.reduceLeDiff, Nat.reduceEqDiff, Nat.lt_add_one, Nat.zero_le, Nat.le_refl, Nat.le_zero_eq, Nat.zero_lt_succ, xldc, kbm10, kbm9, kbm8, kbm7, kbm6, kbm5, kbm4, kbm3, kbm2, kb6, kb7, kb8, kb9, kb10, kb11, kb16, kb19, kb20, kb30, kb31, kb32, kb34, kb40, kb64, kb100, kb127, kim1, ki0, ki1, ki2, ki3, ki4, ki5, ks128, ks400, ks999, ks1000, ks4010]
              refine ok_r1 rfl rfl rfl rfl ?_
              try dsimp only
              exact ⟨⟨_, rfl⟩, hI.up (by omega), by omega, by omega⟩
            · dsimp only [Option.toList, List.cons_append, List.nil_append, Nat.reduceAdd]
              have s326 := al317 rfl
              try dsimp only at s326
              have hW := k316.1
              have hI := hI.kp k316 (by decide)
              obtain ⟨f327, hp328⟩ := k316.2.1.cls hp310
              have hp330 := k316.2.1.objn hp312 2 rfl (by decide)
              obtain ⟨k331, ht332⟩ := k316.2.1.arr ht314
              refine ok_st rfl rfl ?_
              simp only [okS_some, xst, xp0, xp1, xp2, xp3, xp4, xp5, xload, xstore, xget_0, xget_s, xs_0, xs_1n, xs_1i, xs_1r, xs_1u, xs_1l, xs_s, xt_0, xt_1n, xt_1i, xt_1r, xt_1u, xt_1l, xt_s, xisref, xq0, Value.category, xcat, List.map_nil, List.map_cons, List.sum_nil, List.sum_cons, List.length_cons, List.length_nil, List.getElem?_cons_zero, List.getElem?_cons_succ, xmap_s, if_true, and_self, Nat.reduceAdd, Nat.reduceLT, Nat.reduceLeDiff, Nat.reduceEqDiff, Nat.lt_add_one, Nat.zero_le, Nat.le_refl, Nat.le_zero_eq, Nat.zero_lt_succ, xldc, kbm10, kbm9, kbm8, kbm7, kbm6, kbm5, kbm4, kbm3, kbm2, kb6, kb7, kb8, kb9, kb10, kb11, kb16, kb19, kb20, kb30, kb31, kb32, kb34, kb40, kb64, kb100, kb127, kim1, ki0, ki1, ki2, ki3, ki4, ki5, ks128, ks400, ks999, ks1000, ks4010]
              refine ok_bt rfl ?_
              iterate 2 (refine ok_st rfl rfl ?_; simp only [okS_some, xst, xp0, xp1, xp2, xp3, xp4, xp5, xload, xstore, xget_0, xget_s, xs_0, xs_1n, xs_1i, xs_1r, xs_1u, xs_1l, xs_s, xt_0, xt_1n, xt_1i, xt_1r, xt_1u, xt_1l, xt_s, xisref, xq0, Value.category, xcat, List.map_nil, List.map_cons, List.sum_nil, List.sum_cons, List.length_cons, List.length_nil, List.getElem?_cons_zero, List.getElem?_cons_succ, xmap_s, if_true, and_self, Nat.reduceAdd, Nat.reduceLT, Nat.reduceLeDiff, Nat.reduceEqDiff, Nat.lt_add_one, Nat.zero_le, Nat.le_refl, Nat.le_zero_eq, Nat.zero_lt_succ, xldc, kbm10, kbm9, kbm8, kbm7, kbm6, kbm5, kbm4, kbm3, kbm2, kb6, kb7, kb8, kb9, kb10, kb11, kb16, kb19, kb20, kb30, kb31, kb32, kb34, kb40, kb64, kb100, kb127, kim1, ki0, ki1, ki2, ki3, ki4, ki5, ks128, ks400, ks999, ks1000, ks4010])
              refine ok_cm (vs := [_, _]) rfl rfl rfl rfl (Nat.le_of_ble_eq_true rfl) (Nat.le_of_ble_eq_true rfl) (by show xcl0 2 5 _ _ = true; simp [xcl0, hp330]) (by decide) hW (sp29 (c' := c + 1) hW hI (by omega) (by omega) hp330 ht332 (by omega) (Or.inr ⟨_, _, rfl, hp328⟩)) ?_
              rintro _ h333 ⟨rfl, hI, t337, l338, k339, hp340, ht341, s342, s343, s344, oo345⟩ k334 al335
              dsimp only [Option.toList, List.nil_append, Nat.reduceAdd] at s342 s343 ⊢
              have hW := k334.1
              obtain ⟨f346, hp347⟩ := k334.2.1.cls hp328
              obtain ⟨f348, hp349⟩ := k334.2.1.cls hp330
              refine ok_st rfl rfl ?_
              simp only [okS_some, xst, xp0, xp1, xp2, xp3, xp4, xp5, xload, xstore, xget_0, xget_s, xs_0, xs_1n, xs_1i, xs_1r, xs_1u, xs_1l, xs_s, xt_0, xt_1n, xt_1i, xt_1r, xt_1u, xt_1l, xt_s, xisref, xq0, Value.category, xcat, List.map_nil, List.map_cons, List.sum_nil, List.sum_cons, List.length_cons, List.length_nil, List.getElem?_cons_zero, List.getElem?_cons_succ, xmap_s, if_true, and_self, Nat.reduceAdd, Nat.reduceLT, Nat.reduceLeDiff, Nat.reduceEqDiff, Nat.lt_add_one, Nat.zero_le, Nat.le_refl, Nat.le_zero_eq, Nat.zero_lt_succ, xldc, kbm10, kbm9, kbm8, kbm7, kbm6, kbm5, kbm4, kbm3, kbm2, kb6, kb7, kb8, kb9, kb10, kb11, kb16, kb19, kb20, kb30, kb31, kb32, kb34, kb40, kb64, kb100, kb127, kim1, ki0, ki1, ki2, ki3, ki4, ki5, ks128, ks400, ks999, ks1000, ks4010]
              refine ok_st rfl rfl ?_
              simp only [okS_some, xst, xp0, xp1, xp2, xp3, xp4, xp5, xload, xstore, xget_0, xget_s, xs_0, xs_1n, xs_1i, xs_1r, xs_1u, xs_1l, xs_s, xt_0, xt_1n, xt_1i, xt_1r, xt_1u, xt_1l, xt_s, xisref, xq0, Value.category, xcat, List.map_nil, List.map_cons, List.sum_nil, List.sum_cons, List.length_cons, List.length_nil, List.getElem?_cons_zero, List.getElem?_cons_succ, xmap_s, if_true, and_self, Nat.reduceAdd, Nat.reduceLT, Nat.reduceLeDiff, Nat.reduceEqDiff, Nat.lt_add_one, Nat.zero_le, Nat.le_refl, Nat.le_zero_eq, Nat.zero_lt_succ, xldc, kbm10, kbm9, kbm8, kbm7, kbm6, kbm5, kbm4, kbm3, kbm2, kb6, kb7, kb8, kb9, kb10, kb11, kb16, kb19, kb20, kb30, kb31, kb32, kb34, kb40, kb64, kb100, kb127, kim1, ki0, ki1, ki2, ki3, ki4, ki5, ks128, ks400, ks999, ks1000, ks4010, hI.1]
              iterate 2 (refine ok_st rfl rfl ?_; simp only [okS_some, xst, xp0, xp1, xp2, xp3, xp4, xp5, xload, xstore, xget_0, xget_s, xs_0, xs_1n, xs_1i, xs_1r, xs_1u, xs_1l, xs_s, xt_0, xt_1n, xt_1i, xt_1r, xt_1u, xt_1l, xt_s, xisref, xq0, Value.category, xcat, List.map_nil, List.map_cons, List.sum_nil, List.sum_cons, List.length_cons, List.length_nil, List.getElem?_cons_zero, List.getElem?_cons_succ, xmap_s, if_true, and_self, Nat.reduceAdd, Nat.reduceLT, Nat.reduceLeDiff, Nat.reduceEqDiff, Nat.lt_add_one, Nat.zero_le, Nat.le_refl, Nat.le_zero_eq, Nat.zero_lt_succ, xldc, kbm10, kbm9, kbm8, kbm7, kbm6, kbm5, kbm4, kbm3, kbm2, kb6, kb7, kb8, kb9, kb10, kb11, kb16, kb19, kb20, kb30, kb31, kb32, kb34, kb40, kb64, kb100, kb127, kim1, ki0, ki1, ki2, ki3, ki4, ki5, ks128, ks400, ks999, ks1000, ks4010])
              obtain ⟨n350, t351, l352, k353, rfl, ht354, b355, b356, b357, b358, b359⟩ := hI.2.2.2.1 _ _ hp349
              refine ok_st rfl rfl ?_
              simp only [okS_some, xst, xp0, xp1, xp2, xp3, xp4, xp5, xload, xstore, xget_0, xget_s, xs_0, xs_1n, xs_1i, xs_1r, xs_1u, xs_1l, xs_s, xt_0, xt_1n, xt_1i, xt_1r, xt_1u, xt_1l, xt_s, xisref, xq0, Value.category, xcat, List.map_nil, List.map_cons, List.sum_nil, List.sum_cons, List.length_cons, List.length_nil, List.getElem?_cons_zero, List.getElem?_cons_succ, xmap_s, if_true, and_self, Nat.reduceAdd, Nat.reduceLT, Nat.reduceLeDiff, Nat.reduceEqDiff, Nat.lt_add_one, Nat.zero_le, Nat.le_refl, Nat.le_zero_eq, Nat.zero_lt_succ, xldc, kbm10, kbm9, kbm8, kbm7, kbm6, kbm5, kbm4, kbm3, kbm2, kb6, kb7, kb8, kb9, kb10, kb11, kb16, kb19, kb20, kb30, kb31, kb32, kb34, kb40, kb64, kb100, kb127, kim1, ki0, ki1, ki2, ki3, ki4, ki5, ks128, ks400, ks999, ks1000, ks4010, hp349]
              obtain ⟨a361, a362, a363, a364, a365, a366, a367, a368, hj360⟩ := sh3 hW hI.2.2.1
              refine ok_cm (vs := [_, _, _]) rfl rfl rfl rfl (Nat.le_of_ble_eq_true rfl) (Nat.le_of_ble_eq_true rfl) (by show xcl0 2 3 _ _ = true; simp [xcl0, hj360]) (by decide) hW (sp23 hW hI hp349) ?_
              rintro _ h369 ⟨x373, rfl⟩ k370 al371
              have s374 := al371 rfl
              try dsimp only at s374
              have hW := k370.1
              have hI := hI.kp k370 (by decide)
              obtain ⟨f375, hp376⟩ := k370.2.1.cls hp347
              have hp378 := k370.2.1.objn hp349 2 rfl (by decide)
              obtain ⟨k379, ht380⟩ := k370.2.1.arr ht354
              dsimp only [Option.toList, List.cons_append, List.nil_append, Nat.reduceAdd]
              iterate 3 (refine ok_st rfl rfl ?_; simp only [okS_some, xst, xp0, xp1, xp2, xp3, xp4, xp5, xload, xstore, xget_0, xget_s, xs_0, xs_1n, xs_1i, xs_1r, xs_1u, xs_1l, xs_s, xt_0, xt_1n, xt_1i, xt_1r, xt_1u, xt_1l, xt_s, xisref, xq0, Value.category, xcat, List.map_nil, List.map_cons, List.sum_nil, List.sum_cons, List.length_cons, List.length_nil, List.getElem?_cons_zero, List.getElem?_cons_succ, xmap_s, if_true, and_self, Nat.reduceAdd, Nat.reduceLT, Nat.reduceLeDiff, Nat.reduceEqDiff, Nat.lt_add_one, Nat.zero_le, Nat.le_refl, Nat.le_zero_eq, Nat.zero_lt_succ, xldc, kbm10, kbm9, kbm8, kbm7, kbm6, kbm5, kbm4, kbm3, kbm2, kb6, kb7, kb8, kb9, kb10, kb11, kb16, kb19, kb20, kb30, kb31, kb32, kb34, kb40, kb64, kb100, kb127, kim1, ki0, ki1, ki2, ki3, ki4, ki5, ks128, ks400, ks999, ks1000, ks4010])
              refine ok_if (fun c381 => ?_) (fun c381 => ?_)
              · simp only [xcnd, decide_eq_true_eq, decide_eq_false_iff_not, Bool.not_eq_true', Bool.not_eq_false'] at c381
                refine ok_st rfl rfl ?_
                simp only [okS_some, xst, xp0, xp1, xp2, xp3, xp4, xp5, xload, xstore, xget_0, xget_s, xs_0, xs_1n, xs_1i, xs_1r, xs_1u, xs_1l, xs_s, xt_0, xt_1n, xt_1i, xt_1r, xt_1u, xt_1l, xt_s, xisref, xq0, Value.category, xcat, List.map_nil, List.map_cons, List.sum_nil, List.sum_cons, List.length_cons, List.length_nil, List.getElem?_cons_zero, List.getElem?_cons_succ, xmap_s, if_true, and_self, Nat.reduceAdd, Nat.reduceLT, Nat.reduceLeDiff, Nat.reduceEqDiff, Nat.lt_add_one, Nat.zero_le, Nat.le_refl, Nat.le_zero_eq, Nat.zero_lt_succ, xldc, kbm10, kbm9, kbm8, kbm7, kbm6, kbm5, kbm4, kbm3, kbm2, kb6, kb7, kb8, kb9, kb10, kb11, kb16, kb19, kb20, kb30, kb31, kb32, kb34, kb40, kb64, kb100, kb127, kim1, ki0, ki1, ki2, ki3, ki4, ki5, ks128, ks400, ks999, ks1000, ks4010]
                refine ok_st rfl rfl ?_
                simp only [okS_some, xst, xp0, xp1, xp2, xp3, xp4, xp5, xload, xstore, xget_0, xget_s, xs_0, xs_1n, xs_1i, xs_1r, xs_1u, xs_1l, xs_s, xt_0, xt_1n, xt_1i, xt_1r, xt_1u, xt_1l, xt_s, xisref, xq0, Value.category, xcat, List.map_nil, List.map_cons, List.sum_nil, List.sum_cons, List.length_cons, List.length_nil, List.getElem?_cons_zero, List.getElem?_cons_succ, xmap_s, if_true, and_self, Nat.reduceAdd, Nat.reduceLT, Nat.reduceLeDiff, Nat.reduceEqDiff, Nat.lt_add_one, Nat.zero_le, Nat.le_refl, Nat.le_zero_eq, Nat.zero_lt_succ, xldc, kbm10, kbm9, kbm8, kbm7, kbm6, kbm5, kbm4, kbm3, kbm2, kb6, kb7, kb8, kb9, kb10, kb11, kb16, kb19, kb20, kb30, kb31, kb32, kb34, kb40, kb64, kb100, kb127, kim1, ki0, ki1, ki2, ki3, ki4, ki5, ks128, ks400, ks999, ks1000, ks4010, hI.1]
                refine ok_st rfl rfl ?_
                simp only [okS_some, xst, xp0, xp1, xp2, xp3, xp4, xp5, xload, xstore, xget_0, xget_s, xs_0, xs_1n, xs_1i, xs_1r, xs_1u, xs_1l, xs_s, xt_0, xt_1n, xt_1i, xt_1r, xt_1u, xt_1l, xt_s, xisref, xq0, Value.category, xcat, List.map_nil, List.map_cons, List.sum_nil, List.sum_cons, List.length_cons, List.length_nil, List.getElem?_cons_zero, List.getElem?_cons_succ, xmap_s, if_true, and_self, Nat.reduceAdd, Nat.reduceLT, Nat.reduceLeDiff, Nat.reduceEqDiff, Nat.lt_add_one, Nat.zero_le, Nat.le_refl, Nat.le_zero_eq, Nat.zero_lt_succ, xldc, kbm10, kbm9, kbm8, kbm7, kbm6, kbm5, kbm4, kbm3, kbm2, kb6, kb7, kb8, kb9, kb10, kb11, kb16, kb19, kb20, kb30, kb31, kb32, kb34, kb40, kb64, kb100, kb127, kim1, ki0, ki1, ki2, ki3, ki4, ki5, ks128, ks400, ks999, ks1000, ks4010]
                obtain ⟨f382, hp383⟩ := hI.2.2.1.1
                obtain ⟨f384, hp385⟩ := hI.2.2.1.1
                obtain ⟨n386, t387, l388, k389, rfl, ht390, b391, b392, b393, b394, b395⟩ := hI.2.2.2.1 _ _ hp385
                refine ok_cm (vs := [_, _]) rfl rfl rfl rfl (Nat.le_of_ble_eq_true rfl) (Nat.le_of_ble_eq_true rfl) (by show xcl0 2 5 _ _ = true; simp [xcl0, hp383]) (by decide) hW (sp29 (c' := c + 2) hW hI (by omega) (by omega) hp385 ht390 (by omega) (Or.inr ⟨_, _, rfl, hp376⟩)) ?_
                rintro _ h396 ⟨rfl, hI, t400, l401, k402, hp403, ht404, s405, s406, s407, oo408⟩ k397 al398
                dsimp only [Option.toList, List.nil_append, Nat.reduceAdd] at s405 s406 ⊢
                have hW := k397.1
                obtain ⟨f409, hp410⟩ := k397.2.1.cls hp376
                obtain ⟨f411, hp412⟩ := k397.2.1.cls hp378
                refine ok_st rfl rfl ?_
                simp only [okS_some, xst, xp0, xp1, xp2, xp3, xp4, xp5, xload, xstore, xget_0, xget_s, xs_0, xs_1n, xs_1i, xs_1r, xs_1u, xs_1l, xs_s, xt_0, xt_1n, xt_1i, xt_1r, xt_1u, xt_1l, xt_s, xisref, xq0, Value.category, xcat, List.map_nil, List.map_cons, List.sum_nil, List.sum_cons, List.length_cons, List.length_nil, List.getElem?_cons_zero, List.getElem?_cons_succ, xmap_s, if_true, and_self, Nat.reduceAdd, Nat.reduceLT, Nat.reduceLeDiff, Nat.reduceEqDiff, Nat.lt_add_one, Nat.zero_le, Nat.le_refl, Nat.le_zero_eq, Nat.zero_lt_succ, xldc, kbm10, kbm9, kbm8, kbm7, kbm6, kbm5, kbm4, kbm3, kbm2, kb6, kb7, kb8, kb9, kb10, kb11, kb16, kb19, kb20, kb30, kb31, kb32, kb34, kb40, kb64, kb100, kb127, kim1, ki0, ki1, ki2, ki3, ki4, ki5, ks128, ks400, ks999, ks1000, ks4010]
                obtain ⟨a416, a417, a418, a419, a420, a421, a422, a423, a424, a425, a426, a427, v413, rfl, hb415, hv414⟩ := sh2 hW hp410
                refine ok_st rfl rfl ?_
                simp only [okS_some, xst, xp0, xp1, xp2, xp3, xp4, xp5, xload, xstore, xget_0, xget_s, xs_0, xs_1n, xs_1i, xs_1r, xs_1u, xs_1l, xs_s, xt_0, xt_1n, xt_1i, xt_1r, xt_1u, xt_1l, xt_s, xisref, xq0, Value.category, xcat, List.map_nil, List.map_cons, List.sum_nil, List.sum_cons, List.length_cons, List.length_nil, List.getElem?_cons_zero, List.getElem?_cons_succ, xmap_s, if_true, and_self, Nat.reduceAdd, Nat.reduceLT, Nat.reduceLeDiff, Nat.reduceEqDiff, Nat.lt_add_one, Nat.zero_le, Nat.le_refl, Nat.le_zero_eq, Nat.zero_lt_succ, xldc, kbm10, kbm9, kbm8, kbm7, kbm6, kbm5, kbm4, kbm3, kbm2, kb6, kb7, kb8, kb9, kb10, kb11, kb16, kb19, kb20, kb30, kb31, kb32, kb34, kb40, kb64, kb100, kb127, kim1, ki0, ki1, ki2, ki3, ki4, ki5, ks128, ks400, ks999, ks1000, ks4010, hp410]
                refine ok_r1 rfl rfl rfl rfl ?_
                try dsimp only
                exact ⟨⟨_, rfl⟩, hI.up (by omega), by omega, by omega⟩
              · simp only [xcnd, decide_eq_true_eq, decide_eq_false_iff_not, Bool.not_eq_true', Bool.not_eq_false'] at c381
                refine ok_st rfl rfl ?_
                simp only [okS_some, xst, xp0, xp1, xp2, xp3, xp4, xp5, xload, xstore, xget_0, xget_s, xs_0, xs_1n, xs_1i, xs_1r, xs_1u, xs_1l, xs_s, xt_0, xt_1n, xt_1i, xt_1r, xt_1u, xt_1l, xt_s, xisref, xq0, Value.category, xcat, List.map_nil, List.map_cons, List.sum_nil, List.sum_cons, List.length_cons, List.length_nil, List.getElem?_cons_zero, List.getElem?_cons_succ, xmap_s, if_true, and_self, Nat.reduceAdd, Nat.reduceLT, Nat.reduceLeDiff, Nat.reduceEqDiff, Nat.lt_add_one, Nat.zero_le, Nat.le_refl, Nat.le_zero_eq, Nat.zero_lt_succ, xldc, kbm10, kbm9, kbm8, kbm7, kbm6, kbm5, kbm4, kbm3, kbm2, kb6, kb7, kb8, kb9, kb10, kb11, kb16, kb19, kb20, kb30, kb31, kb32, kb34, kb40, kb64, kb100, kb127, kim1, ki0, ki1, ki2, ki3, ki4, ki5, ks128, ks400, ks999, ks1000, ks4010]
                refine ok_cm (vs := [_]) rfl rfl rfl rfl (Nat.le_of_ble_eq_true rfl) (Nat.le_of_ble_eq_true rfl) (by show xcl0 2 5 _ _ = true; simp [xcl0, hp378]) (by decide) hW (sp30 hW hI hp378) ?_
                rintro _ h428 ⟨rfl, hI⟩ k429 al430
                have s432 := al430 rfl
                try dsimp only at s432
                dsimp only [Option.toList, List.nil_append, Nat.reduceAdd]
                have hW := k429.1
                obtain ⟨f433, hp434⟩ := k429.2.1.cls hp376
                obtain ⟨f435, hp436⟩ := k429.2.1.cls hp378
                refine ok_st rfl rfl ?_
                simp only [okS_some, xst, xp0, xp1, xp2, xp3, xp4, xp5, xload, xstore, xget_0, xget_s, xs_0, xs_1n, xs_1i, xs_1r, xs_1u, xs_1l, xs_s, xt_0, xt_1n, xt_1i, xt_1r, xt_1u, xt_1l, xt_s, xisref, xq0, Value.category, xcat, List.map_nil, List.map_cons, List.sum_nil, List.sum_cons, List.length_cons, List.length_nil, List.getElem?_cons_zero, List.getElem?_cons_succ, xmap_s, if_true, and_self, Nat.reduceAdd, Nat.reduceLT, Nat.reduceLeDiff, Nat.reduceEqDiff, Nat.lt_add_one, Nat.zero_le, Nat.le_refl, Nat.le_zero_eq, Nat.zero_lt_succ, xldc, kbm10, kbm9, kbm8, kbm7, kbm6, kbm5, kbm4, kbm3, kbm2, kb6, kb7, kb8, kb9, kb10, kb11, kb16, kb19, kb20, kb30, kb31, kb32, kb34, kb40, kb64, kb100, kb127, kim1, ki0, ki1, ki2, ki3, ki4, ki5, ks128, ks400, ks999, ks1000, ks4010]
                refine ok_r1 rfl rfl rfl rfl ?_
                try dsimp only
                exact ⟨⟨_, rfl⟩, hI.up (by omega), by omega, by omega⟩
          · simp only [xcnd, decide_eq_true_eq, decide_eq_false_iff_not, Bool.not_eq_true', Bool.not_eq_false'] at c262
            refine ok_st rfl rfl ?_
            simp only [okS_some, xst, xp0, xp1, xp2, xp3, xp4, xp5, xload, xstore, xget_0, xget_s, xs_0, xs_1n, xs_1i, xs_1r, xs_1u, xs_1l, xs_s, xt_0, xt_1n, xt_1i, xt_1r, xt_1u, xt_1l, xt_s, xisref, xq0, Value.category, xcat, List.map_nil, List.map_cons, List.sum_nil, List.sum_cons, List.length_cons, List.length_nil, List.getElem?_cons_zero, List.getElem?_cons_succ, xmap_s, if_true, and_self, Nat.reduceAdd, Nat.reduceLT, Nat.reduceLeDiff, Nat.reduceEqDiff, Nat.lt_add_one, Nat.zero_le, Nat.le_refl, Nat.le_zero_eq, Nat.zero_lt_succ, xldc, kbm10, kbm9, kbm8, kbm7, kbm6, kbm5, kbm4, kbm3, kbm2, kb6, kb7, kb8, kb9, kb10, kb11, kb16, kb19, kb20, kb30, kb31, kb32, kb34, kb40, kb64, kb100, kb127, kim1, ki0, ki1, ki2, ki3, ki4, ki5, ks128, ks400, ks999, ks1000, ks4010]
            refine ok_r1 rfl rfl rfl rfl ?_
            try dsimp only
            exact ⟨⟨_, rfl⟩, hI.up (by omega), by omega, by omega⟩
        · simp only [xcnd, decide_eq_true_eq, decide_eq_false_iff_not, Bool.not_eq_true', Bool.not_eq_false'] at c249
          refine ok_st rfl rfl ?_
          simp only [okS_some, xst, xp0, xp1, xp2, xp3, xp4, xp5, xload, xstore, xget_0, xget_s, xs_0, xs_1n, xs_1i, xs_1r, xs_1u, xs_1l, xs_s, xt_0, xt_1n, xt_1i, xt_1r, xt_1u, xt_1l, xt_s, xisref, xq0, Value.category, xcat, List.map_nil, List.map_cons, List.sum_nil, List.sum_cons, List.length_cons, List.length_nil, List.getElem?_cons_zero, List.getElem?_cons_succ, xmap_s, if_true, and_self, Nat.reduceAdd, Nat.reduceLT, Nat.reduceLeDiff, Nat.reduceEqDiff, Nat.lt_add_one, Nat.zero_le, Nat.le_refl, Nat.le_zero_eq, Nat.zero_lt_succ, xldc, kbm10, kbm9, kbm8, kbm7, kbm6, kbm5, kbm4, kbm3, kbm2, kb6, kb7, kb8, kb9, kb10, kb11, kb16, kb19, kb20, kb30, kb31, kb32, kb34, kb40, kb64, kb100, kb127, kim1, ki0, ki1, ki2, ki3, ki4, ki5, ks128, ks400, ks999, ks1000, ks4010]
          refine ok_r1 rfl rfl rfl rfl ?_
          try dsimp only
          exact ⟨⟨_, rfl⟩, hI.up (by omega), by omega, by omega⟩
