set_option maxRecDepth 20000 in
set_option maxHeartbeats 8000000 in
theorem law_loop {X : Nat × (Nat → Int32)} (hX : X.1 ≤ 4096) : ∀ (k : Nat) {h : xH} {i : Nat}, xWF h → lI i h → 8 * i ≤ 4096 → X.1 - 8 * i < k → ok X cd131 (18, [some (.retAddr 0), some (.ref 0), some (.ref 57), some (.int (nI (8 * i)))], []) h lQ := by
  intro k
  induction k with
  | zero =>
    intro h i hW hl hi hk0
    exact absurd hk0 (by omega)
  | succ k ih =>
    intro h i hW hl hi hk0
    obtain ⟨td, vc, dc, S, A, B, M, V, D, hI, hm, hj, hS2, z01, z02⟩ := hl
    iterate 2 (refine ok_st rfl rfl ?_; simp only [okS_some, xst, xp0, xp1, xp2, xp3, xp4, xp5, xload, xstore, xget_0, xget_s, xs_0, xs_1n, xs_1i, xs_1r, xs_1u, xs_1l, xs_s, xt_0, xt_1n, xt_1i, xt_1r, xt_1u, xt_1l, xt_s, xisref, xq0, Value.category, xcat, List.map_nil, List.map_cons, List.sum_nil, List.sum_cons, List.length_cons, List.length_nil, List.getElem?_cons_zero, List.getElem?_cons_succ, xmap_s, if_true, and_self, Nat.reduceAdd, Nat.reduceLT, Nat.reduceLeDiff, Nat.reduceEqDiff, Nat.lt_add_one, Nat.zero_le, Nat.le_refl, Nat.le_zero_eq, Nat.zero_lt_succ, xldc, kbm10, kbm9, kbm8, kbm7, kbm6, kbm5, kbm4, kbm3, kbm2, kb6, kb7, kb8, kb9, kb10, kb11, kb16, kb19, kb20, kb30, kb31, kb32, kb34, kb40, kb64, kb100, kb127, kim1, ki0, ki1, ki2, ki3, ki4, ki5, ks128, ks400, ks999, ks1000, ks4010])
    refine ok_st rfl rfl ?_
    simp only [okS_some, xst, xq3, xmap_s, Nat.reduceAdd]
    rw [show Int32.ofNat X.1 = nI X.1 from rfl]
    iterate 2 (refine ok_st rfl rfl ?_; simp only [okS_some, xst, xp0, xp1, xp2, xp3, xp4, xp5, xload, xstore, xget_0, xget_s, xs_0, xs_1n, xs_1i, xs_1r, xs_1u, xs_1l, xs_s, xt_0, xt_1n, xt_1i, xt_1r, xt_1u, xt_1l, xt_s, xisref, xq0, Value.category, xcat, List.map_nil, List.map_cons, List.sum_nil, List.sum_cons, List.length_cons, List.length_nil, List.getElem?_cons_zero, List.getElem?_cons_succ, xmap_s, if_true, and_self, Nat.reduceAdd, Nat.reduceLT, Nat.reduceLeDiff, Nat.reduceEqDiff, Nat.lt_add_one, Nat.zero_le, Nat.le_refl, Nat.le_zero_eq, Nat.zero_lt_succ, xldc, kbm10, kbm9, kbm8, kbm7, kbm6, kbm5, kbm4, kbm3, kbm2, kb6, kb7, kb8, kb9, kb10, kb11, kb16, kb19, kb20, kb30, kb31, kb32, kb34, kb40, kb64, kb100, kb127, kim1, ki0, ki1, ki2, ki3, ki4, ki5, ks128, ks400, ks999, ks1000, ks4010])
    try simp (disch := omega) only [nx10, nx4, nx32, nxa0, nxa1, nxa2, nxa3, nxa4, nxa5, nxa6, nxa7, nxa8, nxa9, nxa10, nxs1, nxs10, nxss, nI_add, nI_clamp, mnar0, mnar1, Nat.add_sub_cancel]
    refine ok_st rfl rfl ?_
    simp only [okS_some, xst, xp0, xp1, xp2, xp3, xp4, xp5, xload, xstore, xget_0, xget_s, xs_0, xs_1n, xs_1i, xs_1r, xs_1u, xs_1l, xs_s, xt_0, xt_1n, xt_1i, xt_1r, xt_1u, xt_1l, xt_s, xisref, xq0, Value.category, xcat, List.map_nil, List.map_cons, List.sum_nil, List.sum_cons, List.length_cons, List.length_nil, List.getElem?_cons_zero, List.getElem?_cons_succ, xmap_s, if_true, and_self, Nat.reduceAdd, Nat.reduceLT, Nat.reduceLeDiff, Nat.reduceEqDiff, Nat.lt_add_one, Nat.zero_le, Nat.le_refl, Nat.le_zero_eq, Nat.zero_lt_succ, xldc, kbm10, kbm9, kbm8, kbm7, kbm6, kbm5, kbm4, kbm3, kbm2, kb6, kb7, kb8, kb9, kb10, kb11, kb16, kb19, kb20, kb30, kb31, kb32, kb34, kb40, kb64, kb100, kb127, kim1, ki0, ki1, ki2, ki3, ki4, ki5, ks128, ks400, ks999, ks1000, ks4010]
    refine ok_if (fun c101 => ?_) (fun c101 => ?_)
    · simp only [xcnd, decide_eq_true_eq, decide_eq_false_iff_not, Bool.not_eq_true', Bool.not_eq_false'] at c101
      try simp (disch := omega) only [Int32.not_lt, Int32.not_le, nI_ltI, nI_leI, nI_eq, nk0e, nk1e, nk4e, nk10e, nk400e, nk0l, nk1l, nk0g, nk1g, nk0n, nk0p, lg_cmp_ge, lg_cmp_le, lg_cmp_gt, lg_cmp_lt, lg_cmp_eq, Int64.not_lt, Int64.not_le, Nat.not_lt, Nat.not_le] at c101
      refine ok_st rfl rfl ?_
      simp only [okS_some, xst, xp0, xp1, xp2, xp3, xp4, xp5, xload, xstore, xget_0, xget_s, xs_0, xs_1n, xs_1i, xs_1r, xs_1u, xs_1l, xs_s, xt_0, xt_1n, xt_1i, xt_1r, xt_1u, xt_1l, xt_s, xisref, xq0, Value.category, xcat, List.map_nil, List.map_cons, List.sum_nil, List.sum_cons, List.length_cons, List.length_nil, List.getElem?_cons_zero, List.getElem?_cons_succ, xmap_s, if_true, and_self, Nat.reduceAdd, Nat.reduceLT, Nat.reduceLeDiff, Nat.reduceEqDiff, Nat.lt_add_one, Nat.zero_le, Nat.le_refl, Nat.le_zero_eq, Nat.zero_lt_succ, xldc, kbm10, kbm9, kbm8, kbm7, kbm6, kbm5, kbm4, kbm3, kbm2, kb6, kb7, kb8, kb9, kb10, kb11, kb16, kb19, kb20, kb30, kb31, kb32, kb34, kb40, kb64, kb100, kb127, kim1, ki0, ki1, ki2, ki3, ki4, ki5, ks128, ks400, ks999, ks1000, ks4010]
      refine ok_r1 rfl rfl rfl rfl ?_
      exact ⟨rfl, by omega, by omega⟩
    · simp only [xcnd, decide_eq_true_eq, decide_eq_false_iff_not, Bool.not_eq_true', Bool.not_eq_false'] at c101
      try simp (disch := omega) only [Int32.not_lt, Int32.not_le, nI_ltI, nI_leI, nI_eq, nk0e, nk1e, nk4e, nk10e, nk400e, nk0l, nk1l, nk0g, nk1g, nk0n, nk0p, lg_cmp_ge, lg_cmp_le, lg_cmp_gt, lg_cmp_lt, lg_cmp_eq, Int64.not_lt, Int64.not_le, Nat.not_lt, Nat.not_le] at c101
      have hg := l_go hX hi c101
      iterate 2 (refine ok_st rfl rfl ?_; simp only [okS_some, xst, xp0, xp1, xp2, xp3, xp4, xp5, xload, xstore, xget_0, xget_s, xs_0, xs_1n, xs_1i, xs_1r, xs_1u, xs_1l, xs_s, xt_0, xt_1n, xt_1i, xt_1r, xt_1u, xt_1l, xt_s, xisref, xq0, Value.category, xcat, List.map_nil, List.map_cons, List.sum_nil, List.sum_cons, List.length_cons, List.length_nil, List.getElem?_cons_zero, List.getElem?_cons_succ, xmap_s, if_true, and_self, Nat.reduceAdd, Nat.reduceLT, Nat.reduceLeDiff, Nat.reduceEqDiff, Nat.lt_add_one, Nat.zero_le, Nat.le_refl, Nat.le_zero_eq, Nat.zero_lt_succ, xldc, kbm10, kbm9, kbm8, kbm7, kbm6, kbm5, kbm4, kbm3, kbm2, kb6, kb7, kb8, kb9, kb10, kb11, kb16, kb19, kb20, kb30, kb31, kb32, kb34, kb40, kb64, kb100, kb127, kim1, ki0, ki1, ki2, ki3, ki4, ki5, ks128, ks400, ks999, ks1000, ks4010])
      refine l_il rfl (nIn (by omega) (by omega)) ?_
      try dsimp only [Nat.reduceAdd]
      try simp (disch := omega) only [nx10, nx4, nx32, nxa0, nxa1, nxa2, nxa3, nxa4, nxa5, nxa6, nxa7, nxa8, nxa9, nxa10, nxs1, nxs10, nxss, nI_add, nI_clamp, mnar0, mnar1, Nat.add_sub_cancel]
      iterate 2 (refine ok_st rfl rfl ?_; simp only [okS_some, xst, xp0, xp1, xp2, xp3, xp4, xp5, xload, xstore, xget_0, xget_s, xs_0, xs_1n, xs_1i, xs_1r, xs_1u, xs_1l, xs_s, xt_0, xt_1n, xt_1i, xt_1r, xt_1u, xt_1l, xt_s, xisref, xq0, Value.category, xcat, List.map_nil, List.map_cons, List.sum_nil, List.sum_cons, List.length_cons, List.length_nil, List.getElem?_cons_zero, List.getElem?_cons_succ, xmap_s, if_true, and_self, Nat.reduceAdd, Nat.reduceLT, Nat.reduceLeDiff, Nat.reduceEqDiff, Nat.lt_add_one, Nat.zero_le, Nat.le_refl, Nat.le_zero_eq, Nat.zero_lt_succ, xldc, kbm10, kbm9, kbm8, kbm7, kbm6, kbm5, kbm4, kbm3, kbm2, kb6, kb7, kb8, kb9, kb10, kb11, kb16, kb19, kb20, kb30, kb31, kb32, kb34, kb40, kb64, kb100, kb127, kim1, ki0, ki1, ki2, ki3, ki4, ki5, ks128, ks400, ks999, ks1000, ks4010])
      try simp (disch := omega) only [nx10, nx4, nx32, nxa0, nxa1, nxa2, nxa3, nxa4, nxa5, nxa6, nxa7, nxa8, nxa9, nxa10, nxs1, nxs10, nxss, nI_add, nI_clamp, mnar0, mnar1, Nat.add_sub_cancel]
      refine ok_st rfl rfl ?_
      simp only [xst, xp6, xmap_s, okS_some]
      refine ok_sw ?_
      intro t ht
      have ht : t = 140 ∨ t = 163 ∨ t = 250 ∨ t = 337 ∨ t = 380 ∨ t = 413 ∨ t = 446 ∨ t = 469 ∨ t = 492 ∨ t = 545 ∨ t = 588 ∨ t = 621 ∨ t = 654 ∨ t = 687 ∨ t = 720 ∨ t = 763 ∨ t = 776 ∨ t = 819 ∨ t = 842 ∨ t = 865 ∨ t = 898 ∨ t = 973 ∨ t = 996 ∨ t = 1039 := by simpa using ht
      rcases ht with rfl | rfl | rfl | rfl | rfl | rfl | rfl | rfl | rfl | rfl | rfl | rfl | rfl | rfl | rfl | rfl | rfl | rfl | rfl | rfl | rfl | rfl | rfl | rfl
      · skip
        iterate 5 (refine ok_st rfl rfl ?_; simp only [okS_some, xst, xp0, xp1, xp2, xp3, xp4, xp5, xload, xstore, xget_0, xget_s, xs_0, xs_1n, xs_1i, xs_1r, xs_1u, xs_1l, xs_s, xt_0, xt_1n, xt_1i, xt_1r, xt_1u, xt_1l, xt_s, xisref, xq0, Value.category, xcat, List.map_nil, List.map_cons, List.sum_nil, List.sum_cons, List.length_cons, List.length_nil, List.getElem?_cons_zero, List.getElem?_cons_succ, xmap_s, if_true, and_self, Nat.reduceAdd, Nat.reduceLT, Nat.reduceLeDiff, Nat.reduceEqDiff, Nat.lt_add_one, Nat.zero_le, Nat.le_refl, Nat.le_zero_eq, Nat.zero_lt_succ, xldc, kbm10, kbm9, kbm8, kbm7, kbm6, kbm5, kbm4, kbm3, kbm2, kb6, kb7, kb8, kb9, kb10, kb11, kb16, kb19, kb20, kb30, kb31, kb32, kb34, kb40, kb64, kb100, kb127, kim1, ki0, ki1, ki2, ki3, ki4, ki5, ks128, ks400, ks999, ks1000, ks4010])
        try simp (disch := omega) only [nx10, nx4, nx32, nxa0, nxa1, nxa2, nxa3, nxa4, nxa5, nxa6, nxa7, nxa8, nxa9, nxa10, nxs1, nxs10, nxss, nI_add, nI_clamp, mnar0, mnar1, Nat.add_sub_cancel]
        refine l_il rfl (nIn (by omega) (by omega)) ?_
        try dsimp only [Nat.reduceAdd]
        try simp (disch := omega) only [nx10, nx4, nx32, nxa0, nxa1, nxa2, nxa3, nxa4, nxa5, nxa6, nxa7, nxa8, nxa9, nxa10, nxs1, nxs10, nxss, nI_add, nI_clamp, mnar0, mnar1, Nat.add_sub_cancel]
        refine ok_cm (vs := [_, _]) rfl rfl rfl rfl (Nat.le_of_ble_eq_true rfl) (Nat.le_of_ble_eq_true rfl) (by show xcl0 2 8 _ _ = true; simp [xcl0, hI.1]) (by decide) hW (sp45 hW hI) ?_
        rintro _ h102 ⟨⟨rfl, d1, hI⟩ | ⟨rfl, d1, d2, hI⟩, z1, z2⟩ k103 al104
        · dsimp only [Option.toList, List.cons_append, List.nil_append, Nat.reduceAdd]
          have hW := k103.1
          have z106 := al104 rfl
          try dsimp only at z106
          obtain ⟨B, hm⟩ := hm.kq k103 (by decide)
          iterate 5 (refine ok_st rfl rfl ?_; simp only [okS_some, xst, xp0, xp1, xp2, xp3, xp4, xp5, xload, xstore, xget_0, xget_s, xs_0, xs_1n, xs_1i, xs_1r, xs_1u, xs_1l, xs_s, xt_0, xt_1n, xt_1i, xt_1r, xt_1u, xt_1l, xt_s, xisref, xq0, Value.category, xcat, List.map_nil, List.map_cons, List.sum_nil, List.sum_cons, List.length_cons, List.length_nil, List.getElem?_cons_zero, List.getElem?_cons_succ, xmap_s, if_true, and_self, Nat.reduceAdd, Nat.reduceLT, Nat.reduceLeDiff, Nat.reduceEqDiff, Nat.lt_add_one, Nat.zero_le, Nat.le_refl, Nat.le_zero_eq, Nat.zero_lt_succ, xldc, kbm10, kbm9, kbm8, kbm7, kbm6, kbm5, kbm4, kbm3, kbm2, kb6, kb7, kb8, kb9, kb10, kb11, kb16, kb19, kb20, kb30, kb31, kb32, kb34, kb40, kb64, kb100, kb127, kim1, ki0, ki1, ki2, ki3, ki4, ki5, ks128, ks400, ks999, ks1000, ks4010])
          try simp (disch := omega) only [nx10, nx4, nx32, nxa0, nxa1, nxa2, nxa3, nxa4, nxa5, nxa6, nxa7, nxa8, nxa9, nxa10, nxs1, nxs10, nxss, nI_add, nI_clamp, mnar0, mnar1, Nat.add_sub_cancel]
          refine l_il rfl (nIn (by omega) (by omega)) ?_
          try dsimp only [Nat.reduceAdd]
          try simp (disch := omega) only [nx10, nx4, nx32, nxa0, nxa1, nxa2, nxa3, nxa4, nxa5, nxa6, nxa7, nxa8, nxa9, nxa10, nxs1, nxs10, nxss, nI_add, nI_clamp, mnar0, mnar1, Nat.add_sub_cancel]
          refine ok_cm (vs := [_, _]) rfl rfl rfl rfl (Nat.le_of_ble_eq_true rfl) (Nat.le_of_ble_eq_true rfl) (by show xcl0 2 9 _ _ = true; simp [xcl0, hm.1]) (by decide) hW (sp88 hW hm) ?_
          rintro _ h107 (⟨rfl, m1, hm⟩ | ⟨rfl, m1, m2, hm⟩) k108 al109
          · dsimp only [Option.toList, List.cons_append, List.nil_append, Nat.reduceAdd]
            have hW := k108.1
            have z111 := al109 rfl
            try dsimp only at z111
            have hI := hI.kp k108 (by decide)
            refine ok_st rfl rfl ?_
            simp only [okS_some, xst, xp0, xp1, xp2, xp3, xp4, xp5, xload, xstore, xget_0, xget_s, xs_0, xs_1n, xs_1i, xs_1r, xs_1u, xs_1l, xs_s, xt_0, xt_1n, xt_1i, xt_1r, xt_1u, xt_1l, xt_s, xisref, xq0, Value.category, xcat, List.map_nil, List.map_cons, List.sum_nil, List.sum_cons, List.length_cons, List.length_nil, List.getElem?_cons_zero, List.getElem?_cons_succ, xmap_s, if_true, and_self, Nat.reduceAdd, Nat.reduceLT, Nat.reduceLeDiff, Nat.reduceEqDiff, Nat.lt_add_one, Nat.zero_le, Nat.le_refl, Nat.le_zero_eq, Nat.zero_lt_succ, xldc, kbm10, kbm9, kbm8, kbm7, kbm6, kbm5, kbm4, kbm3, kbm2, kb6, kb7, kb8, kb9, kb10, kb11, kb16, kb19, kb20, kb30, kb31, kb32, kb34, kb40, kb64, kb100, kb127, kim1, ki0, ki1, ki2, ki3, ki4, ki5, ks128, ks400, ks999, ks1000, ks4010]
            refine ok_bt rfl ?_
            refine ok_st rfl rfl ?_
            simp only [okS_some, xst, xp0, xp1, xp2, xp3, xp4, xp5, xload, xstore, xget_0, xget_s, xs_0, xs_1n, xs_1i, xs_1r, xs_1u, xs_1l, xs_s, xt_0, xt_1n, xt_1i, xt_1r, xt_1u, xt_1l, xt_s, xisref, xq0, Value.category, xcat, List.map_nil, List.map_cons, List.sum_nil, List.sum_cons, List.length_cons, List.length_nil, List.getElem?_cons_zero, List.getElem?_cons_succ, xmap_s, if_true, and_self, Nat.reduceAdd, Nat.reduceLT, Nat.reduceLeDiff, Nat.reduceEqDiff, Nat.lt_add_one, Nat.zero_le, Nat.le_refl, Nat.le_zero_eq, Nat.zero_lt_succ, xldc, kbm10, kbm9, kbm8, kbm7, kbm6, kbm5, kbm4, kbm3, kbm2, kb6, kb7, kb8, kb9, kb10, kb11, kb16, kb19, kb20, kb30, kb31, kb32, kb34, kb40, kb64, kb100, kb127, kim1, ki0, ki1, ki2, ki3, ki4, ki5, ks128, ks400, ks999, ks1000, ks4010]
            try simp (disch := omega) only [nx10, nx4, nx32, nxa0, nxa1, nxa2, nxa3, nxa4, nxa5, nxa6, nxa7, nxa8, nxa9, nxa10, nxs1, nxs10, nxss, nI_add, nI_clamp, mnar0, mnar1, Nat.add_sub_cancel]
            refine ok_st rfl rfl ?_
            simp only [okS_some, xst, xp0, xp1, xp2, xp3, xp4, xp5, xload, xstore, xget_0, xget_s, xs_0, xs_1n, xs_1i, xs_1r, xs_1u, xs_1l, xs_s, xt_0, xt_1n, xt_1i, xt_1r, xt_1u, xt_1l, xt_s, xisref, xq0, Value.category, xcat, List.map_nil, List.map_cons, List.sum_nil, List.sum_cons, List.length_cons, List.length_nil, List.getElem?_cons_zero, List.getElem?_cons_succ, xmap_s, if_true, and_self, Nat.reduceAdd, Nat.reduceLT, Nat.reduceLeDiff, Nat.reduceEqDiff, Nat.lt_add_one, Nat.zero_le, Nat.le_refl, Nat.le_zero_eq, Nat.zero_lt_succ, xldc, kbm10, kbm9, kbm8, kbm7, kbm6, kbm5, kbm4, kbm3, kbm2, kb6, kb7, kb8, kb9, kb10, kb11, kb16, kb19, kb20, kb30, kb31, kb32, kb34, kb40, kb64, kb100, kb127, kim1, ki0, ki1, ki2, ki3, ki4, ki5, ks128, ks400, ks999, ks1000, ks4010]
            rw [show nI (8 * i) + Int32.ofInt 8 = nI (8 * (i + 1)) from nI_add (8 * i) 8]
            exact ih (i := i + 1) hW ⟨_, _, _, _, _, _, _, _, _, hI.up (by omega), hm, hj, hS2, by omega, by omega⟩ (by omega) (by omega)
          · dsimp only [Option.toList, List.cons_append, List.nil_append, Nat.reduceAdd]
            exfalso
            rw [hS2] at m1
            rcases d1 with q | q
            · exact m1 q
            · exact q m2
        · dsimp only [Option.toList, List.cons_append, List.nil_append, Nat.reduceAdd]
          have hW := k103.1
          have z112 := al104 rfl
          try dsimp only at z112
          obtain ⟨B, hm⟩ := hm.kq k103 (by decide)
          iterate 5 (refine ok_st rfl rfl ?_; simp only [okS_some, xst, xp0, xp1, xp2, xp3, xp4, xp5, xload, xstore, xget_0, xget_s, xs_0, xs_1n, xs_1i, xs_1r, xs_1u, xs_1l, xs_s, xt_0, xt_1n, xt_1i, xt_1r, xt_1u, xt_1l, xt_s, xisref, xq0, Value.category, xcat, List.map_nil, List.map_cons, List.sum_nil, List.sum_cons, List.length_cons, List.length_nil, List.getElem?_cons_zero, List.getElem?_cons_succ, xmap_s, if_true, and_self, Nat.reduceAdd, Nat.reduceLT, Nat.reduceLeDiff, Nat.reduceEqDiff, Nat.lt_add_one, Nat.zero_le, Nat.le_refl, Nat.le_zero_eq, Nat.zero_lt_succ, xldc, kbm10, kbm9, kbm8, kbm7, kbm6, kbm5, kbm4, kbm3, kbm2, kb6, kb7, kb8, kb9, kb10, kb11, kb16, kb19, kb20, kb30, kb31, kb32, kb34, kb40, kb64, kb100, kb127, kim1, ki0, ki1, ki2, ki3, ki4, ki5, ks128, ks400, ks999, ks1000, ks4010])
          try simp (disch := omega) only [nx10, nx4, nx32, nxa0, nxa1, nxa2, nxa3, nxa4, nxa5, nxa6, nxa7, nxa8, nxa9, nxa10, nxs1, nxs10, nxss, nI_add, nI_clamp, mnar0, mnar1, Nat.add_sub_cancel]
          refine l_il rfl (nIn (by omega) (by omega)) ?_
          try dsimp only [Nat.reduceAdd]
          try simp (disch := omega) only [nx10, nx4, nx32, nxa0, nxa1, nxa2, nxa3, nxa4, nxa5, nxa6, nxa7, nxa8, nxa9, nxa10, nxs1, nxs10, nxss, nI_add, nI_clamp, mnar0, mnar1, Nat.add_sub_cancel]
          refine ok_cm (vs := [_, _]) rfl rfl rfl rfl (Nat.le_of_ble_eq_true rfl) (Nat.le_of_ble_eq_true rfl) (by show xcl0 2 9 _ _ = true; simp [xcl0, hm.1]) (by decide) hW (sp88 hW hm) ?_
          rintro _ h113 (⟨rfl, m1, hm⟩ | ⟨rfl, m1, m2, hm⟩) k114 al115
          · dsimp only [Option.toList, List.cons_append, List.nil_append, Nat.reduceAdd]
            exfalso
            rw [hS2] at m1
            rcases m1 with q | q
            · exact d1 q
            · exact q d2
          · dsimp only [Option.toList, List.cons_append, List.nil_append, Nat.reduceAdd]
            have hW := k114.1
            have z117 := al115 rfl
            try dsimp only at z117
            have hI := hI.kp k114 (by decide)
            have hj := mJ_day hj m1 m2
            have hS2 := mP_s (S := S) (k := 2) (v := X.2 (8 * i + 1))
            refine ok_st rfl rfl ?_
            simp only [okS_some, xst, xp0, xp1, xp2, xp3, xp4, xp5, xload, xstore, xget_0, xget_s, xs_0, xs_1n, xs_1i, xs_1r, xs_1u, xs_1l, xs_s, xt_0, xt_1n, xt_1i, xt_1r, xt_1u, xt_1l, xt_s, xisref, xq0, Value.category, xcat, List.map_nil, List.map_cons, List.sum_nil, List.sum_cons, List.length_cons, List.length_nil, List.getElem?_cons_zero, List.getElem?_cons_succ, xmap_s, if_true, and_self, Nat.reduceAdd, Nat.reduceLT, Nat.reduceLeDiff, Nat.reduceEqDiff, Nat.lt_add_one, Nat.zero_le, Nat.le_refl, Nat.le_zero_eq, Nat.zero_lt_succ, xldc, kbm10, kbm9, kbm8, kbm7, kbm6, kbm5, kbm4, kbm3, kbm2, kb6, kb7, kb8, kb9, kb10, kb11, kb16, kb19, kb20, kb30, kb31, kb32, kb34, kb40, kb64, kb100, kb127, kim1, ki0, ki1, ki2, ki3, ki4, ki5, ks128, ks400, ks999, ks1000, ks4010]
            refine ok_bt rfl ?_
            refine ok_st rfl rfl ?_
            simp only [okS_some, xst, xp0, xp1, xp2, xp3, xp4, xp5, xload, xstore, xget_0, xget_s, xs_0, xs_1n, xs_1i, xs_1r, xs_1u, xs_1l, xs_s, xt_0, xt_1n, xt_1i, xt_1r, xt_1u, xt_1l, xt_s, xisref, xq0, Value.category, xcat, List.map_nil, List.map_cons, List.sum_nil, List.sum_cons, List.length_cons, List.length_nil, List.getElem?_cons_zero, List.getElem?_cons_succ, xmap_s, if_true, and_self, Nat.reduceAdd, Nat.reduceLT, Nat.reduceLeDiff, Nat.reduceEqDiff, Nat.lt_add_one, Nat.zero_le, Nat.le_refl, Nat.le_zero_eq, Nat.zero_lt_succ, xldc, kbm10, kbm9, kbm8, kbm7, kbm6, kbm5, kbm4, kbm3, kbm2, kb6, kb7, kb8, kb9, kb10, kb11, kb16, kb19, kb20, kb30, kb31, kb32, kb34, kb40, kb64, kb100, kb127, kim1, ki0, ki1, ki2, ki3, ki4, ki5, ks128, ks400, ks999, ks1000, ks4010]
            try simp (disch := omega) only [nx10, nx4, nx32, nxa0, nxa1, nxa2, nxa3, nxa4, nxa5, nxa6, nxa7, nxa8, nxa9, nxa10, nxs1, nxs10, nxss, nI_add, nI_clamp, mnar0, mnar1, Nat.add_sub_cancel]
            refine ok_st rfl rfl ?_
            simp only [okS_some, xst, xp0, xp1, xp2, xp3, xp4, xp5, xload, xstore, xget_0, xget_s, xs_0, xs_1n, xs_1i, xs_1r, xs_1u, xs_1l, xs_s, xt_0, xt_1n, xt_1i, xt_1r, xt_1u, xt_1l, xt_s, xisref, xq0, Value.category, xcat, List.map_nil, List.map_cons, List.sum_nil, List.sum_cons, List.length_cons, List.length_nil, List.getElem?_cons_zero, List.getElem?_cons_succ, xmap_s, if_true, and_self, Nat.reduceAdd, Nat.reduceLT, Nat.reduceLeDiff, Nat.reduceEqDiff, Nat.lt_add_one, Nat.zero_le, Nat.le_refl, Nat.le_zero_eq, Nat.zero_lt_succ, xldc, kbm10, kbm9, kbm8, kbm7, kbm6, kbm5, kbm4, kbm3, kbm2, kb6, kb7, kb8, kb9, kb10, kb11, kb16, kb19, kb20, kb30, kb31, kb32, kb34, kb40, kb64, kb100, kb127, kim1, ki0, ki1, ki2, ki3, ki4, ki5, ks128, ks400, ks999, ks1000, ks4010]
            rw [show nI (8 * i) + Int32.ofInt 8 = nI (8 * (i + 1)) from nI_add (8 * i) 8]
            exact ih (i := i + 1) hW ⟨_, _, _, _, _, _, _, _, _, hI.up (by omega), hm, hj, hS2, by omega, by omega⟩ (by omega) (by omega)
      · skip
        iterate 5 (refine ok_st rfl rfl ?_; simp only [okS_some, xst, xp0, xp1, xp2, xp3, xp4, xp5, xload, xstore, xget_0, xget_s, xs_0, xs_1n, xs_1i, xs_1r, xs_1u, xs_1l, xs_s, xt_0, xt_1n, xt_1i, xt_1r, xt_1u, xt_1l, xt_s, xisref, xq0, Value.category, xcat, List.map_nil, List.map_cons, List.sum_nil, List.sum_cons, List.length_cons, List.length_nil, List.getElem?_cons_zero, List.getElem?_cons_succ, xmap_s, if_true, and_self, Nat.reduceAdd, Nat.reduceLT, Nat.reduceLeDiff, Nat.reduceEqDiff, Nat.lt_add_one, Nat.zero_le, Nat.le_refl, Nat.le_zero_eq, Nat.zero_lt_succ, xldc, kbm10, kbm9, kbm8, kbm7, kbm6, kbm5, kbm4, kbm3, kbm2, kb6, kb7, kb8, kb9, kb10, kb11, kb16, kb19, kb20, kb30, kb31, kb32, kb34, kb40, kb64, kb100, kb127, kim1, ki0, ki1, ki2, ki3, ki4, ki5, ks128, ks400, ks999, ks1000, ks4010])
        try simp (disch := omega) only [nx10, nx4, nx32, nxa0, nxa1, nxa2, nxa3, nxa4, nxa5, nxa6, nxa7, nxa8, nxa9, nxa10, nxs1, nxs10, nxss, nI_add, nI_clamp, mnar0, mnar1, Nat.add_sub_cancel]
        refine l_il rfl (nIn (by omega) (by omega)) ?_
        try dsimp only [Nat.reduceAdd]
        try simp (disch := omega) only [nx10, nx4, nx32, nxa0, nxa1, nxa2, nxa3, nxa4, nxa5, nxa6, nxa7, nxa8, nxa9, nxa10, nxs1, nxs10, nxss, nI_add, nI_clamp, mnar0, mnar1, Nat.add_sub_cancel]
        iterate 4 (refine ok_st rfl rfl ?_; simp only [okS_some, xst, xp0, xp1, xp2, xp3, xp4, xp5, xload, xstore, xget_0, xget_s, xs_0, xs_1n, xs_1i, xs_1r, xs_1u, xs_1l, xs_s, xt_0, xt_1n, xt_1i, xt_1r, xt_1u, xt_1l, xt_s, xisref, xq0, Value.category, xcat, List.map_nil, List.map_cons, List.sum_nil, List.sum_cons, List.length_cons, List.length_nil, List.getElem?_cons_zero, List.getElem?_cons_succ, xmap_s, if_true, and_self, Nat.reduceAdd, Nat.reduceLT, Nat.reduceLeDiff, Nat.reduceEqDiff, Nat.lt_add_one, Nat.zero_le, Nat.le_refl, Nat.le_zero_eq, Nat.zero_lt_succ, xldc, kbm10, kbm9, kbm8, kbm7, kbm6, kbm5, kbm4, kbm3, kbm2, kb6, kb7, kb8, kb9, kb10, kb11, kb16, kb19, kb20, kb30, kb31, kb32, kb34, kb40, kb64, kb100, kb127, kim1, ki0, ki1, ki2, ki3, ki4, ki5, ks128, ks400, ks999, ks1000, ks4010])
        try simp (disch := omega) only [nx10, nx4, nx32, nxa0, nxa1, nxa2, nxa3, nxa4, nxa5, nxa6, nxa7, nxa8, nxa9, nxa10, nxs1, nxs10, nxss, nI_add, nI_clamp, mnar0, mnar1, Nat.add_sub_cancel]
        refine l_il rfl (nIn (by omega) (by omega)) ?_
        try dsimp only [Nat.reduceAdd]
        try simp (disch := omega) only [nx10, nx4, nx32, nxa0, nxa1, nxa2, nxa3, nxa4, nxa5, nxa6, nxa7, nxa8, nxa9, nxa10, nxs1, nxs10, nxss, nI_add, nI_clamp, mnar0, mnar1, Nat.add_sub_cancel]
        iterate 4 (refine ok_st rfl rfl ?_; simp only [okS_some, xst, xp0, xp1, xp2, xp3, xp4, xp5, xload, xstore, xget_0, xget_s, xs_0, xs_1n, xs_1i, xs_1r, xs_1u, xs_1l, xs_s, xt_0, xt_1n, xt_1i, xt_1r, xt_1u, xt_1l, xt_s, xisref, xq0, Value.category, xcat, List.map_nil, List.map_cons, List.sum_nil, List.sum_cons, List.length_cons, List.length_nil, List.getElem?_cons_zero, List.getElem?_cons_succ, xmap_s, if_true, and_self, Nat.reduceAdd, Nat.reduceLT, Nat.reduceLeDiff, Nat.reduceEqDiff, Nat.lt_add_one, Nat.zero_le, Nat.le_refl, Nat.le_zero_eq, Nat.zero_lt_succ, xldc, kbm10, kbm9, kbm8, kbm7, kbm6, kbm5, kbm4, kbm3, kbm2, kb6, kb7, kb8, kb9, kb10, kb11, kb16, kb19, kb20, kb30, kb31, kb32, kb34, kb40, kb64, kb100, kb127, kim1, ki0, ki1, ki2, ki3, ki4, ki5, ks128, ks400, ks999, ks1000, ks4010])
        try simp (disch := omega) only [nx10, nx4, nx32, nxa0, nxa1, nxa2, nxa3, nxa4, nxa5, nxa6, nxa7, nxa8, nxa9, nxa10, nxs1, nxs10, nxss, nI_add, nI_clamp, mnar0, mnar1, Nat.add_sub_cancel]
        refine l_il rfl (nIn (by omega) (by omega)) ?_
        try dsimp only [Nat.reduceAdd]
        try simp (disch := omega) only [nx10, nx4, nx32, nxa0, nxa1, nxa2, nxa3, nxa4, nxa5, nxa6, nxa7, nxa8, nxa9, nxa10, nxs1, nxs10, nxss, nI_add, nI_clamp, mnar0, mnar1, Nat.add_sub_cancel]
        iterate 4 (refine ok_st rfl rfl ?_; simp only [okS_some, xst, xp0, xp1, xp2, xp3, xp4, xp5, xload, xstore, xget_0, xget_s, xs_0, xs_1n, xs_1i, xs_1r, xs_1u, xs_1l, xs_s, xt_0, xt_1n, xt_1i, xt_1r, xt_1u, xt_1l, xt_s, xisref, xq0, Value.category, xcat, List.map_nil, List.map_cons, List.sum_nil, List.sum_cons, List.length_cons, List.length_nil, List.getElem?_cons_zero, List.getElem?_cons_succ, xmap_s, if_true, and_self, Nat.reduceAdd, Nat.reduceLT, Nat.reduceLeDiff, Nat.reduceEqDiff, Nat.lt_add_one, Nat.zero_le, Nat.le_refl, Nat.le_zero_eq, Nat.zero_lt_succ, xldc, kbm10, kbm9, kbm8, kbm7, kbm6, kbm5, kbm4, kbm3, kbm2, kb6, kb7, kb8, kb9, kb10, kb11, kb16, kb19, kb20, kb30, kb31, kb32, kb34, kb40, kb64, kb100, kb127, kim1, ki0, ki1, ki2, ki3, ki4, ki5, ks128, ks400, ks999, ks1000, ks4010])
        try simp (disch := omega) only [nx10, nx4, nx32, nxa0, nxa1, nxa2, nxa3, nxa4, nxa5, nxa6, nxa7, nxa8, nxa9, nxa10, nxs1, nxs10, nxss, nI_add, nI_clamp, mnar0, mnar1, Nat.add_sub_cancel]
        refine l_il rfl (nIn (by omega) (by omega)) ?_
        try dsimp only [Nat.reduceAdd]
        try simp (disch := omega) only [nx10, nx4, nx32, nxa0, nxa1, nxa2, nxa3, nxa4, nxa5, nxa6, nxa7, nxa8, nxa9, nxa10, nxs1, nxs10, nxss, nI_add, nI_clamp, mnar0, mnar1, Nat.add_sub_cancel]
        iterate 4 (refine ok_st rfl rfl ?_; simp only [okS_some, xst, xp0, xp1, xp2, xp3, xp4, xp5, xload, xstore, xget_0, xget_s, xs_0, xs_1n, xs_1i, xs_1r, xs_1u, xs_1l, xs_s, xt_0, xt_1n, xt_1i, xt_1r, xt_1u, xt_1l, xt_s, xisref, xq0, Value.category, xcat, List.map_nil, List.map_cons, List.sum_nil, List.sum_cons, List.length_cons, List.length_nil, List.getElem?_cons_zero, List.getElem?_cons_succ, xmap_s, if_true, and_self, Nat.reduceAdd, Nat.reduceLT, Nat.reduceLeDiff, Nat.reduceEqDiff, Nat.lt_add_one, Nat.zero_le, Nat.le_refl, Nat.le_zero_eq, Nat.zero_lt_succ, xldc, kbm10, kbm9, kbm8, kbm7, kbm6, kbm5, kbm4, kbm3, kbm2, kb6, kb7, kb8, kb9, kb10, kb11, kb16, kb19, kb20, kb30, kb31, kb32, kb34, kb40, kb64, kb100, kb127, kim1, ki0, ki1, ki2, ki3, ki4, ki5, ks128, ks400, ks999, ks1000, ks4010])
        try simp (disch := omega) only [nx10, nx4, nx32, nxa0, nxa1, nxa2, nxa3, nxa4, nxa5, nxa6, nxa7, nxa8, nxa9, nxa10, nxs1, nxs10, nxss, nI_add, nI_clamp, mnar0, mnar1, Nat.add_sub_cancel]
        refine l_il rfl (nIn (by omega) (by omega)) ?_
        try dsimp only [Nat.reduceAdd]
        try simp (disch := omega) only [nx10, nx4, nx32, nxa0, nxa1, nxa2, nxa3, nxa4, nxa5, nxa6, nxa7, nxa8, nxa9, nxa10, nxs1, nxs10, nxss, nI_add, nI_clamp, mnar0, mnar1, Nat.add_sub_cancel]
        iterate 4 (refine ok_st rfl rfl ?_; simp only [okS_some, xst, xp0, xp1, xp2, xp3, xp4, xp5, xload, xstore, xget_0, xget_s, xs_0, xs_1n, xs_1i, xs_1r, xs_1u, xs_1l, xs_s, xt_0, xt_1n, xt_1i, xt_1r, xt_1u, xt_1l, xt_s, xisref, xq0, Value.category, xcat, List.map_nil, List.map_cons, List.sum_nil, List.sum_cons, List.length_cons, List.length_nil, List.getElem?_cons_zero, List.getElem?_cons_succ, xmap_s, if_true, and_self, Nat.reduceAdd, Nat.reduceLT, Nat.reduceLeDiff, Nat.reduceEqDiff, Nat.lt_add_one, Nat.zero_le, Nat.le_refl, Nat.le_zero_eq, Nat.zero_lt_succ, xldc, kbm10, kbm9, kbm8, kbm7, kbm6, kbm5, kbm4, kbm3, kbm2, kb6, kb7, kb8, kb9, kb10, kb11, kb16, kb19, kb20, kb30, kb31, kb32, kb34, kb40, kb64, kb100, kb127, kim1, ki0, ki1, ki2, ki3, ki4, ki5, ks128, ks400, ks999, ks1000, ks4010])
        try simp (disch := omega) only [nx10, nx4, nx32, nxa0, nxa1, nxa2, nxa3, nxa4, nxa5, nxa6, nxa7, nxa8, nxa9, nxa10, nxs1, nxs10, nxss, nI_add, nI_clamp, mnar0, mnar1, Nat.add_sub_cancel]
        refine l_il rfl (nIn (by omega) (by omega)) ?_
        try dsimp only [Nat.reduceAdd]
        try simp (disch := omega) only [nx10, nx4, nx32, nxa0, nxa1, nxa2, nxa3, nxa4, nxa5, nxa6, nxa7, nxa8, nxa9, nxa10, nxs1, nxs10, nxss, nI_add, nI_clamp, mnar0, mnar1, Nat.add_sub_cancel]
        iterate 4 (refine ok_st rfl rfl ?_; simp only [okS_some, xst, xp0, xp1, xp2, xp3, xp4, xp5, xload, xstore, xget_0, xget_s, xs_0, xs_1n, xs_1i, xs_1r, xs_1u, xs_1l, xs_s, xt_0, xt_1n, xt_1i, xt_1r, xt_1u, xt_1l, xt_s, xisref, xq0, Value.category, xcat, List.map_nil, List.map_cons, List.sum_nil, List.sum_cons, List.length_cons, List.length_nil, List.getElem?_cons_zero, List.getElem?_cons_succ, xmap_s, if_true, and_self, Nat.reduceAdd, Nat.reduceLT, Nat.reduceLeDiff, Nat.reduceEqDiff, Nat.lt_add_one, Nat.zero_le, Nat.le_refl, Nat.le_zero_eq, Nat.zero_lt_succ, xldc, kbm10, kbm9, kbm8, kbm7, kbm6, kbm5, kbm4, kbm3, kbm2, kb6, kb7, kb8, kb9, kb10, kb11, kb16, kb19, kb20, kb30, kb31, kb32, kb34, kb40, kb64, kb100, kb127, kim1, ki0, ki1, ki2, ki3, ki4, ki5, ks128, ks400, ks999, ks1000, ks4010])
        try simp (disch := omega) only [nx10, nx4, nx32, nxa0, nxa1, nxa2, nxa3, nxa4, nxa5, nxa6, nxa7, nxa8, nxa9, nxa10, nxs1, nxs10, nxss, nI_add, nI_clamp, mnar0, mnar1, Nat.add_sub_cancel]
        refine l_il rfl (nIn (by omega) (by omega)) ?_
        try dsimp only [Nat.reduceAdd]
        try simp (disch := omega) only [nx10, nx4, nx32, nxa0, nxa1, nxa2, nxa3, nxa4, nxa5, nxa6, nxa7, nxa8, nxa9, nxa10, nxs1, nxs10, nxss, nI_add, nI_clamp, mnar0, mnar1, Nat.add_sub_cancel]
        refine ok_cm (vs := [_, _, _, _, _, _, _, _]) rfl rfl rfl rfl (Nat.le_of_ble_eq_true rfl) (Nat.le_of_ble_eq_true rfl) (by show xcl0 2 8 _ _ = true; simp [xcl0, hI.1]) (by decide) hW (sp46 hW hI (by omega)) ?_
        rintro _ h118 ⟨⟨x122, rfl⟩, hI, z123, z124⟩ k119 al120
        dsimp only [Option.toList, List.cons_append, List.nil_append, Nat.reduceAdd]
        try dsimp only at z123 z124
        have hW := k119.1
        obtain ⟨B, hm⟩ := hm.kq k119 (by decide)
        iterate 6 (refine ok_st rfl rfl ?_; simp only [okS_some, xst, xp0, xp1, xp2, xp3, xp4, xp5, xload, xstore, xget_0, xget_s, xs_0, xs_1n, xs_1i, xs_1r, xs_1u, xs_1l, xs_s, xt_0, xt_1n, xt_1i, xt_1r, xt_1u, xt_1l, xt_s, xisref, xq0, Value.category, xcat, List.map_nil, List.map_cons, List.sum_nil, List.sum_cons, List.length_cons, List.length_nil, List.getElem?_cons_zero, List.getElem?_cons_succ, xmap_s, if_true, and_self, Nat.reduceAdd, Nat.reduceLT, Nat.reduceLeDiff, Nat.reduceEqDiff, Nat.lt_add_one, Nat.zero_le, Nat.le_refl, Nat.le_zero_eq, Nat.zero_lt_succ, xldc, kbm10, kbm9, kbm8, kbm7, kbm6, kbm5, kbm4, kbm3, kbm2, kb6, kb7, kb8, kb9, kb10, kb11, kb16, kb19, kb20, kb30, kb31, kb32, kb34, kb40, kb64, kb100, kb127, kim1, ki0, ki1, ki2, ki3, ki4, ki5, ks128, ks400, ks999, ks1000, ks4010])
        try simp (disch := omega) only [nx10, nx4, nx32, nxa0, nxa1, nxa2, nxa3, nxa4, nxa5, nxa6, nxa7, nxa8, nxa9, nxa10, nxs1, nxs10, nxss, nI_add, nI_clamp, mnar0, mnar1, Nat.add_sub_cancel]
        refine l_il rfl (nIn (by omega) (by omega)) ?_
        try dsimp only [Nat.reduceAdd]
        try simp (disch := omega) only [nx10, nx4, nx32, nxa0, nxa1, nxa2, nxa3, nxa4, nxa5, nxa6, nxa7, nxa8, nxa9, nxa10, nxs1, nxs10, nxss, nI_add, nI_clamp, mnar0, mnar1, Nat.add_sub_cancel]
        iterate 4 (refine ok_st rfl rfl ?_; simp only [okS_some, xst, xp0, xp1, xp2, xp3, xp4, xp5, xload, xstore, xget_0, xget_s, xs_0, xs_1n, xs_1i, xs_1r, xs_1u, xs_1l, xs_s, xt_0, xt_1n, xt_1i, xt_1r, xt_1u, xt_1l, xt_s, xisref, xq0, Value.category, xcat, List.map_nil, List.map_cons, List.sum_nil, List.sum_cons, List.length_cons, List.length_nil, List.getElem?_cons_zero, List.getElem?_cons_succ, xmap_s, if_true, and_self, Nat.reduceAdd, Nat.reduceLT, Nat.reduceLeDiff, Nat.reduceEqDiff, Nat.lt_add_one, Nat.zero_le, Nat.le_refl, Nat.le_zero_eq, Nat.zero_lt_succ, xldc, kbm10, kbm9, kbm8, kbm7, kbm6, kbm5, kbm4, kbm3, kbm2, kb6, kb7, kb8, kb9, kb10, kb11, kb16, kb19, kb20, kb30, kb31, kb32, kb34, kb40, kb64, kb100, kb127, kim1, ki0, ki1, ki2, ki3, ki4, ki5, ks128, ks400, ks999, ks1000, ks4010])
        try simp (disch := omega) only [nx10, nx4, nx32, nxa0, nxa1, nxa2, nxa3, nxa4, nxa5, nxa6, nxa7, nxa8, nxa9, nxa10, nxs1, nxs10, nxss, nI_add, nI_clamp, mnar0, mnar1, Nat.add_sub_cancel]
        refine l_il rfl (nIn (by omega) (by omega)) ?_
        try dsimp only [Nat.reduceAdd]
        try simp (disch := omega) only [nx10, nx4, nx32, nxa0, nxa1, nxa2, nxa3, nxa4, nxa5, nxa6, nxa7, nxa8, nxa9, nxa10, nxs1, nxs10, nxss, nI_add, nI_clamp, mnar0, mnar1, Nat.add_sub_cancel]
        iterate 4 (refine ok_st rfl rfl ?_; simp only [okS_some, xst, xp0, xp1, xp2, xp3, xp4, xp5, xload, xstore, xget_0, xget_s, xs_0, xs_1n, xs_1i, xs_1r, xs_1u, xs_1l, xs_s, xt_0, xt_1n, xt_1i, xt_1r, xt_1u, xt_1l, xt_s, xisref, xq0, Value.category, xcat, List.map_nil, List.map_cons, List.sum_nil, List.sum_cons, List.length_cons, List.length_nil, List.getElem?_cons_zero, List.getElem?_cons_succ, xmap_s, if_true, and_self, Nat.reduceAdd, Nat.reduceLT, Nat.reduceLeDiff, Nat.reduceEqDiff, Nat.lt_add_one, Nat.zero_le, Nat.le_refl, Nat.le_zero_eq, Nat.zero_lt_succ, xldc, kbm10, kbm9, kbm8, kbm7, kbm6, kbm5, kbm4, kbm3, kbm2, kb6, kb7, kb8, kb9, kb10, kb11, kb16, kb19, kb20, kb30, kb31, kb32, kb34, kb40, kb64, kb100, kb127, kim1, ki0, ki1, ki2, ki3, ki4, ki5, ks128, ks400, ks999, ks1000, ks4010])
        try simp (disch := omega) only [nx10, nx4, nx32, nxa0, nxa1, nxa2, nxa3, nxa4, nxa5, nxa6, nxa7, nxa8, nxa9, nxa10, nxs1, nxs10, nxss, nI_add, nI_clamp, mnar0, mnar1, Nat.add_sub_cancel]
        refine l_il rfl (nIn (by omega) (by omega)) ?_
        try dsimp only [Nat.reduceAdd]
        try simp (disch := omega) only [nx10, nx4, nx32, nxa0, nxa1, nxa2, nxa3, nxa4, nxa5, nxa6, nxa7, nxa8, nxa9, nxa10, nxs1, nxs10, nxss, nI_add, nI_clamp, mnar0, mnar1, Nat.add_sub_cancel]
        iterate 4 (refine ok_st rfl rfl ?_; simp only [okS_some, xst, xp0, xp1, xp2, xp3, xp4, xp5, xload, xstore, xget_0, xget_s, xs_0, xs_1n, xs_1i, xs_1r, xs_1u, xs_1l, xs_s, xt_0, xt_1n, xt_1i, xt_1r, xt_1u, xt_1l, xt_s, xisref, xq0, Value.category, xcat, List.map_nil, List.map_cons, List.sum_nil, List.sum_cons, List.length_cons, List.length_nil, List.getElem?_cons_zero, List.getElem?_cons_succ, xmap_s, if_true, and_self, Nat.reduceAdd, Nat.reduceLT, Nat.reduceLeDiff, Nat.reduceEqDiff, Nat.lt_add_one, Nat.zero_le, Nat.le_refl, Nat.le_zero_eq, Nat.zero_lt_succ, xldc, kbm10, kbm9, kbm8, kbm7, kbm6, kbm5, kbm4, kbm3, kbm2, kb6, kb7, kb8, kb9, kb10, kb11, kb16, kb19, kb20, kb30, kb31, kb32, kb34, kb40, kb64, kb100, kb127, kim1, ki0, ki1, ki2, ki3, ki4, ki5, ks128, ks400, ks999, ks1000, ks4010])
        try simp (disch := omega) only [nx10, nx4, nx32, nxa0, nxa1, nxa2, nxa3, nxa4, nxa5, nxa6, nxa7, nxa8, nxa9, nxa10, nxs1, nxs10, nxss, nI_add, nI_clamp, mnar0, mnar1, Nat.add_sub_cancel]
        refine l_il rfl (nIn (by omega) (by omega)) ?_
        try dsimp only [Nat.reduceAdd]
        try simp (disch := omega) only [nx10, nx4, nx32, nxa0, nxa1, nxa2, nxa3, nxa4, nxa5, nxa6, nxa7, nxa8, nxa9, nxa10, nxs1, nxs10, nxss, nI_add, nI_clamp, mnar0, mnar1, Nat.add_sub_cancel]
        iterate 4 (refine ok_st rfl rfl ?_; simp only [okS_some, xst, xp0, xp1, xp2, xp3, xp4, xp5, xload, xstore, xget_0, xget_s, xs_0, xs_1n, xs_1i, xs_1r, xs_1u, xs_1l, xs_s, xt_0, xt_1n, xt_1i, xt_1r, xt_1u, xt_1l, xt_s, xisref, xq0, Value.category, xcat, List.map_nil, List.map_cons, List.sum_nil, List.sum_cons, List.length_cons, List.length_nil, List.getElem?_cons_zero, List.getElem?_cons_succ, xmap_s, if_true, and_self, Nat.reduceAdd, Nat.reduceLT, Nat.reduceLeDiff, Nat.reduceEqDiff, Nat.lt_add_one, Nat.zero_le, Nat.le_refl, Nat.le_zero_eq, Nat.zero_lt_succ, xldc, kbm10, kbm9, kbm8, kbm7, kbm6, kbm5, kbm4, kbm3, kbm2, kb6, kb7, kb8, kb9, kb10, kb11, kb16, kb19, kb20, kb30, kb31, kb32, kb34, kb40, kb64, kb100, kb127, kim1, ki0, ki1, ki2, ki3, ki4, ki5, ks128, ks400, ks999, ks1000, ks4010])
        try simp (disch := omega) only [nx10, nx4, nx32, nxa0, nxa1, nxa2, nxa3, nxa4, nxa5, nxa6, nxa7, nxa8, nxa9, nxa10, nxs1, nxs10, nxss, nI_add, nI_clamp, mnar0, mnar1, Nat.add_sub_cancel]
        refine l_il rfl (nIn (by omega) (by omega)) ?_
        try dsimp only [Nat.reduceAdd]
        try simp (disch := omega) only [nx10, nx4, nx32, nxa0, nxa1, nxa2, nxa3, nxa4, nxa5, nxa6, nxa7, nxa8, nxa9, nxa10, nxs1, nxs10, nxss, nI_add, nI_clamp, mnar0, mnar1, Nat.add_sub_cancel]
        iterate 4 (refine ok_st rfl rfl ?_; simp only [okS_some, xst, xp0, xp1, xp2, xp3, xp4, xp5, xload, xstore, xget_0, xget_s, xs_0, xs_1n, xs_1i, xs_1r, xs_1u, xs_1l, xs_s, xt_0, xt_1n, xt_1i, xt_1r, xt_1u, xt_1l, xt_s, xisref, xq0, Value.category, xcat, List.map_nil, List.map_cons, List.sum_nil, List.sum_cons, List.length_cons, List.length_nil, List.getElem?_cons_zero, List.getElem?_cons_succ, xmap_s, if_true, and_self, Nat.reduceAdd, Nat.reduceLT, Nat.reduceLeDiff, Nat.reduceEqDiff, Nat.lt_add_one, Nat.zero_le, Nat.le_refl, Nat.le_zero_eq, Nat.zero_lt_succ, xldc, kbm10, kbm9, kbm8, kbm7, kbm6, kbm5, kbm4, kbm3, kbm2, kb6, kb7, kb8, kb9, kb10, kb11, kb16, kb19, kb20, kb30, kb31, kb32, kb34, kb40, kb64, kb100, kb127, kim1, ki0, ki1, ki2, ki3, ki4, ki5, ks128, ks400, ks999, ks1000, ks4010])
        try simp (disch := omega) only [nx10, nx4, nx32, nxa0, nxa1, nxa2, nxa3, nxa4, nxa5, nxa6, nxa7, nxa8, nxa9, nxa10, nxs1, nxs10, nxss, nI_add, nI_clamp, mnar0, mnar1, Nat.add_sub_cancel]
        refine l_il rfl (nIn (by omega) (by omega)) ?_
        try dsimp only [Nat.reduceAdd]
        try simp (disch := omega) only [nx10, nx4, nx32, nxa0, nxa1, nxa2, nxa3, nxa4, nxa5, nxa6, nxa7, nxa8, nxa9, nxa10, nxs1, nxs10, nxss, nI_add, nI_clamp, mnar0, mnar1, Nat.add_sub_cancel]
        iterate 4 (refine ok_st rfl rfl ?_; simp only [okS_some, xst, xp0, xp1, xp2, xp3, xp4, xp5, xload, xstore, xget_0, xget_s, xs_0, xs_1n, xs_1i, xs_1r, xs_1u, xs_1l, xs_s, xt_0, xt_1n, xt_1i, xt_1r, xt_1u, xt_1l, xt_s, xisref, xq0, Value.category, xcat, List.map_nil, List.map_cons, List.sum_nil, List.sum_cons, List.length_cons, List.length_nil, List.getElem?_cons_zero, List.getElem?_cons_succ, xmap_s, if_true, and_self, Nat.reduceAdd, Nat.reduceLT, Nat.reduceLeDiff, Nat.reduceEqDiff, Nat.lt_add_one, Nat.zero_le, Nat.le_refl, Nat.le_zero_eq, Nat.zero_lt_succ, xldc, kbm10, kbm9, kbm8, kbm7, kbm6, kbm5, kbm4, kbm3, kbm2, kb6, kb7, kb8, kb9, kb10, kb11, kb16, kb19, kb20, kb30, kb31, kb32, kb34, kb40, kb64, kb100, kb127, kim1, ki0, ki1, ki2, ki3, ki4, ki5, ks128, ks400, ks999, ks1000, ks4010])
        try simp (disch := omega) only [nx10, nx4, nx32, nxa0, nxa1, nxa2, nxa3, nxa4, nxa5, nxa6, nxa7, nxa8, nxa9, nxa10, nxs1, nxs10, nxss, nI_add, nI_clamp, mnar0, mnar1, Nat.add_sub_cancel]
        refine l_il rfl (nIn (by omega) (by omega)) ?_
        try dsimp only [Nat.reduceAdd]
        try simp (disch := omega) only [nx10, nx4, nx32, nxa0, nxa1, nxa2, nxa3, nxa4, nxa5, nxa6, nxa7, nxa8, nxa9, nxa10, nxs1, nxs10, nxss, nI_add, nI_clamp, mnar0, mnar1, Nat.add_sub_cancel]
        refine ok_cm (vs := [_, _, _, _, _, _, _, _]) rfl rfl rfl rfl (Nat.le_of_ble_eq_true rfl) (Nat.le_of_ble_eq_true rfl) (by show xcl0 2 9 _ _ = true; simp [xcl0, hm.1]) (by decide) hW (sp97 hW hm hj) ?_
        rintro _ h126 ⟨⟨x130, rfl⟩, S1, A1, B1, M1, hm, hj, hs⟩ k127 al128
        dsimp only [Option.toList, List.cons_append, List.nil_append, Nat.reduceAdd]
        have hW := k127.1
        have z131 := al128 rfl
        try dsimp only at z131
        have hI := hI.kp k127 (by decide)
        have hS2 := hs.trans hS2
        iterate 3 (refine ok_st rfl rfl ?_; simp only [okS_some, xst, xp0, xp1, xp2, xp3, xp4, xp5, xload, xstore, xget_0, xget_s, xs_0, xs_1n, xs_1i, xs_1r, xs_1u, xs_1l, xs_s, xt_0, xt_1n, xt_1i, xt_1r, xt_1u, xt_1l, xt_s, xisref, xq0, Value.category, xcat, List.map_nil, List.map_cons, List.sum_nil, List.sum_cons, List.length_cons, List.length_nil, List.getElem?_cons_zero, List.getElem?_cons_succ, xmap_s, if_true, and_self, Nat.reduceAdd, Nat.reduceLT, Nat.reduceLeDiff, Nat.reduceEqDiff, Nat.lt_add_one, Nat.zero_le, Nat.le_refl, Nat.le_zero_eq, Nat.zero_lt_succ, xldc, kbm10, kbm9, kbm8, kbm7, kbm6, kbm5, kbm4, kbm3, kbm2, kb6, kb7, kb8, kb9, kb10, kb11, kb16, kb19, kb20, kb30, kb31, kb32, kb34, kb40, kb64, kb100, kb127, kim1, ki0, ki1, ki2, ki3, ki4, ki5, ks128, ks400, ks999, ks1000, ks4010])
        try simp (disch := omega) only [nx10, nx4, nx32, nxa0, nxa1, nxa2, nxa3, nxa4, nxa5, nxa6, nxa7, nxa8, nxa9, nxa10, nxs1, nxs10, nxss, nI_add, nI_clamp, mnar0, mnar1, Nat.add_sub_cancel]
        refine ok_st rfl rfl ?_
        simp only [okS_some, xst, xp0, xp1, xp2, xp3, xp4, xp5, xload, xstore, xget_0, xget_s, xs_0, xs_1n, xs_1i, xs_1r, xs_1u, xs_1l, xs_s, xt_0, xt_1n, xt_1i, xt_1r, xt_1u, xt_1l, xt_s, xisref, xq0, Value.category, xcat, List.map_nil, List.map_cons, List.sum_nil, List.sum_cons, List.length_cons, List.length_nil, List.getElem?_cons_zero, List.getElem?_cons_succ, xmap_s, if_true, and_self, Nat.reduceAdd, Nat.reduceLT, Nat.reduceLeDiff, Nat.reduceEqDiff, Nat.lt_add_one, Nat.zero_le, Nat.le_refl, Nat.le_zero_eq, Nat.zero_lt_succ, xldc, kbm10, kbm9, kbm8, kbm7, kbm6, kbm5, kbm4, kbm3, kbm2, kb6, kb7, kb8, kb9, kb10, kb11, kb16, kb19, kb20, kb30, kb31, kb32, kb34, kb40, kb64, kb100, kb127, kim1, ki0, ki1, ki2, ki3, ki4, ki5, ks128, ks400, ks999, ks1000, ks4010]
        rw [show nI (8 * i) + Int32.ofInt 8 = nI (8 * (i + 1)) from nI_add (8 * i) 8]
        exact ih (i := i + 1) hW ⟨_, _, _, _, _, _, _, _, _, hI.up (by omega), hm, hj, hS2, by omega, by omega⟩ (by omega) (by omega)
      · skip
        iterate 5 (refine ok_st rfl rfl ?_; simp only [okS_some, xst, xp0, xp1, xp2, xp3, xp4, xp5, xload, xstore, xget_0, xget_s, xs_0, xs_1n, xs_1i, xs_1r, xs_1u, xs_1l, xs_s, xt_0, xt_1n, xt_1i, xt_1r, xt_1u, xt_1l, xt_s, xisref, xq0, Value.category, xcat, List.map_nil, List.map_cons, List.sum_nil, List.sum_cons, List.length_cons, List.length_nil, List.getElem?_cons_zero, List.getElem?_cons_succ, xmap_s, if_true, and_self, Nat.reduceAdd, Nat.reduceLT, Nat.reduceLeDiff, Nat.reduceEqDiff, Nat.lt_add_one, Nat.zero_le, Nat.le_refl, Nat.le_zero_eq, Nat.zero_lt_succ, xldc, kbm10, kbm9, kbm8, kbm7, kbm6, kbm5, kbm4, kbm3, kbm2, kb6, kb7, kb8, kb9, kb10, kb11, kb16, kb19, kb20, kb30, kb31, kb32, kb34, kb40, kb64, kb100, kb127, kim1, ki0, ki1, ki2, ki3, ki4, ki5, ks128, ks400, ks999, ks1000, ks4010])
        try simp (disch := omega) only [nx10, nx4, nx32, nxa0, nxa1, nxa2, nxa3, nxa4, nxa5, nxa6, nxa7, nxa8, nxa9, nxa10, nxs1, nxs10, nxss, nI_add, nI_clamp, mnar0, mnar1, Nat.add_sub_cancel]
        refine l_il rfl (nIn (by omega) (by omega)) ?_
        try dsimp only [Nat.reduceAdd]
        try simp (disch := omega) only [nx10, nx4, nx32, nxa0, nxa1, nxa2, nxa3, nxa4, nxa5, nxa6, nxa7, nxa8, nxa9, nxa10, nxs1, nxs10, nxss, nI_add, nI_clamp, mnar0, mnar1, Nat.add_sub_cancel]
        iterate 4 (refine ok_st rfl rfl ?_; simp only [okS_some, xst, xp0, xp1, xp2, xp3, xp4, xp5, xload, xstore, xget_0, xget_s, xs_0, xs_1n, xs_1i, xs_1r, xs_1u, xs_1l, xs_s, xt_0, xt_1n, xt_1i, xt_1r, xt_1u, xt_1l, xt_s, xisref, xq0, Value.category, xcat, List.map_nil, List.map_cons, List.sum_nil, List.sum_cons, List.length_cons, List.length_nil, List.getElem?_cons_zero, List.getElem?_cons_succ, xmap_s, if_true, and_self, Nat.reduceAdd, Nat.reduceLT, Nat.reduceLeDiff, Nat.reduceEqDiff, Nat.lt_add_one, Nat.zero_le, Nat.le_refl, Nat.le_zero_eq, Nat.zero_lt_succ, xldc, kbm10, kbm9, kbm8, kbm7, kbm6, kbm5, kbm4, kbm3, kbm2, kb6, kb7, kb8, kb9, kb10, kb11, kb16, kb19, kb20, kb30, kb31, kb32, kb34, kb40, kb64, kb100, kb127, kim1, ki0, ki1, ki2, ki3, ki4, ki5, ks128, ks400, ks999, ks1000, ks4010])
        try simp (disch := omega) only [nx10, nx4, nx32, nxa0, nxa1, nxa2, nxa3, nxa4, nxa5, nxa6, nxa7, nxa8, nxa9, nxa10, nxs1, nxs10, nxss, nI_add, nI_clamp, mnar0, mnar1, Nat.add_sub_cancel]
        refine l_il rfl (nIn (by omega) (by omega)) ?_
        try dsimp only [Nat.reduceAdd]
        try simp (disch := omega) only [nx10, nx4, nx32, nxa0, nxa1, nxa2, nxa3, nxa4, nxa5, nxa6, nxa7, nxa8, nxa9, nxa10, nxs1, nxs10, nxss, nI_add, nI_clamp, mnar0, mnar1, Nat.add_sub_cancel]
        iterate 4 (refine ok_st rfl rfl ?_; simp only [okS_some, xst, xp0, xp1, xp2, xp3, xp4, xp5, xload, xstore, xget_0, xget_s, xs_0, xs_1n, xs_1i, xs_1r, xs_1u, xs_1l, xs_s, xt_0, xt_1n, xt_1i, xt_1r, xt_1u, xt_1l, xt_s, xisref, xq0, Value.category, xcat, List.map_nil, List.map_cons, List.sum_nil, List.sum_cons, List.length_cons, List.length_nil, List.getElem?_cons_zero, List.getElem?_cons_succ, xmap_s, if_true, and_self, Nat.reduceAdd, Nat.reduceLT, Nat.reduceLeDiff, Nat.reduceEqDiff, Nat.lt_add_one, Nat.zero_le, Nat.le_refl, Nat.le_zero_eq, Nat.zero_lt_succ, xldc, kbm10, kbm9, kbm8, kbm7, kbm6, kbm5, kbm4, kbm3, kbm2, kb6, kb7, kb8, kb9, kb10, kb11, kb16, kb19, kb20, kb30, kb31, kb32, kb34, kb40, kb64, kb100, kb127, kim1, ki0, ki1, ki2, ki3, ki4, ki5, ks128, ks400, ks999, ks1000, ks4010])
        try simp (disch := omega) only [nx10, nx4, nx32, nxa0, nxa1, nxa2, nxa3, nxa4, nxa5, nxa6, nxa7, nxa8, nxa9, nxa10, nxs1, nxs10, nxss, nI_add, nI_clamp, mnar0, mnar1, Nat.add_sub_cancel]
        refine l_il rfl (nIn (by omega) (by omega)) ?_
        try dsimp only [Nat.reduceAdd]
        try simp (disch := omega) only [nx10, nx4, nx32, nxa0, nxa1, nxa2, nxa3, nxa4, nxa5, nxa6, nxa7, nxa8, nxa9, nxa10, nxs1, nxs10, nxss, nI_add, nI_clamp, mnar0, mnar1, Nat.add_sub_cancel]
        iterate 4 (refine ok_st rfl rfl ?_; simp only [okS_some, xst, xp0, xp1, xp2, xp3, xp4, xp5, xload, xstore, xget_0, xget_s, xs_0, xs_1n, xs_1i, xs_1r, xs_1u, xs_1l, xs_s, xt_0, xt_1n, xt_1i, xt_1r, xt_1u, xt_1l, xt_s, xisref, xq0, Value.category, xcat, List.map_nil, List.map_cons, List.sum_nil, List.sum_cons, List.length_cons, List.length_nil, List.getElem?_cons_zero, List.getElem?_cons_succ, xmap_s, if_true, and_self, Nat.reduceAdd, Nat.reduceLT, Nat.reduceLeDiff, Nat.reduceEqDiff, Nat.lt_add_one, Nat.zero_le, Nat.le_refl, Nat.le_zero_eq, Nat.zero_lt_succ, xldc, kbm10, kbm9, kbm8, kbm7, kbm6, kbm5, kbm4, kbm3, kbm2, kb6, kb7, kb8, kb9, kb10, kb11, kb16, kb19, kb20, kb30, kb31, kb32, kb34, kb40, kb64, kb100, kb127, kim1, ki0, ki1, ki2, ki3, ki4, ki5, ks128, ks400, ks999, ks1000, ks4010])
        try simp (disch := omega) only [nx10, nx4, nx32, nxa0, nxa1, nxa2, nxa3, nxa4, nxa5, nxa6, nxa7, nxa8, nxa9, nxa10, nxs1, nxs10, nxss, nI_add, nI_clamp, mnar0, mnar1, Nat.add_sub_cancel]
        refine l_il rfl (nIn (by omega) (by omega)) ?_
        try dsimp only [Nat.reduceAdd]
        try simp (disch := omega) only [nx10, nx4, nx32, nxa0, nxa1, nxa2, nxa3, nxa4, nxa5, nxa6, nxa7, nxa8, nxa9, nxa10, nxs1, nxs10, nxss, nI_add, nI_clamp, mnar0, mnar1, Nat.add_sub_cancel]
        iterate 4 (refine ok_st rfl rfl ?_; simp only [okS_some, xst, xp0, xp1, xp2, xp3, xp4, xp5, xload, xstore, xget_0, xget_s, xs_0, xs_1n, xs_1i, xs_1r, xs_1u, xs_1l, xs_s, xt_0, xt_1n, xt_1i, xt_1r, xt_1u, xt_1l, xt_s, xisref, xq0, Value.category, xcat, List.map_nil, List.map_cons, List.sum_nil, List.sum_cons, List.length_cons, List.length_nil, List.getElem?_cons_zero, List.getElem?_cons_succ, xmap_s, if_true, and_self, Nat.reduceAdd, Nat.reduceLT, Nat.reduceLeDiff, Nat.reduceEqDiff, Nat.lt_add_one, Nat.zero_le, Nat.le_refl, Nat.le_zero_eq, Nat.zero_lt_succ, xldc, kbm10, kbm9, kbm8, kbm7, kbm6, kbm5, kbm4, kbm3, kbm2, kb6, kb7, kb8, kb9, kb10, kb11, kb16, kb19, kb20, kb30, kb31, kb32, kb34, kb40, kb64, kb100, kb127, kim1, ki0, ki1, ki2, ki3, ki4, ki5, ks128, ks400, ks999, ks1000, ks4010])
        try simp (disch := omega) only [nx10, nx4, nx32, nxa0, nxa1, nxa2, nxa3, nxa4, nxa5, nxa6, nxa7, nxa8, nxa9, nxa10, nxs1, nxs10, nxss, nI_add, nI_clamp, mnar0, mnar1, Nat.add_sub_cancel]
        refine l_il rfl (nIn (by omega) (by omega)) ?_
        try dsimp only [Nat.reduceAdd]
        try simp (disch := omega) only [nx10, nx4, nx32, nxa0, nxa1, nxa2, nxa3, nxa4, nxa5, nxa6, nxa7, nxa8, nxa9, nxa10, nxs1, nxs10, nxss, nI_add, nI_clamp, mnar0, mnar1, Nat.add_sub_cancel]
        iterate 4 (refine ok_st rfl rfl ?_; simp only [okS_some, xst, xp0, xp1, xp2, xp3, xp4, xp5, xload, xstore, xget_0, xget_s, xs_0, xs_1n, xs_1i, xs_1r, xs_1u, xs_1l, xs_s, xt_0, xt_1n, xt_1i, xt_1r, xt_1u, xt_1l, xt_s, xisref, xq0, Value.category, xcat, List.map_nil, List.map_cons, List.sum_nil, List.sum_cons, List.length_cons, List.length_nil, List.getElem?_cons_zero, List.getElem?_cons_succ, xmap_s, if_true, and_self, Nat.reduceAdd, Nat.reduceLT, Nat.reduceLeDiff, Nat.reduceEqDiff, Nat.lt_add_one, Nat.zero_le, Nat.le_refl, Nat.le_zero_eq, Nat.zero_lt_succ, xldc, kbm10, kbm9, kbm8, kbm7, kbm6, kbm5, kbm4, kbm3, kbm2, kb6, kb7, kb8, kb9, kb10, kb11, kb16, kb19, kb20, kb30, kb31, kb32, kb34, kb40, kb64, kb100, kb127, kim1, ki0, ki1, ki2, ki3, ki4, ki5, ks128, ks400, ks999, ks1000, ks4010])
        try simp (disch := omega) only [nx10, nx4, nx32, nxa0, nxa1, nxa2, nxa3, nxa4, nxa5, nxa6, nxa7, nxa8, nxa9, nxa10, nxs1, nxs10, nxss, nI_add, nI_clamp, mnar0, mnar1, Nat.add_sub_cancel]
        refine l_il rfl (nIn (by omega) (by omega)) ?_
        try dsimp only [Nat.reduceAdd]
        try simp (disch := omega) only [nx10, nx4, nx32, nxa0, nxa1, nxa2, nxa3, nxa4, nxa5, nxa6, nxa7, nxa8, nxa9, nxa10, nxs1, nxs10, nxss, nI_add, nI_clamp, mnar0, mnar1, Nat.add_sub_cancel]
        iterate 4 (refine ok_st rfl rfl ?_; simp only [okS_some, xst, xp0, xp1, xp2, xp3, xp4, xp5, xload, xstore, xget_0, xget_s, xs_0, xs_1n, xs_1i, xs_1r, xs_1u, xs_1l, xs_s, xt_0, xt_1n, xt_1i, xt_1r, xt_1u, xt_1l, xt_s, xisref, xq0, Value.category, xcat, List.map_nil, List.map_cons, List.sum_nil, List.sum_cons, List.length_cons, List.length_nil, List.getElem?_cons_zero, List.getElem?_cons_succ, xmap_s, if_true, and_self, Nat.reduceAdd, Nat.reduceLT, Nat.reduceLeDiff, Nat.reduceEqDiff, Nat.lt_add_one, Nat.zero_le, Nat.le_refl, Nat.le_zero_eq, Nat.zero_lt_succ, xldc, kbm10, kbm9, kbm8, kbm7, kbm6, kbm5, kbm4, kbm3, kbm2, kb6, kb7, kb8, kb9, kb10, kb11, kb16, kb19, kb20, kb30, kb31, kb32, kb34, kb40, kb64, kb100, kb127, kim1, ki0, ki1, ki2, ki3, ki4, ki5, ks128, ks400, ks999, ks1000, ks4010])
        try simp (disch := omega) only [nx10, nx4, nx32, nxa0, nxa1, nxa2, nxa3, nxa4, nxa5, nxa6, nxa7, nxa8, nxa9, nxa10, nxs1, nxs10, nxss, nI_add, nI_clamp, mnar0, mnar1, Nat.add_sub_cancel]
        refine l_il rfl (nIn (by omega) (by omega)) ?_
        try dsimp only [Nat.reduceAdd]
        try simp (disch := omega) only [nx10, nx4, nx32, nxa0, nxa1, nxa2, nxa3, nxa4, nxa5, nxa6, nxa7, nxa8, nxa9, nxa10, nxs1, nxs10, nxss, nI_add, nI_clamp, mnar0, mnar1, Nat.add_sub_cancel]
        refine ok_cm (vs := [_, _, _, _, _, _, _, _]) rfl rfl rfl rfl (Nat.le_of_ble_eq_true rfl) (Nat.le_of_ble_eq_true rfl) (by show xcl0 2 8 _ _ = true; simp [xcl0, hI.1]) (by decide) hW (sp47 hW hI (by omega)) ?_
        rintro _ h132 ⟨⟨x136, rfl⟩, hI, z137, z138⟩ k133 al134
        dsimp only [Option.toList, List.cons_append, List.nil_append, Nat.reduceAdd]
        try dsimp only at z137 z138
        have hW := k133.1
        obtain ⟨B, hm⟩ := hm.kq k133 (by decide)
        iterate 6 (refine ok_st rfl rfl ?_; simp only [okS_some, xst, xp0, xp1, xp2, xp3, xp4, xp5, xload, xstore, xget_0, xget_s, xs_0, xs_1n, xs_1i, xs_1r, xs_1u, xs_1l, xs_s, xt_0, xt_1n, xt_1i, xt_1r, xt_1u, xt_1l, xt_s, xisref, xq0, Value.category, xcat, List.map_nil, List.map_cons, List.sum_nil, List.sum_cons, List.length_cons, List.length_nil, List.getElem?_cons_zero, List.getElem?_cons_succ, xmap_s, if_true, and_self, Nat.reduceAdd, Nat.reduceLT, Nat.reduceLeDiff, Nat.reduceEqDiff, Nat.lt_add_one, Nat.zero_le, Nat.le_refl, Nat.le_zero_eq, Nat.zero_lt_succ, xldc, kbm10, kbm9, kbm8, kbm7, kbm6, kbm5, kbm4, kbm3, kbm2, kb6, kb7, kb8, kb9, kb10, kb11, kb16, kb19, kb20, kb30, kb31, kb32, kb34, kb40, kb64, kb100, kb127, kim1, ki0, ki1, ki2, ki3, ki4, ki5, ks128, ks400, ks999, ks1000, ks4010])
        try simp (disch := omega) only [nx10, nx4, nx32, nxa0, nxa1, nxa2, nxa3, nxa4, nxa5, nxa6, nxa7, nxa8, nxa9, nxa10, nxs1, nxs10, nxss, nI_add, nI_clamp, mnar0, mnar1, Nat.add_sub_cancel]
        refine l_il rfl (nIn (by omega) (by omega)) ?_
        try dsimp only [Nat.reduceAdd]
        try simp (disch := omega) only [nx10, nx4, nx32, nxa0, nxa1, nxa2, nxa3, nxa4, nxa5, nxa6, nxa7, nxa8, nxa9, nxa10, nxs1, nxs10, nxss, nI_add, nI_clamp, mnar0, mnar1, Nat.add_sub_cancel]
        iterate 4 (refine ok_st rfl rfl ?_; simp only [okS_some, xst, xp0, xp1, xp2, xp3, xp4, xp5, xload, xstore, xget_0, xget_s, xs_0, xs_1n, xs_1i, xs_1r, xs_1u, xs_1l, xs_s, xt_0, xt_1n, xt_1i, xt_1r, xt_1u, xt_1l, xt_s, xisref, xq0, Value.category, xcat, List.map_nil, List.map_cons, List.sum_nil, List.sum_cons, List.length_cons, List.length_nil, List.getElem?_cons_zero, List.getElem?_cons_succ, xmap_s, if_true, and_self, Nat.reduceAdd, Nat.reduceLT, Nat.reduceLeDiff, Nat.reduceEqDiff, Nat.lt_add_one, Nat.zero_le, Nat.le_refl, Nat.le_zero_eq, Nat.zero_lt_succ, xldc, kbm10, kbm9, kbm8, kbm7, kbm6, kbm5, kbm4, kbm3, kbm2, kb6, kb7, kb8, kb9, kb10, kb11, kb16, kb19, kb20, kb30, kb31, kb32, kb34, kb40, kb64, kb100, kb127, kim1, ki0, ki1, ki2, ki3, ki4, ki5, ks128, ks400, ks999, ks1000, ks4010])
        try simp (disch := omega) only [nx10, nx4, nx32, nxa0, nxa1, nxa2, nxa3, nxa4, nxa5, nxa6, nxa7, nxa8, nxa9, nxa10, nxs1, nxs10, nxss, nI_add, nI_clamp, mnar0, mnar1, Nat.add_sub_cancel]
        refine l_il rfl (nIn (by omega) (by omega)) ?_
        try dsimp only [Nat.reduceAdd]
        try simp (disch := omega) only [nx10, nx4, nx32, nxa0, nxa1, nxa2, nxa3, nxa4, nxa5, nxa6, nxa7, nxa8, nxa9, nxa10, nxs1, nxs10, nxss, nI_add, nI_clamp, mnar0, mnar1, Nat.add_sub_cancel]
        iterate 4 (refine ok_st rfl rfl ?_; simp only [okS_some, xst, xp0, xp1, xp2, xp3, xp4, xp5, xload, xstore, xget_0, xget_s, xs_0, xs_1n, xs_1i, xs_1r, xs_1u, xs_1l, xs_s, xt_0, xt_1n, xt_1i, xt_1r, xt_1u, xt_1l, xt_s, xisref, xq0, Value.category, xcat, List.map_nil, List.map_cons, List.sum_nil, List.sum_cons, List.length_cons, List.length_nil, List.getElem?_cons_zero, List.getElem?_cons_succ, xmap_s, if_true, and_self, Nat.reduceAdd, Nat.reduceLT, Nat.reduceLeDiff, Nat.reduceEqDiff, Nat.lt_add_one, Nat.zero_le, Nat.le_refl, Nat.le_zero_eq, Nat.zero_lt_succ, xldc, kbm10, kbm9, kbm8, kbm7, kbm6, kbm5, kbm4, kbm3, kbm2, kb6, kb7, kb8, kb9, kb10, kb11, kb16, kb19, kb20, kb30, kb31, kb32, kb34, kb40, kb64, kb100, kb127, kim1, ki0, ki1, ki2, ki3, ki4, ki5, ks128, ks400, ks999, ks1000, ks4010])
        try simp (disch := omega) only [nx10, nx4, nx32, nxa0, nxa1, nxa2, nxa3, nxa4, nxa5, nxa6, nxa7, nxa8, nxa9, nxa10, nxs1, nxs10, nxss, nI_add, nI_clamp, mnar0, mnar1, Nat.add_sub_cancel]
        refine l_il rfl (nIn (by omega) (by omega)) ?_
        try dsimp only [Nat.reduceAdd]
        try simp (disch := omega) only [nx10, nx4, nx32, nxa0, nxa1, nxa2, nxa3, nxa4, nxa5, nxa6, nxa7, nxa8, nxa9, nxa10, nxs1, nxs10, nxss, nI_add, nI_clamp, mnar0, mnar1, Nat.add_sub_cancel]
        iterate 4 (refine ok_st rfl rfl ?_; simp only [okS_some, xst, xp0, xp1, xp2, xp3, xp4, xp5, xload, xstore, xget_0, xget_s, xs_0, xs_1n, xs_1i, xs_1r, xs_1u, xs_1l, xs_s, xt_0, xt_1n, xt_1i, xt_1r, xt_1u, xt_1l, xt_s, xisref, xq0, Value.category, xcat, List.map_nil, List.map_cons, List.sum_nil, List.sum_cons, List.length_cons, List.length_nil, List.getElem?_cons_zero, List.getElem?_cons_succ, xmap_s, if_true, and_self, Nat.reduceAdd, Nat.reduceLT, Nat.reduceLeDiff, Nat.reduceEqDiff, Nat.lt_add_one, Nat.zero_le, Nat.le_refl, Nat.le_zero_eq, Nat.zero_lt_succ, xldc, kbm10, kbm9, kbm8, kbm7, kbm6, kbm5, kbm4, kbm3, kbm2, kb6, kb7, kb8, kb9, kb10, kb11, kb16, kb19, kb20, kb30, kb31, kb32, kb34, kb40, kb64, kb100, kb127, kim1, ki0, ki1, ki2, ki3, ki4, ki5, ks128, ks400, ks999, ks1000, ks4010])
        try simp (disch := omega) only [nx10, nx4, nx32, nxa0, nxa1, nxa2, nxa3, nxa4, nxa5, nxa6, nxa7, nxa8, nxa9, nxa10, nxs1, nxs10, nxss, nI_add, nI_clamp, mnar0, mnar1, Nat.add_sub_cancel]
        refine l_il rfl (nIn (by omega) (by omega)) ?_
        try dsimp only [Nat.reduceAdd]
        try simp (disch := omega) only [nx10, nx4, nx32, nxa0, nxa1, nxa2, nxa3, nxa4, nxa5, nxa6, nxa7, nxa8, nxa9, nxa10, nxs1, nxs10, nxss, nI_add, nI_clamp, mnar0, mnar1, Nat.add_sub_cancel]
        iterate 4 (refine ok_st rfl rfl ?_; simp only [okS_some, xst, xp0, xp1, xp2, xp3, xp4, xp5, xload, xstore, xget_0, xget_s, xs_0, xs_1n, xs_1i, xs_1r, xs_1u, xs_1l, xs_s, xt_0, xt_1n, xt_1i, xt_1r, xt_1u, xt_1l, xt_s, xisref, xq0, Value.category, xcat, List.map_nil, List.map_cons, List.sum_nil, List.sum_cons, List.length_cons, List.length_nil, List.getElem?_cons_zero, List.getElem?_cons_succ, xmap_s, if_true, and_self, Nat.reduceAdd, Nat.reduceLT, Nat.reduceLeDiff, Nat.reduceEqDiff, Nat.lt_add_one, Nat.zero_le, Nat.le_refl, Nat.le_zero_eq, Nat.zero_lt_succ, xldc, kbm10, kbm9, kbm8, kbm7, kbm6, kbm5, kbm4, kbm3, kbm2, kb6, kb7, kb8, kb9, kb10, kb11, kb16, kb19, kb20, kb30, kb31, kb32, kb34, kb40, kb64, kb100, kb127, kim1, ki0, ki1, ki2, ki3, ki4, ki5, ks128, ks400, ks999, ks1000, ks4010])
        try simp (disch := omega) only [nx10, nx4, nx32, nxa0, nxa1, nxa2, nxa3, nxa4, nxa5, nxa6, nxa7, nxa8, nxa9, nxa10, nxs1, nxs10, nxss, nI_add, nI_clamp, mnar0, mnar1, Nat.add_sub_cancel]
        refine l_il rfl (nIn (by omega) (by omega)) ?_
        try dsimp only [Nat.reduceAdd]
        try simp (disch := omega) only [nx10, nx4, nx32, nxa0, nxa1, nxa2, nxa3, nxa4, nxa5, nxa6, nxa7, nxa8, nxa9, nxa10, nxs1, nxs10, nxss, nI_add, nI_clamp, mnar0, mnar1, Nat.add_sub_cancel]
        iterate 4 (refine ok_st rfl rfl ?_; simp only [okS_some, xst, xp0, xp1, xp2, xp3, xp4, xp5, xload, xstore, xget_0, xget_s, xs_0, xs_1n, xs_1i, xs_1r, xs_1u, xs_1l, xs_s, xt_0, xt_1n, xt_1i, xt_1r, xt_1u, xt_1l, xt_s, xisref, xq0, Value.category, xcat, List.map_nil, List.map_cons, List.sum_nil, List.sum_cons, List.length_cons, List.length_nil, List.getElem?_cons_zero, List.getElem?_cons_succ, xmap_s, if_true, and_self, Nat.reduceAdd, Nat.reduceLT, Nat.reduceLeDiff, Nat.reduceEqDiff, Nat.lt_add_one, Nat.zero_le, Nat.le_refl, Nat.le_zero_eq, Nat.zero_lt_succ, xldc, kbm10, kbm9, kbm8, kbm7, kbm6, kbm5, kbm4, kbm3, kbm2, kb6, kb7, kb8, kb9, kb10, kb11, kb16, kb19, kb20, kb30, kb31, kb32, kb34, kb40, kb64, kb100, kb127, kim1, ki0, ki1, ki2, ki3, ki4, ki5, ks128, ks400, ks999, ks1000, ks4010])
        try simp (disch := omega) only [nx10, nx4, nx32, nxa0, nxa1, nxa2, nxa3, nxa4, nxa5, nxa6, nxa7, nxa8, nxa9, nxa10, nxs1, nxs10, nxss, nI_add, nI_clamp, mnar0, mnar1, Nat.add_sub_cancel]
        refine l_il rfl (nIn (by omega) (by omega)) ?_
        try dsimp only [Nat.reduceAdd]
        try simp (disch := omega) only [nx10, nx4, nx32, nxa0, nxa1, nxa2, nxa3, nxa4, nxa5, nxa6, nxa7, nxa8, nxa9, nxa10, nxs1, nxs10, nxss, nI_add, nI_clamp, mnar0, mnar1, Nat.add_sub_cancel]
        iterate 4 (refine ok_st rfl rfl ?_; simp only [okS_some, xst, xp0, xp1, xp2, xp3, xp4, xp5, xload, xstore, xget_0, xget_s, xs_0, xs_1n, xs_1i, xs_1r, xs_1u, xs_1l, xs_s, xt_0, xt_1n, xt_1i, xt_1r, xt_1u, xt_1l, xt_s, xisref, xq0, Value.category, xcat, List.map_nil, List.map_cons, List.sum_nil, List.sum_cons, List.length_cons, List.length_nil, List.getElem?_cons_zero, List.getElem?_cons_succ, xmap_s, if_true, and_self, Nat.reduceAdd, Nat.reduceLT, Nat.reduceLeDiff, Nat.reduceEqDiff, Nat.lt_add_one, Nat.zero_le, Nat.le_refl, Nat.le_zero_eq, Nat.zero_lt_succ, xldc, kbm10, kbm9, kbm8, kbm7, kbm6, kbm5, kbm4, kbm3, kbm2, kb6, kb7, kb8, kb9, kb10, kb11, kb16, kb19, kb20, kb30, kb31, kb32, kb34, kb40, kb64, kb100, kb127, kim1, ki0, ki1, ki2, ki3, ki4, ki5, ks128, ks400, ks999, ks1000, ks4010])
        try simp (disch := omega) only [nx10, nx4, nx32, nxa0, nxa1, nxa2, nxa3, nxa4, nxa5, nxa6, nxa7, nxa8, nxa9, nxa10, nxs1, nxs10, nxss, nI_add, nI_clamp, mnar0, mnar1, Nat.add_sub_cancel]
        refine l_il rfl (nIn (by omega) (by omega)) ?_
        try dsimp only [Nat.reduceAdd]
        try simp (disch := omega) only [nx10, nx4, nx32, nxa0, nxa1, nxa2, nxa3, nxa4, nxa5, nxa6, nxa7, nxa8, nxa9, nxa10, nxs1, nxs10, nxss, nI_add, nI_clamp, mnar0, mnar1, Nat.add_sub_cancel]
        refine ok_cm (vs := [_, _, _, _, _, _, _, _]) rfl rfl rfl rfl (Nat.le_of_ble_eq_true rfl) (Nat.le_of_ble_eq_true rfl) (by show xcl0 2 9 _ _ = true; simp [xcl0, hm.1]) (by decide) hW (sp98 hW hm hj) ?_
        rintro _ h140 ⟨⟨x144, rfl⟩, S1, A1, B1, M1, hm, hj, hs⟩ k141 al142
        dsimp only [Option.toList, List.cons_append, List.nil_append, Nat.reduceAdd]
        have hW := k141.1
        have z145 := al142 rfl
        try dsimp only at z145
        have hI := hI.kp k141 (by decide)
        have hS2 := hs.trans hS2
        iterate 3 (refine ok_st rfl rfl ?_; simp only [okS_some, xst, xp0, xp1, xp2, xp3, xp4, xp5, xload, xstore, xget_0, xget_s, xs_0, xs_1n, xs_1i, xs_1r, xs_1u, xs_1l, xs_s, xt_0, xt_1n, xt_1i, xt_1r, xt_1u, xt_1l, xt_s, xisref, xq0, Value.category, xcat, List.map_nil, List.map_cons, List.sum_nil, List.sum_cons, List.length_cons, List.length_nil, List.getElem?_cons_zero, List.getElem?_cons_succ, xmap_s, if_true, and_self, Nat.reduceAdd, Nat.reduceLT, Nat.reduceLeDiff, Nat.reduceEqDiff, Nat.lt_add_one, Nat.zero_le, Nat.le_refl, Nat.le_zero_eq, Nat.zero_lt_succ, xldc, kbm10, kbm9, kbm8, kbm7, kbm6, kbm5, kbm4, kbm3, kbm2, kb6, kb7, kb8, kb9, kb10, kb11, kb16, kb19, kb20, kb30, kb31, kb32, kb34, kb40, kb64, kb100, kb127, kim1, ki0, ki1, ki2, ki3, ki4, ki5, ks128, ks400, ks999, ks1000, ks4010])
        try simp (disch := omega) only [nx10, nx4, nx32, nxa0, nxa1, nxa2, nxa3, nxa4, nxa5, nxa6, nxa7, nxa8, nxa9, nxa10, nxs1, nxs10, nxss, nI_add, nI_clamp, mnar0, mnar1, Nat.add_sub_cancel]
        refine ok_st rfl rfl ?_
        simp only [okS_some, xst, xp0, xp1, xp2, xp3, xp4, xp5, xload, xstore, xget_0, xget_s, xs_0, xs_1n, xs_1i, xs_1r, xs_1u, xs_1l, xs_s, xt_0, xt_1n, xt_1i, xt_1r, xt_1u, xt_1l, xt_s, xisref, xq0, Value.category, xcat, List.map_nil, List.map_cons, List.sum_nil, List.sum_cons, List.length_cons, List.length_nil, List.getElem?_cons_zero, List.getElem?_cons_succ, xmap_s, if_true, and_self, Nat.reduceAdd, Nat.reduceLT, Nat.reduceLeDiff, Nat.reduceEqDiff, Nat.lt_add_one, Nat.zero_le, Nat.le_refl, Nat.le_zero_eq, Nat.zero_lt_succ, xldc, kbm10, kbm9, kbm8, kbm7, kbm6, kbm5, kbm4, kbm3, kbm2, kb6, kb7, kb8, kb9, kb10, kb11, kb16, kb19, kb20, kb30, kb31, kb32, kb34, kb40, kb64, kb100, kb127, kim1, ki0, ki1, ki2, ki3, ki4, ki5, ks128, ks400, ks999, ks1000, ks4010]
        rw [show nI (8 * i) + Int32.ofInt 8 = nI (8 * (i + 1)) from nI_add (8 * i) 8]
        exact ih (i := i + 1) hW ⟨_, _, _, _, _, _, _, _, _, hI.up (by omega), hm, hj, hS2, by omega, by omega⟩ (by omega) (by omega)
      · skip
        iterate 5 (refine ok_st rfl rfl ?_; simp only [okS_some, xst, xp0, xp1, xp2, xp3, xp4, xp5, xload, xstore, xget_0, xget_s, xs_0, xs_1n, xs_1i, xs_1r, xs_1u, xs_1l, xs_s, xt_0, xt_1n, xt_1i, xt_1r, xt_1u, xt_1l, xt_s, xisref, xq0, Value.category, xcat, List.map_nil, List.map_cons, List.sum_nil, List.sum_cons, List.length_cons, List.length_nil, List.getElem?_cons_zero, List.getElem?_cons_succ, xmap_s, if_true, and_self, Nat.reduceAdd, Nat.reduceLT, Nat.reduceLeDiff, Nat.reduceEqDiff, Nat.lt_add_one, Nat.zero_le, Nat.le_refl, Nat.le_zero_eq, Nat.zero_lt_succ, xldc, kbm10, kbm9, kbm8, kbm7, kbm6, kbm5, kbm4, kbm3, kbm2, kb6, kb7, kb8, kb9, kb10, kb11, kb16, kb19, kb20, kb30, kb31, kb32, kb34, kb40, kb64, kb100, kb127, kim1, ki0, ki1, ki2, ki3, ki4, ki5, ks128, ks400, ks999, ks1000, ks4010])
        try simp (disch := omega) only [nx10, nx4, nx32, nxa0, nxa1, nxa2, nxa3, nxa4, nxa5, nxa6, nxa7, nxa8, nxa9, nxa10, nxs1, nxs10, nxss, nI_add, nI_clamp, mnar0, mnar1, Nat.add_sub_cancel]
        refine l_il rfl (nIn (by omega) (by omega)) ?_
        try dsimp only [Nat.reduceAdd]
        try simp (disch := omega) only [nx10, nx4, nx32, nxa0, nxa1, nxa2, nxa3, nxa4, nxa5, nxa6, nxa7, nxa8, nxa9, nxa10, nxs1, nxs10, nxss, nI_add, nI_clamp, mnar0, mnar1, Nat.add_sub_cancel]
        iterate 4 (refine ok_st rfl rfl ?_; simp only [okS_some, xst, xp0, xp1, xp2, xp3, xp4, xp5, xload, xstore, xget_0, xget_s, xs_0, xs_1n, xs_1i, xs_1r, xs_1u, xs_1l, xs_s, xt_0, xt_1n, xt_1i, xt_1r, xt_1u, xt_1l, xt_s, xisref, xq0, Value.category, xcat, List.map_nil, List.map_cons, List.sum_nil, List.sum_cons, List.length_cons, List.length_nil, List.getElem?_cons_zero, List.getElem?_cons_succ, xmap_s, if_true, and_self, Nat.reduceAdd, Nat.reduceLT, Nat.reduceLeDiff, Nat.reduceEqDiff, Nat.lt_add_one, Nat.zero_le, Nat.le_refl, Nat.le_zero_eq, Nat.zero_lt_succ, xldc, kbm10, kbm9, kbm8, kbm7, kbm6, kbm5, kbm4, kbm3, kbm2, kb6, kb7, kb8, kb9, kb10, kb11, kb16, kb19, kb20, kb30, kb31, kb32, kb34, kb40, kb64, kb100, kb127, kim1, ki0, ki1, ki2, ki3, ki4, ki5, ks128, ks400, ks999, ks1000, ks4010])
        try simp (disch := omega) only [nx10, nx4, nx32, nxa0, nxa1, nxa2, nxa3, nxa4, nxa5, nxa6, nxa7, nxa8, nxa9, nxa10, nxs1, nxs10, nxss, nI_add, nI_clamp, mnar0, mnar1, Nat.add_sub_cancel]
        refine l_il rfl (nIn (by omega) (by omega)) ?_
        try dsimp only [Nat.reduceAdd]
        try simp (disch := omega) only [nx10, nx4, nx32, nxa0, nxa1, nxa2, nxa3, nxa4, nxa5, nxa6, nxa7, nxa8, nxa9, nxa10, nxs1, nxs10, nxss, nI_add, nI_clamp, mnar0, mnar1, Nat.add_sub_cancel]
        iterate 4 (refine ok_st rfl rfl ?_; simp only [okS_some, xst, xp0, xp1, xp2, xp3, xp4, xp5, xload, xstore, xget_0, xget_s, xs_0, xs_1n, xs_1i, xs_1r, xs_1u, xs_1l, xs_s, xt_0, xt_1n, xt_1i, xt_1r, xt_1u, xt_1l, xt_s, xisref, xq0, Value.category, xcat, List.map_nil, List.map_cons, List.sum_nil, List.sum_cons, List.length_cons, List.length_nil, List.getElem?_cons_zero, List.getElem?_cons_succ, xmap_s, if_true, and_self, Nat.reduceAdd, Nat.reduceLT, Nat.reduceLeDiff, Nat.reduceEqDiff, Nat.lt_add_one, Nat.zero_le, Nat.le_refl, Nat.le_zero_eq, Nat.zero_lt_succ, xldc, kbm10, kbm9, kbm8, kbm7, kbm6, kbm5, kbm4, kbm3, kbm2, kb6, kb7, kb8, kb9, kb10, kb11, kb16, kb19, kb20, kb30, kb31, kb32, kb34, kb40, kb64, kb100, kb127, kim1, ki0, ki1, ki2, ki3, ki4, ki5, ks128, ks400, ks999, ks1000, ks4010])
        try simp (disch := omega) only [nx10, nx4, nx32, nxa0, nxa1, nxa2, nxa3, nxa4, nxa5, nxa6, nxa7, nxa8, nxa9, nxa10, nxs1, nxs10, nxss, nI_add, nI_clamp, mnar0, mnar1, Nat.add_sub_cancel]
        refine l_il rfl (nIn (by omega) (by omega)) ?_
        try dsimp only [Nat.reduceAdd]
        try simp (disch := omega) only [nx10, nx4, nx32, nxa0, nxa1, nxa2, nxa3, nxa4, nxa5, nxa6, nxa7, nxa8, nxa9, nxa10, nxs1, nxs10, nxss, nI_add, nI_clamp, mnar0, mnar1, Nat.add_sub_cancel]
        refine ok_cm (vs := [_, _, _, _]) rfl rfl rfl rfl (Nat.le_of_ble_eq_true rfl) (Nat.le_of_ble_eq_true rfl) (by show xcl0 2 8 _ _ = true; simp [xcl0, hI.1]) (by decide) hW (sp48 hW hI (by omega)) ?_
        rintro _ h146 ⟨⟨x150, rfl⟩, hI, z151, z152⟩ k147 al148
        dsimp only [Option.toList, List.cons_append, List.nil_append, Nat.reduceAdd]
        try dsimp only at z151 z152
        have hW := k147.1
        obtain ⟨B, hm⟩ := hm.kq k147 (by decide)
        iterate 6 (refine ok_st rfl rfl ?_; simp only [okS_some, xst, xp0, xp1, xp2, xp3, xp4, xp5, xload, xstore, xget_0, xget_s, xs_0, xs_1n, xs_1i, xs_1r, xs_1u, xs_1l, xs_s, xt_0, xt_1n, xt_1i, xt_1r, xt_1u, xt_1l, xt_s, xisref, xq0, Value.category, xcat, List.map_nil, List.map_cons, List.sum_nil, List.sum_cons, List.length_cons, List.length_nil, List.getElem?_cons_zero, List.getElem?_cons_succ, xmap_s, if_true, and_self, Nat.reduceAdd, Nat.reduceLT, Nat.reduceLeDiff, Nat.reduceEqDiff, Nat.lt_add_one, Nat.zero_le, Nat.le_refl, Nat.le_zero_eq, Nat.zero_lt_succ, xldc, kbm10, kbm9, kbm8, kbm7, kbm6, kbm5, kbm4, kbm3, kbm2, kb6, kb7, kb8, kb9, kb10, kb11, kb16, kb19, kb20, kb30, kb31, kb32, kb34, kb40, kb64, kb100, kb127, kim1, ki0, ki1, ki2, ki3, ki4, ki5, ks128, ks400, ks999, ks1000, ks4010])
        try simp (disch := omega) only [nx10, nx4, nx32, nxa0, nxa1, nxa2, nxa3, nxa4, nxa5, nxa6, nxa7, nxa8, nxa9, nxa10, nxs1, nxs10, nxss, nI_add, nI_clamp, mnar0, mnar1, Nat.add_sub_cancel]
        refine l_il rfl (nIn (by omega) (by omega)) ?_
        try dsimp only [Nat.reduceAdd]
        try simp (disch := omega) only [nx10, nx4, nx32, nxa0, nxa1, nxa2, nxa3, nxa4, nxa5, nxa6, nxa7, nxa8, nxa9, nxa10, nxs1, nxs10, nxss, nI_add, nI_clamp, mnar0, mnar1, Nat.add_sub_cancel]
        iterate 4 (refine ok_st rfl rfl ?_; simp only [okS_some, xst, xp0, xp1, xp2, xp3, xp4, xp5, xload, xstore, xget_0, xget_s, xs_0, xs_1n, xs_1i, xs_1r, xs_1u, xs_1l, xs_s, xt_0, xt_1n, xt_1i, xt_1r, xt_1u, xt_1l, xt_s, xisref, xq0, Value.category, xcat, List.map_nil, List.map_cons, List.sum_nil, List.sum_cons, List.length_cons, List.length_nil, List.getElem?_cons_zero, List.getElem?_cons_succ, xmap_s, if_true, and_self, Nat.reduceAdd, Nat.reduceLT, Nat.reduceLeDiff, Nat.reduceEqDiff, Nat.lt_add_one, Nat.zero_le, Nat.le_refl, Nat.le_zero_eq, Nat.zero_lt_succ, xldc, kbm10, kbm9, kbm8, kbm7, kbm6, kbm5, kbm4, kbm3, kbm2, kb6, kb7, kb8, kb9, kb10, kb11, kb16, kb19, kb20, kb30, kb31, kb32, kb34, kb40, kb64, kb100, kb127, kim1, ki0, ki1, ki2, ki3, ki4, ki5, ks128, ks400, ks999, ks1000, ks4010])
        try simp (disch := omega) only [nx10, nx4, nx32, nxa0, nxa1, nxa2, nxa3, nxa4, nxa5, nxa6, nxa7, nxa8, nxa9, nxa10, nxs1, nxs10, nxss, nI_add, nI_clamp, mnar0, mnar1, Nat.add_sub_cancel]
        refine l_il rfl (nIn (by omega) (by omega)) ?_
        try dsimp only [Nat.reduceAdd]
        try simp (disch := omega) only [nx10, nx4, nx32, nxa0, nxa1, nxa2, nxa3, nxa4, nxa5, nxa6, nxa7, nxa8, nxa9, nxa10, nxs1, nxs10, nxss, nI_add, nI_clamp, mnar0, mnar1, Nat.add_sub_cancel]
        iterate 4 (refine ok_st rfl rfl ?_; simp only [okS_some, xst, xp0, xp1, xp2, xp3, xp4, xp5, xload, xstore, xget_0, xget_s, xs_0, xs_1n, xs_1i, xs_1r, xs_1u, xs_1l, xs_s, xt_0, xt_1n, xt_1i, xt_1r, xt_1u, xt_1l, xt_s, xisref, xq0, Value.category, xcat, List.map_nil, List.map_cons, List.sum_nil, List.sum_cons, List.length_cons, List.length_nil, List.getElem?_cons_zero, List.getElem?_cons_succ, xmap_s, if_true, and_self, Nat.reduceAdd, Nat.reduceLT, Nat.reduceLeDiff, Nat.reduceEqDiff, Nat.lt_add_one, Nat.zero_le, Nat.le_refl, Nat.le_zero_eq, Nat.zero_lt_succ, xldc, kbm10, kbm9, kbm8, kbm7, kbm6, kbm5, kbm4, kbm3, kbm2, kb6, kb7, kb8, kb9, kb10, kb11, kb16, kb19, kb20, kb30, kb31, kb32, kb34, kb40, kb64, kb100, kb127, kim1, ki0, ki1, ki2, ki3, ki4, ki5, ks128, ks400, ks999, ks1000, ks4010])
        try simp (disch := omega) only [nx10, nx4, nx32, nxa0, nxa1, nxa2, nxa3, nxa4, nxa5, nxa6, nxa7, nxa8, nxa9, nxa10, nxs1, nxs10, nxss, nI_add, nI_clamp, mnar0, mnar1, Nat.add_sub_cancel]
        refine l_il rfl (nIn (by omega) (by omega)) ?_
        try dsimp only [Nat.reduceAdd]
        try simp (disch := omega) only [nx10, nx4, nx32, nxa0, nxa1, nxa2, nxa3, nxa4, nxa5, nxa6, nxa7, nxa8, nxa9, nxa10, nxs1, nxs10, nxss, nI_add, nI_clamp, mnar0, mnar1, Nat.add_sub_cancel]
        refine ok_cm (vs := [_, _, _, _]) rfl rfl rfl rfl (Nat.le_of_ble_eq_true rfl) (Nat.le_of_ble_eq_true rfl) (by show xcl0 2 9 _ _ = true; simp [xcl0, hm.1]) (by decide) hW (sp99 hW hm hj) ?_
        rintro _ h154 ⟨⟨x158, rfl⟩, S1, A1, B1, M1, hm, hj, hs⟩ k155 al156
        dsimp only [Option.toList, List.cons_append, List.nil_append, Nat.reduceAdd]
        have hW := k155.1
        have z159 := al156 rfl
        try dsimp only at z159
        have hI := hI.kp k155 (by decide)
        have hS2 := hs.trans hS2
        iterate 3 (refine ok_st rfl rfl ?_; simp only [okS_some, xst, xp0, xp1, xp2, xp3, xp4, xp5, xload, xstore, xget_0, xget_s, xs_0, xs_1n, xs_1i, xs_1r, xs_1u, xs_1l, xs_s, xt_0, xt_1n, xt_1i, xt_1r, xt_1u, xt_1l, xt_s, xisref, xq0, Value.category, xcat, List.map_nil, List.map_cons, List.sum_nil, List.sum_cons, List.length_cons, List.length_nil, List.getElem?_cons_zero, List.getElem?_cons_succ, xmap_s, if_true, and_self, Nat.reduceAdd, Nat.reduceLT, Nat.reduceLeDiff, Nat.reduceEqDiff, Nat.lt_add_one, Nat.zero_le, Nat.le_refl, Nat.le_zero_eq, Nat.zero_lt_succ, xldc, kbm10, kbm9, kbm8, kbm7, kbm6, kbm5, kbm4, kbm3, kbm2, kb6, kb7, kb8, kb9, kb10, kb11, kb16, kb19, kb20, kb30, kb31, kb32, kb34, kb40, kb64, kb100, kb127, kim1, ki0, ki1, ki2, ki3, ki4, ki5, ks128, ks400, ks999, ks1000, ks4010])
        try simp (disch := omega) only [nx10, nx4, nx32, nxa0, nxa1, nxa2, nxa3, nxa4, nxa5, nxa6, nxa7, nxa8, nxa9, nxa10, nxs1, nxs10, nxss, nI_add, nI_clamp, mnar0, mnar1, Nat.add_sub_cancel]
        refine ok_st rfl rfl ?_
        simp only [okS_some, xst, xp0, xp1, xp2, xp3, xp4, xp5, xload, xstore, xget_0, xget_s, xs_0, xs_1n, xs_1i, xs_1r, xs_1u, xs_1l, xs_s, xt_0, xt_1n, xt_1i, xt_1r, xt_1u, xt_1l, xt_s, xisref, xq0, Value.category, xcat, List.map_nil, List.map_cons, List.sum_nil, List.sum_cons, List.length_cons, List.length_nil, List.getElem?_cons_zero, List.getElem?_cons_succ, xmap_s, if_true, and_self, Nat.reduceAdd, Nat.reduceLT, Nat.reduceLeDiff, Nat.reduceEqDiff, Nat.lt_add_one, Nat.zero_le, Nat.le_refl, Nat.le_zero_eq, Nat.zero_lt_succ, xldc, kbm10, kbm9, kbm8, kbm7, kbm6, kbm5, kbm4, kbm3, kbm2, kb6, kb7, kb8, kb9, kb10, kb11, kb16, kb19, kb20, kb30, kb31, kb32, kb34, kb40, kb64, kb100, kb127, kim1, ki0, ki1, ki2, ki3, ki4, ki5, ks128, ks400, ks999, ks1000, ks4010]
        rw [show nI (8 * i) + Int32.ofInt 8 = nI (8 * (i + 1)) from nI_add (8 * i) 8]
        exact ih (i := i + 1) hW ⟨_, _, _, _, _, _, _, _, _, hI.up (by omega), hm, hj, hS2, by omega, by omega⟩ (by omega) (by omega)
      · skip
        iterate 5 (refine ok_st rfl rfl ?_; simp only [okS_some, xst, xp0, xp1, xp2, xp3, xp4, xp5, xload, xstore, xget_0, xget_s, xs_0, xs_1n, xs_1i, xs_1r, xs_1u, xs_1l, xs_s, xt_0, xt_1n, xt_1i, xt_1r, xt_1u, xt_1l, xt_s, xisref, xq0, Value.category, xcat, List.map_nil, List.map_cons, List.sum_nil, List.sum_cons, List.length_cons, List.length_nil, List.getElem?_cons_zero, List.getElem?_cons_succ, xmap_s, if_true, and_self, Nat.reduceAdd, Nat.reduceLT, Nat.reduceLeDiff, Nat.reduceEqDiff, Nat.lt_add_one, Nat.zero_le, Nat.le_refl, Nat.le_zero_eq, Nat.zero_lt_succ, xldc, kbm10, kbm9, kbm8, kbm7, kbm6, kbm5, kbm4, kbm3, kbm2, kb6, kb7, kb8, kb9, kb10, kb11, kb16, kb19, kb20, kb30, kb31, kb32, kb34, kb40, kb64, kb100, kb127, kim1, ki0, ki1, ki2, ki3, ki4, ki5, ks128, ks400, ks999, ks1000, ks4010])
        try simp (disch := omega) only [nx10, nx4, nx32, nxa0, nxa1, nxa2, nxa3, nxa4, nxa5, nxa6, nxa7, nxa8, nxa9, nxa10, nxs1, nxs10, nxss, nI_add, nI_clamp, mnar0, mnar1, Nat.add_sub_cancel]
        refine l_il rfl (nIn (by omega) (by omega)) ?_
        try dsimp only [Nat.reduceAdd]
        try simp (disch := omega) only [nx10, nx4, nx32, nxa0, nxa1, nxa2, nxa3, nxa4, nxa5, nxa6, nxa7, nxa8, nxa9, nxa10, nxs1, nxs10, nxss, nI_add, nI_clamp, mnar0, mnar1, Nat.add_sub_cancel]
        iterate 4 (refine ok_st rfl rfl ?_; simp only [okS_some, xst, xp0, xp1, xp2, xp3, xp4, xp5, xload, xstore, xget_0, xget_s, xs_0, xs_1n, xs_1i, xs_1r, xs_1u, xs_1l, xs_s, xt_0, xt_1n, xt_1i, xt_1r, xt_1u, xt_1l, xt_s, xisref, xq0, Value.category, xcat, List.map_nil, List.map_cons, List.sum_nil, List.sum_cons, List.length_cons, List.length_nil, List.getElem?_cons_zero, List.getElem?_cons_succ, xmap_s, if_true, and_self, Nat.reduceAdd, Nat.reduceLT, Nat.reduceLeDiff, Nat.reduceEqDiff, Nat.lt_add_one, Nat.zero_le, Nat.le_refl, Nat.le_zero_eq, Nat.zero_lt_succ, xldc, kbm10, kbm9, kbm8, kbm7, kbm6, kbm5, kbm4, kbm3, kbm2, kb6, kb7, kb8, kb9, kb10, kb11, kb16, kb19, kb20, kb30, kb31, kb32, kb34, kb40, kb64, kb100, kb127, kim1, ki0, ki1, ki2, ki3, ki4, ki5, ks128, ks400, ks999, ks1000, ks4010])
        try simp (disch := omega) only [nx10, nx4, nx32, nxa0, nxa1, nxa2, nxa3, nxa4, nxa5, nxa6, nxa7, nxa8, nxa9, nxa10, nxs1, nxs10, nxss, nI_add, nI_clamp, mnar0, mnar1, Nat.add_sub_cancel]
        refine l_il rfl (nIn (by omega) (by omega)) ?_
        try dsimp only [Nat.reduceAdd]
        try simp (disch := omega) only [nx10, nx4, nx32, nxa0, nxa1, nxa2, nxa3, nxa4, nxa5, nxa6, nxa7, nxa8, nxa9, nxa10, nxs1, nxs10, nxss, nI_add, nI_clamp, mnar0, mnar1, Nat.add_sub_cancel]
        refine ok_cm (vs := [_, _, _]) rfl rfl rfl rfl (Nat.le_of_ble_eq_true rfl) (Nat.le_of_ble_eq_true rfl) (by show xcl0 2 8 _ _ = true; simp [xcl0, hI.1]) (by decide) hW (sp49 hW hI) ?_
        rintro _ h160 ⟨x164, rfl⟩ k161 al162
        dsimp only [Option.toList, List.cons_append, List.nil_append, Nat.reduceAdd]
        have hW := k161.1
        have z167 := al162 rfl
        try dsimp only at z167
        obtain ⟨B, hm⟩ := hm.kq k161 (by decide)
        have hI := hI.kp k161 (by decide)
        iterate 6 (refine ok_st rfl rfl ?_; simp only [okS_some, xst, xp0, xp1, xp2, xp3, xp4, xp5, xload, xstore, xget_0, xget_s, xs_0, xs_1n, xs_1i, xs_1r, xs_1u, xs_1l, xs_s, xt_0, xt_1n, xt_1i, xt_1r, xt_1u, xt_1l, xt_s, xisref, xq0, Value.category, xcat, List.map_nil, List.map_cons, List.sum_nil, List.sum_cons, List.length_cons, List.length_nil, List.getElem?_cons_zero, List.getElem?_cons_succ, xmap_s, if_true, and_self, Nat.reduceAdd, Nat.reduceLT, Nat.reduceLeDiff, Nat.reduceEqDiff, Nat.lt_add_one, Nat.zero_le, Nat.le_refl, Nat.le_zero_eq, Nat.zero_lt_succ, xldc, kbm10, kbm9, kbm8, kbm7, kbm6, kbm5, kbm4, kbm3, kbm2, kb6, kb7, kb8, kb9, kb10, kb11, kb16, kb19, kb20, kb30, kb31, kb32, kb34, kb40, kb64, kb100, kb127, kim1, ki0, ki1, ki2, ki3, ki4, ki5, ks128, ks400, ks999, ks1000, ks4010])
        try simp (disch := omega) only [nx10, nx4, nx32, nxa0, nxa1, nxa2, nxa3, nxa4, nxa5, nxa6, nxa7, nxa8, nxa9, nxa10, nxs1, nxs10, nxss, nI_add, nI_clamp, mnar0, mnar1, Nat.add_sub_cancel]
        refine l_il rfl (nIn (by omega) (by omega)) ?_
        try dsimp only [Nat.reduceAdd]
        try simp (disch := omega) only [nx10, nx4, nx32, nxa0, nxa1, nxa2, nxa3, nxa4, nxa5, nxa6, nxa7, nxa8, nxa9, nxa10, nxs1, nxs10, nxss, nI_add, nI_clamp, mnar0, mnar1, Nat.add_sub_cancel]
        iterate 4 (refine ok_st rfl rfl ?_; simp only [okS_some, xst, xp0, xp1, xp2, xp3, xp4, xp5, xload, xstore, xget_0, xget_s, xs_0, xs_1n, xs_1i, xs_1r, xs_1u, xs_1l, xs_s, xt_0, xt_1n, xt_1i, xt_1r, xt_1u, xt_1l, xt_s, xisref, xq0, Value.category, xcat, List.map_nil, List.map_cons, List.sum_nil, List.sum_cons, List.length_cons, List.length_nil, List.getElem?_cons_zero, List.getElem?_cons_succ, xmap_s, if_true, and_self, Nat.reduceAdd, Nat.reduceLT, Nat.reduceLeDiff, Nat.reduceEqDiff, Nat.lt_add_one, Nat.zero_le, Nat.le_refl, Nat.le_zero_eq, Nat.zero_lt_succ, xldc, kbm10, kbm9, kbm8, kbm7, kbm6, kbm5, kbm4, kbm3, kbm2, kb6, kb7, kb8, kb9, kb10, kb11, kb16, kb19, kb20, kb30, kb31, kb32, kb34, kb40, kb64, kb100, kb127, kim1, ki0, ki1, ki2, ki3, ki4, ki5, ks128, ks400, ks999, ks1000, ks4010])
        try simp (disch := omega) only [nx10, nx4, nx32, nxa0, nxa1, nxa2, nxa3, nxa4, nxa5, nxa6, nxa7, nxa8, nxa9, nxa10, nxs1, nxs10, nxss, nI_add, nI_clamp, mnar0, mnar1, Nat.add_sub_cancel]
        refine l_il rfl (nIn (by omega) (by omega)) ?_
        try dsimp only [Nat.reduceAdd]
        try simp (disch := omega) only [nx10, nx4, nx32, nxa0, nxa1, nxa2, nxa3, nxa4, nxa5, nxa6, nxa7, nxa8, nxa9, nxa10, nxs1, nxs10, nxss, nI_add, nI_clamp, mnar0, mnar1, Nat.add_sub_cancel]
        refine ok_cm (vs := [_, _, _]) rfl rfl rfl rfl (Nat.le_of_ble_eq_true rfl) (Nat.le_of_ble_eq_true rfl) (by show xcl0 2 9 _ _ = true; simp [xcl0, hm.1]) (by decide) hW (sp101 hW hm hj) ?_
        rintro _ h168 ⟨⟨x172, rfl⟩, S1, A1, B1, M1, hm, hj, hs⟩ k169 al170
        dsimp only [Option.toList, List.cons_append, List.nil_append, Nat.reduceAdd]
        have hW := k169.1
        have z173 := al170 rfl
        try dsimp only at z173
        have hI := hI.kp k169 (by decide)
        have hS2 := hs.trans hS2
        iterate 3 (refine ok_st rfl rfl ?_; simp only [okS_some, xst, xp0, xp1, xp2, xp3, xp4, xp5, xload, xstore, xget_0, xget_s, xs_0, xs_1n, xs_1i, xs_1r, xs_1u, xs_1l, xs_s, xt_0, xt_1n, xt_1i, xt_1r, xt_1u, xt_1l, xt_s, xisref, xq0, Value.category, xcat, List.map_nil, List.map_cons, List.sum_nil, List.sum_cons, List.length_cons, List.length_nil, List.getElem?_cons_zero, List.getElem?_cons_succ, xmap_s, if_true, and_self, Nat.reduceAdd, Nat.reduceLT, Nat.reduceLeDiff, Nat.reduceEqDiff, Nat.lt_add_one, Nat.zero_le, Nat.le_refl, Nat.le_zero_eq, Nat.zero_lt_succ, xldc, kbm10, kbm9, kbm8, kbm7, kbm6, kbm5, kbm4, kbm3, kbm2, kb6, kb7, kb8, kb9, kb10, kb11, kb16, kb19, kb20, kb30, kb31, kb32, kb34, kb40, kb64, kb100, kb127, kim1, ki0, ki1, ki2, ki3, ki4, ki5, ks128, ks400, ks999, ks1000, ks4010])
        try simp (disch := omega) only [nx10, nx4, nx32, nxa0, nxa1, nxa2, nxa3, nxa4, nxa5, nxa6, nxa7, nxa8, nxa9, nxa10, nxs1, nxs10, nxss, nI_add, nI_clamp, mnar0, mnar1, Nat.add_sub_cancel]
        refine ok_st rfl rfl ?_
        simp only [okS_some, xst, xp0, xp1, xp2, xp3, xp4, xp5, xload, xstore, xget_0, xget_s, xs_0, xs_1n, xs_1i, xs_1r, xs_1u, xs_1l, xs_s, xt_0, xt_1n, xt_1i, xt_1r, xt_1u, xt_1l, xt_s, xisref, xq0, Value.category, xcat, List.map_nil, List.map_cons, List.sum_nil, List.sum_cons, List.length_cons, List.length_nil, List.getElem?_cons_zero, List.getElem?_cons_succ, xmap_s, if_true, and_self, Nat.reduceAdd, Nat.reduceLT, Nat.reduceLeDiff, Nat.reduceEqDiff, Nat.lt_add_one, Nat.zero_le, Nat.le_refl, Nat.le_zero_eq, Nat.zero_lt_succ, xldc, kbm10, kbm9, kbm8, kbm7, kbm6, kbm5, kbm4, kbm3, kbm2, kb6, kb7, kb8, kb9, kb10, kb11, kb16, kb19, kb20, kb30, kb31, kb32, kb34, kb40, kb64, kb100, kb127, kim1, ki0, ki1, ki2, ki3, ki4, ki5, ks128, ks400, ks999, ks1000, ks4010]
        rw [show nI (8 * i) + Int32.ofInt 8 = nI (8 * (i + 1)) from nI_add (8 * i) 8]
        exact ih (i := i + 1) hW ⟨_, _, _, _, _, _, _, _, _, hI.up (by omega), hm, hj, hS2, by omega, by omega⟩ (by omega) (by omega)
      · skip
        iterate 5 (refine ok_st rfl rfl ?_; simp only [okS_some, xst, xp0, xp1, xp2, xp3, xp4, xp5, xload, xstore, xget_0, xget_s, xs_0, xs_1n, xs_1i, xs_1r, xs_1u, xs_1l, xs_s, xt_0, xt_1n, xt_1i, xt_1r, xt_1u, xt_1l, xt_s, xisref, xq0, Value.category, xcat, List.map_nil, List.map_cons, List.sum_nil, List.sum_cons, List.length_cons, List.length_nil, List.getElem?_cons_zero, List.getElem?_cons_succ, xmap_s, if_true, and_self, Nat.reduceAdd, Nat.reduceLT, Nat.reduceLeDiff, Nat.reduceEqDiff, Nat.lt_add_one, Nat.zero_le, Nat.le_refl, Nat.le_zero_eq, Nat.zero_lt_succ, xldc, kbm10, kbm9, kbm8, kbm7, kbm6, kbm5, kbm4, kbm3, kbm2, kb6, kb7, kb8, kb9, kb10, kb11, kb16, kb19, kb20, kb30, kb31, kb32, kb34, kb40, kb64, kb100, kb127, kim1, ki0, ki1, ki2, ki3, ki4, ki5, ks128, ks400, ks999, ks1000, ks4010])
        try simp (disch := omega) only [nx10, nx4, nx32, nxa0, nxa1, nxa2, nxa3, nxa4, nxa5, nxa6, nxa7, nxa8, nxa9, nxa10, nxs1, nxs10, nxss, nI_add, nI_clamp, mnar0, mnar1, Nat.add_sub_cancel]
        refine l_il rfl (nIn (by omega) (by omega)) ?_
        try dsimp only [Nat.reduceAdd]
        try simp (disch := omega) only [nx10, nx4, nx32, nxa0, nxa1, nxa2, nxa3, nxa4, nxa5, nxa6, nxa7, nxa8, nxa9, nxa10, nxs1, nxs10, nxss, nI_add, nI_clamp, mnar0, mnar1, Nat.add_sub_cancel]
        iterate 4 (refine ok_st rfl rfl ?_; simp only [okS_some, xst, xp0, xp1, xp2, xp3, xp4, xp5, xload, xstore, xget_0, xget_s, xs_0, xs_1n, xs_1i, xs_1r, xs_1u, xs_1l, xs_s, xt_0, xt_1n, xt_1i, xt_1r, xt_1u, xt_1l, xt_s, xisref, xq0, Value.category, xcat, List.map_nil, List.map_cons, List.sum_nil, List.sum_cons, List.length_cons, List.length_nil, List.getElem?_cons_zero, List.getElem?_cons_succ, xmap_s, if_true, and_self, Nat.reduceAdd, Nat.reduceLT, Nat.reduceLeDiff, Nat.reduceEqDiff, Nat.lt_add_one, Nat.zero_le, Nat.le_refl, Nat.le_zero_eq, Nat.zero_lt_succ, xldc, kbm10, kbm9, kbm8, kbm7, kbm6, kbm5, kbm4, kbm3, kbm2, kb6, kb7, kb8, kb9, kb10, kb11, kb16, kb19, kb20, kb30, kb31, kb32, kb34, kb40, kb64, kb100, kb127, kim1, ki0, ki1, ki2, ki3, ki4, ki5, ks128, ks400, ks999, ks1000, ks4010])
        try simp (disch := omega) only [nx10, nx4, nx32, nxa0, nxa1, nxa2, nxa3, nxa4, nxa5, nxa6, nxa7, nxa8, nxa9, nxa10, nxs1, nxs10, nxss, nI_add, nI_clamp, mnar0, mnar1, Nat.add_sub_cancel]
        refine l_il rfl (nIn (by omega) (by omega)) ?_
        try dsimp only [Nat.reduceAdd]
        try simp (disch := omega) only [nx10, nx4, nx32, nxa0, nxa1, nxa2, nxa3, nxa4, nxa5, nxa6, nxa7, nxa8, nxa9, nxa10, nxs1, nxs10, nxss, nI_add, nI_clamp, mnar0, mnar1, Nat.add_sub_cancel]
        refine ok_cm (vs := [_, _, _]) rfl rfl rfl rfl (Nat.le_of_ble_eq_true rfl) (Nat.le_of_ble_eq_true rfl) (by show xcl0 2 8 _ _ = true; simp [xcl0, hI.1]) (by decide) hW (sp50 hW hI) ?_
        rintro _ h174 ⟨x178, rfl⟩ k175 al176
        dsimp only [Option.toList, List.cons_append, List.nil_append, Nat.reduceAdd]
        have hW := k175.1
        have z181 := al176 rfl
        try dsimp only at z181
        obtain ⟨B, hm⟩ := hm.kq k175 (by decide)
        have hI := hI.kp k175 (by decide)
        iterate 6 (refine ok_st rfl rfl ?_; simp only [okS_some, xst, xp0, xp1, xp2, xp3, xp4, xp5, xload, xstore, xget_0, xget_s, xs_0, xs_1n, xs_1i, xs_1r, xs_1u, xs_1l, xs_s, xt_0, xt_1n, xt_1i, xt_1r, xt_1u, xt_1l, xt_s, xisref, xq0, Value.category, xcat, List.map_nil, List.map_cons, List.sum_nil, List.sum_cons, List.length_cons, List.length_nil, List.getElem?_cons_zero, List.getElem?_cons_succ, xmap_s, if_true, and_self, Nat.reduceAdd, Nat.reduceLT, Nat.reduceLeDiff, Nat.reduceEqDiff, Nat.lt_add_one, Nat.zero_le, Nat.le_refl, Nat.le_zero_eq, Nat.zero_lt_succ, xldc, kbm10, kbm9, kbm8, kbm7, kbm6, kbm5, kbm4, kbm3, kbm2, kb6, kb7, kb8, kb9, kb10, kb11, kb16, kb19, kb20, kb30, kb31, kb32, kb34, kb40, kb64, kb100, kb127, kim1, ki0, ki1, ki2, ki3, ki4, ki5, ks128, ks400, ks999, ks1000, ks4010])
        try simp (disch := omega) only [nx10, nx4, nx32, nxa0, nxa1, nxa2, nxa3, nxa4, nxa5, nxa6, nxa7, nxa8, nxa9, nxa10, nxs1, nxs10, nxss, nI_add, nI_clamp, mnar0, mnar1, Nat.add_sub_cancel]
        refine l_il rfl (nIn (by omega) (by omega)) ?_
        try dsimp only [Nat.reduceAdd]
        try simp (disch := omega) only [nx10, nx4, nx32, nxa0, nxa1, nxa2, nxa3, nxa4, nxa5, nxa6, nxa7, nxa8, nxa9, nxa10, nxs1, nxs10, nxss, nI_add, nI_clamp, mnar0, mnar1, Nat.add_sub_cancel]
        iterate 4 (refine ok_st rfl rfl ?_; simp only [okS_some, xst, xp0, xp1, xp2, xp3, xp4, xp5, xload, xstore, xget_0, xget_s, xs_0, xs_1n, xs_1i, xs_1r, xs_1u, xs_1l, xs_s, xt_0, xt_1n, xt_1i, xt_1r, xt_1u, xt_1l, xt_s, xisref, xq0, Value.category, xcat, List.map_nil, List.map_cons, List.sum_nil, List.sum_cons, List.length_cons, List.length_nil, List.getElem?_cons_zero, List.getElem?_cons_succ, xmap_s, if_true, and_self, Nat.reduceAdd, Nat.reduceLT, Nat.reduceLeDiff, Nat.reduceEqDiff, Nat.lt_add_one, Nat.zero_le, Nat.le_refl, Nat.le_zero_eq, Nat.zero_lt_succ, xldc, kbm10, kbm9, kbm8, kbm7, kbm6, kbm5, kbm4, kbm3, kbm2, kb6, kb7, kb8, kb9, kb10, kb11, kb16, kb19, kb20, kb30, kb31, kb32, kb34, kb40, kb64, kb100, kb127, kim1, ki0, ki1, ki2, ki3, ki4, ki5, ks128, ks400, ks999, ks1000, ks4010])
        try simp (disch := omega) only [nx10, nx4, nx32, nxa0, nxa1, nxa2, nxa3, nxa4, nxa5, nxa6, nxa7, nxa8, nxa9, nxa10, nxs1, nxs10, nxss, nI_add, nI_clamp, mnar0, mnar1, Nat.add_sub_cancel]
        refine l_il rfl (nIn (by omega) (by omega)) ?_
        try dsimp only [Nat.reduceAdd]
        try simp (disch := omega) only [nx10, nx4, nx32, nxa0, nxa1, nxa2, nxa3, nxa4, nxa5, nxa6, nxa7, nxa8, nxa9, nxa10, nxs1, nxs10, nxss, nI_add, nI_clamp, mnar0, mnar1, Nat.add_sub_cancel]
        refine ok_cm (vs := [_, _, _]) rfl rfl rfl rfl (Nat.le_of_ble_eq_true rfl) (Nat.le_of_ble_eq_true rfl) (by show xcl0 2 9 _ _ = true; simp [xcl0, hm.1]) (by decide) hW (sp102J hW hm hj) ?_
        rintro _ h182 ⟨x186, rfl⟩ k183 al184
        dsimp only [Option.toList, List.cons_append, List.nil_append, Nat.reduceAdd]
        have hW := k183.1
        have z187 := al184 rfl
        try dsimp only at z187
        have hI := hI.kp k183 (by decide)
        have hm := hm.kp k183 rfl
        iterate 3 (refine ok_st rfl rfl ?_; simp only [okS_some, xst, xp0, xp1, xp2, xp3, xp4, xp5, xload, xstore, xget_0, xget_s, xs_0, xs_1n, xs_1i, xs_1r, xs_1u, xs_1l, xs_s, xt_0, xt_1n, xt_1i, xt_1r, xt_1u, xt_1l, xt_s, xisref, xq0, Value.category, xcat, List.map_nil, List.map_cons, List.sum_nil, List.sum_cons, List.length_cons, List.length_nil, List.getElem?_cons_zero, List.getElem?_cons_succ, xmap_s, if_true, and_self, Nat.reduceAdd, Nat.reduceLT, Nat.reduceLeDiff, Nat.reduceEqDiff, Nat.lt_add_one, Nat.zero_le, Nat.le_refl, Nat.le_zero_eq, Nat.zero_lt_succ, xldc, kbm10, kbm9, kbm8, kbm7, kbm6, kbm5, kbm4, kbm3, kbm2, kb6, kb7, kb8, kb9, kb10, kb11, kb16, kb19, kb20, kb30, kb31, kb32, kb34, kb40, kb64, kb100, kb127, kim1, ki0, ki1, ki2, ki3, ki4, ki5, ks128, ks400, ks999, ks1000, ks4010])
        try simp (disch := omega) only [nx10, nx4, nx32, nxa0, nxa1, nxa2, nxa3, nxa4, nxa5, nxa6, nxa7, nxa8, nxa9, nxa10, nxs1, nxs10, nxss, nI_add, nI_clamp, mnar0, mnar1, Nat.add_sub_cancel]
        refine ok_st rfl rfl ?_
        simp only [okS_some, xst, xp0, xp1, xp2, xp3, xp4, xp5, xload, xstore, xget_0, xget_s, xs_0, xs_1n, xs_1i, xs_1r, xs_1u, xs_1l, xs_s, xt_0, xt_1n, xt_1i, xt_1r, xt_1u, xt_1l, xt_s, xisref, xq0, Value.category, xcat, List.map_nil, List.map_cons, List.sum_nil, List.sum_cons, List.length_cons, List.length_nil, List.getElem?_cons_zero, List.getElem?_cons_succ, xmap_s, if_true, and_self, Nat.reduceAdd, Nat.reduceLT, Nat.reduceLeDiff, Nat.reduceEqDiff, Nat.lt_add_one, Nat.zero_le, Nat.le_refl, Nat.le_zero_eq, Nat.zero_lt_succ, xldc, kbm10, kbm9, kbm8, kbm7, kbm6, kbm5, kbm4, kbm3, kbm2, kb6, kb7, kb8, kb9, kb10, kb11, kb16, kb19, kb20, kb30, kb31, kb32, kb34, kb40, kb64, kb100, kb127, kim1, ki0, ki1, ki2, ki3, ki4, ki5, ks128, ks400, ks999, ks1000, ks4010]
        rw [show nI (8 * i) + Int32.ofInt 8 = nI (8 * (i + 1)) from nI_add (8 * i) 8]
        exact ih (i := i + 1) hW ⟨_, _, _, _, _, _, _, _, _, hI.up (by omega), hm, hj, hS2, by omega, by omega⟩ (by omega) (by omega)
      · skip
        iterate 5 (refine ok_st rfl rfl ?_; simp only [okS_some, xst, xp0, xp1, xp2, xp3, xp4, xp5, xload, xstore, xget_0, xget_s, xs_0, xs_1n, xs_1i, xs_1r, xs_1u, xs_1l, xs_s, xt_0, xt_1n, xt_1i, xt_1r, xt_1u, xt_1l, xt_s, xisref, xq0, Value.category, xcat, List.map_nil, List.map_cons, List.sum_nil, List.sum_cons, List.length_cons, List.length_nil, List.getElem?_cons_zero, List.getElem?_cons_succ, xmap_s, if_true, and_self, Nat.reduceAdd, Nat.reduceLT, Nat.reduceLeDiff, Nat.reduceEqDiff, Nat.lt_add_one, Nat.zero_le, Nat.le_refl, Nat.le_zero_eq, Nat.zero_lt_succ, xldc, kbm10, kbm9, kbm8, kbm7, kbm6, kbm5, kbm4, kbm3, kbm2, kb6, kb7, kb8, kb9, kb10, kb11, kb16, kb19, kb20, kb30, kb31, kb32, kb34, kb40, kb64, kb100, kb127, kim1, ki0, ki1, ki2, ki3, ki4, ki5, ks128, ks400, ks999, ks1000, ks4010])
        try simp (disch := omega) only [nx10, nx4, nx32, nxa0, nxa1, nxa2, nxa3, nxa4, nxa5, nxa6, nxa7, nxa8, nxa9, nxa10, nxs1, nxs10, nxss, nI_add, nI_clamp, mnar0, mnar1, Nat.add_sub_cancel]
        refine l_il rfl (nIn (by omega) (by omega)) ?_
        try dsimp only [Nat.reduceAdd]
        try simp (disch := omega) only [nx10, nx4, nx32, nxa0, nxa1, nxa2, nxa3, nxa4, nxa5, nxa6, nxa7, nxa8, nxa9, nxa10, nxs1, nxs10, nxss, nI_add, nI_clamp, mnar0, mnar1, Nat.add_sub_cancel]
        refine ok_cm (vs := [_, _]) rfl rfl rfl rfl (Nat.le_of_ble_eq_true rfl) (Nat.le_of_ble_eq_true rfl) (by show xcl0 2 8 _ _ = true; simp [xcl0, hI.1]) (by decide) hW (sp51 hW hI) ?_
        rintro _ h188 ⟨x192, rfl⟩ k189 al190
        dsimp only [Option.toList, List.cons_append, List.nil_append, Nat.reduceAdd]
        have hW := k189.1
        have z195 := al190 rfl
        try dsimp only at z195
        obtain ⟨B, hm⟩ := hm.kq k189 (by decide)
        have hI := hI.kp k189 (by decide)
        iterate 6 (refine ok_st rfl rfl ?_; simp only [okS_some, xst, xp0, xp1, xp2, xp3, xp4, xp5, xload, xstore, xget_0, xget_s, xs_0, xs_1n, xs_1i, xs_1r, xs_1u, xs_1l, xs_s, xt_0, xt_1n, xt_1i, xt_1r, xt_1u, xt_1l, xt_s, xisref, xq0, Value.category, xcat, List.map_nil, List.map_cons, List.sum_nil, List.sum_cons, List.length_cons, List.length_nil, List.getElem?_cons_zero, List.getElem?_cons_succ, xmap_s, if_true, and_self, Nat.reduceAdd, Nat.reduceLT, Nat.reduceLeDiff, Nat.reduceEqDiff, Nat.lt_add_one, Nat.zero_le, Nat.le_refl, Nat.le_zero_eq, Nat.zero_lt_succ, xldc, kbm10, kbm9, kbm8, kbm7, kbm6, kbm5, kbm4, kbm3, kbm2, kb6, kb7, kb8, kb9, kb10, kb11, kb16, kb19, kb20, kb30, kb31, kb32, kb34, kb40, kb64, kb100, kb127, kim1, ki0, ki1, ki2, ki3, ki4, ki5, ks128, ks400, ks999, ks1000, ks4010])
        try simp (disch := omega) only [nx10, nx4, nx32, nxa0, nxa1, nxa2, nxa3, nxa4, nxa5, nxa6, nxa7, nxa8, nxa9, nxa10, nxs1, nxs10, nxss, nI_add, nI_clamp, mnar0, mnar1, Nat.add_sub_cancel]
        refine l_il rfl (nIn (by omega) (by omega)) ?_
        try dsimp only [Nat.reduceAdd]
        try simp (disch := omega) only [nx10, nx4, nx32, nxa0, nxa1, nxa2, nxa3, nxa4, nxa5, nxa6, nxa7, nxa8, nxa9, nxa10, nxs1, nxs10, nxss, nI_add, nI_clamp, mnar0, mnar1, Nat.add_sub_cancel]
        refine ok_cm (vs := [_, _]) rfl rfl rfl rfl (Nat.le_of_ble_eq_true rfl) (Nat.le_of_ble_eq_true rfl) (by show xcl0 2 9 _ _ = true; simp [xcl0, hm.1]) (by decide) hW (sp103J hW hm hj) ?_
        rintro _ h196 ⟨⟨x200, rfl⟩, S1, A1, B1, M1, hm, hj, hs⟩ k197 al198
        dsimp only [Option.toList, List.cons_append, List.nil_append, Nat.reduceAdd]
        have hW := k197.1
        have z201 := al198 rfl
        try dsimp only at z201
        have hI := hI.kp k197 (by decide)
        have hS2 := hs.trans hS2
        iterate 3 (refine ok_st rfl rfl ?_; simp only [okS_some, xst, xp0, xp1, xp2, xp3, xp4, xp5, xload, xstore, xget_0, xget_s, xs_0, xs_1n, xs_1i, xs_1r, xs_1u, xs_1l, xs_s, xt_0, xt_1n, xt_1i, xt_1r, xt_1u, xt_1l, xt_s, xisref, xq0, Value.category, xcat, List.map_nil, List.map_cons, List.sum_nil, List.sum_cons, List.length_cons, List.length_nil, List.getElem?_cons_zero, List.getElem?_cons_succ, xmap_s, if_true, and_self, Nat.reduceAdd, Nat.reduceLT, Nat.reduceLeDiff, Nat.reduceEqDiff, Nat.lt_add_one, Nat.zero_le, Nat.le_refl, Nat.le_zero_eq, Nat.zero_lt_succ, xldc, kbm10, kbm9, kbm8, kbm7, kbm6, kbm5, kbm4, kbm3, kbm2, kb6, kb7, kb8, kb9, kb10, kb11, kb16, kb19, kb20, kb30, kb31, kb32, kb34, kb40, kb64, kb100, kb127, kim1, ki0, ki1, ki2, ki3, ki4, ki5, ks128, ks400, ks999, ks1000, ks4010])
        try simp (disch := omega) only [nx10, nx4, nx32, nxa0, nxa1, nxa2, nxa3, nxa4, nxa5, nxa6, nxa7, nxa8, nxa9, nxa10, nxs1, nxs10, nxss, nI_add, nI_clamp, mnar0, mnar1, Nat.add_sub_cancel]
        refine ok_st rfl rfl ?_
        simp only [okS_some, xst, xp0, xp1, xp2, xp3, xp4, xp5, xload, xstore, xget_0, xget_s, xs_0, xs_1n, xs_1i, xs_1r, xs_1u, xs_1l, xs_s, xt_0, xt_1n, xt_1i, xt_1r, xt_1u, xt_1l, xt_s, xisref, xq0, Value.category, xcat, List.map_nil, List.map_cons, List.sum_nil, List.sum_cons, List.length_cons, List.length_nil, List.getElem?_cons_zero, List.getElem?_cons_succ, xmap_s, if_true, and_self, Nat.reduceAdd, Nat.reduceLT, Nat.reduceLeDiff, Nat.reduceEqDiff, Nat.lt_add_one, Nat.zero_le, Nat.le_refl, Nat.le_zero_eq, Nat.zero_lt_succ, xldc, kbm10, kbm9, kbm8, kbm7, kbm6, kbm5, kbm4, kbm3, kbm2, kb6, kb7, kb8, kb9, kb10, kb11, kb16, kb19, kb20, kb30, kb31, kb32, kb34, kb40, kb64, kb100, kb127, kim1, ki0, ki1, ki2, ki3, ki4, ki5, ks128, ks400, ks999, ks1000, ks4010]
        rw [show nI (8 * i) + Int32.ofInt 8 = nI (8 * (i + 1)) from nI_add (8 * i) 8]
        exact ih (i := i + 1) hW ⟨_, _, _, _, _, _, _, _, _, hI.up (by omega), hm, hj, hS2, by omega, by omega⟩ (by omega) (by omega)
      · skip
        iterate 5 (refine ok_st rfl rfl ?_; simp only [okS_some, xst, xp0, xp1, xp2, xp3, xp4, xp5, xload, xstore, xget_0, xget_s, xs_0, xs_1n, xs_1i, xs_1r, xs_1u, xs_1l, xs_s, xt_0, xt_1n, xt_1i, xt_1r, xt_1u, xt_1l, xt_s, xisref, xq0, Value.category, xcat, List.map_nil, List.map_cons, List.sum_nil, List.sum_cons, List.length_cons, List.length_nil, List.getElem?_cons_zero, List.getElem?_cons_succ, xmap_s, if_true, and_self, Nat.reduceAdd, Nat.reduceLT, Nat.reduceLeDiff, Nat.reduceEqDiff, Nat.lt_add_one, Nat.zero_le, Nat.le_refl, Nat.le_zero_eq, Nat.zero_lt_succ, xldc, kbm10, kbm9, kbm8, kbm7, kbm6, kbm5, kbm4, kbm3, kbm2, kb6, kb7, kb8, kb9, kb10, kb11, kb16, kb19, kb20, kb30, kb31, kb32, kb34, kb40, kb64, kb100, kb127, kim1, ki0, ki1, ki2, ki3, ki4, ki5, ks128, ks400, ks999, ks1000, ks4010])
        try simp (disch := omega) only [nx10, nx4, nx32, nxa0, nxa1, nxa2, nxa3, nxa4, nxa5, nxa6, nxa7, nxa8, nxa9, nxa10, nxs1, nxs10, nxss, nI_add, nI_clamp, mnar0, mnar1, Nat.add_sub_cancel]
        refine l_il rfl (nIn (by omega) (by omega)) ?_
        try dsimp only [Nat.reduceAdd]
        try simp (disch := omega) only [nx10, nx4, nx32, nxa0, nxa1, nxa2, nxa3, nxa4, nxa5, nxa6, nxa7, nxa8, nxa9, nxa10, nxs1, nxs10, nxss, nI_add, nI_clamp, mnar0, mnar1, Nat.add_sub_cancel]
        refine ok_cm (vs := [_, _]) rfl rfl rfl rfl (Nat.le_of_ble_eq_true rfl) (Nat.le_of_ble_eq_true rfl) (by show xcl0 2 8 _ _ = true; simp [xcl0, hI.1]) (by decide) hW (sp52 hW hI) ?_
        rintro _ h202 ⟨x206, rfl⟩ k203 al204
        dsimp only [Option.toList, List.cons_append, List.nil_append, Nat.reduceAdd]
        have hW := k203.1
        have z209 := al204 rfl
        try dsimp only at z209
        obtain ⟨B, hm⟩ := hm.kq k203 (by decide)
        have hI := hI.kp k203 (by decide)
        iterate 6 (refine ok_st rfl rfl ?_; simp only [okS_some, xst, xp0, xp1, xp2, xp3, xp4, xp5, xload, xstore, xget_0, xget_s, xs_0, xs_1n, xs_1i, xs_1r, xs_1u, xs_1l, xs_s, xt_0, xt_1n, xt_1i, xt_1r, xt_1u, xt_1l, xt_s, xisref, xq0, Value.category, xcat, List.map_nil, List.map_cons, List.sum_nil, List.sum_cons, List.length_cons, List.length_nil, List.getElem?_cons_zero, List.getElem?_cons_succ, xmap_s, if_true, and_self, Nat.reduceAdd, Nat.reduceLT, Nat.reduceLeDiff, Nat.reduceEqDiff, Nat.lt_add_one, Nat.zero_le, Nat.le_refl, Nat.le_zero_eq, Nat.zero_lt_succ, xldc, kbm10, kbm9, kbm8, kbm7, kbm6, kbm5, kbm4, kbm3, kbm2, kb6, kb7, kb8, kb9, kb10, kb11, kb16, kb19, kb20, kb30, kb31, kb32, kb34, kb40, kb64, kb100, kb127, kim1, ki0, ki1, ki2, ki3, ki4, ki5, ks128, ks400, ks999, ks1000, ks4010])
        try simp (disch := omega) only [nx10, nx4, nx32, nxa0, nxa1, nxa2, nxa3, nxa4, nxa5, nxa6, nxa7, nxa8, nxa9, nxa10, nxs1, nxs10, nxss, nI_add, nI_clamp, mnar0, mnar1, Nat.add_sub_cancel]
        refine l_il rfl (nIn (by omega) (by omega)) ?_
        try dsimp only [Nat.reduceAdd]
        try simp (disch := omega) only [nx10, nx4, nx32, nxa0, nxa1, nxa2, nxa3, nxa4, nxa5, nxa6, nxa7, nxa8, nxa9, nxa10, nxs1, nxs10, nxss, nI_add, nI_clamp, mnar0, mnar1, Nat.add_sub_cancel]
        refine ok_cm (vs := [_, _]) rfl rfl rfl rfl (Nat.le_of_ble_eq_true rfl) (Nat.le_of_ble_eq_true rfl) (by show xcl0 2 9 _ _ = true; simp [xcl0, hm.1]) (by decide) hW (sp104 hW hm hj) ?_
        rintro _ h210 ⟨⟨x214, rfl⟩, S1, A1, B1, M1, hm, hj, hs⟩ k211 al212
        dsimp only [Option.toList, List.cons_append, List.nil_append, Nat.reduceAdd]
        have hW := k211.1
        have z215 := al212 rfl
        try dsimp only at z215
        have hI := hI.kp k211 (by decide)
        have hS2 := hs.trans hS2
        iterate 3 (refine ok_st rfl rfl ?_; simp only [okS_some, xst, xp0, xp1, xp2, xp3, xp4, xp5, xload, xstore, xget_0, xget_s, xs_0, xs_1n, xs_1i, xs_1r, xs_1u, xs_1l, xs_s, xt_0, xt_1n, xt_1i, xt_1r, xt_1u, xt_1l, xt_s, xisref, xq0, Value.category, xcat, List.map_nil, List.map_cons, List.sum_nil, List.sum_cons, List.length_cons, List.length_nil, List.getElem?_cons_zero, List.getElem?_cons_succ, xmap_s, if_true, and_self, Nat.reduceAdd, Nat.reduceLT, Nat.reduceLeDiff, Nat.reduceEqDiff, Nat.lt_add_one, Nat.zero_le, Nat.le_refl, Nat.le_zero_eq, Nat.zero_lt_succ, xldc, kbm10, kbm9, kbm8, kbm7, kbm6, kbm5, kbm4, kbm3, kbm2, kb6, kb7, kb8, kb9, kb10, kb11, kb16, kb19, kb20, kb30, kb31, kb32, kb34, kb40, kb64, kb100, kb127, kim1, ki0, ki1, ki2, ki3, ki4, ki5, ks128, ks400, ks999, ks1000, ks4010])
        try simp (disch := omega) only [nx10, nx4, nx32, nxa0, nxa1, nxa2, nxa3, nxa4, nxa5, nxa6, nxa7, nxa8, nxa9, nxa10, nxs1, nxs10, nxss, nI_add, nI_clamp, mnar0, mnar1, Nat.add_sub_cancel]
        refine ok_st rfl rfl ?_
        simp only [okS_some, xst, xp0, xp1, xp2, xp3, xp4, xp5, xload, xstore, xget_0, xget_s, xs_0, xs_1n, xs_1i, xs_1r, xs_1u, xs_1l, xs_s, xt_0, xt_1n, xt_1i, xt_1r, xt_1u, xt_1l, xt_s, xisref, xq0, Value.category, xcat, List.map_nil, List.map_cons, List.sum_nil, List.sum_cons, List.length_cons, List.length_nil, List.getElem?_cons_zero, List.getElem?_cons_succ, xmap_s, if_true, and_self, Nat.reduceAdd, Nat.reduceLT, Nat.reduceLeDiff, Nat.reduceEqDiff, Nat.lt_add_one, Nat.zero_le, Nat.le_refl, Nat.le_zero_eq, Nat.zero_lt_succ, xldc, kbm10, kbm9, kbm8, kbm7, kbm6, kbm5, kbm4, kbm3, kbm2, kb6, kb7, kb8, kb9, kb10, kb11, kb16, kb19, kb20, kb30, kb31, kb32, kb34, kb40, kb64, kb100, kb127, kim1, ki0, ki1, ki2, ki3, ki4, ki5, ks128, ks400, ks999, ks1000, ks4010]
        rw [show nI (8 * i) + Int32.ofInt 8 = nI (8 * (i + 1)) from nI_add (8 * i) 8]
        exact ih (i := i + 1) hW ⟨_, _, _, _, _, _, _, _, _, hI.up (by omega), hm, hj, hS2, by omega, by omega⟩ (by omega) (by omega)
      · skip
        iterate 5 (refine ok_st rfl rfl ?_; simp only [okS_some, xst, xp0, xp1, xp2, xp3, xp4, xp5, xload, xstore, xget_0, xget_s, xs_0, xs_1n, xs_1i, xs_1r, xs_1u, xs_1l, xs_s, xt_0, xt_1n, xt_1i, xt_1r, xt_1u, xt_1l, xt_s, xisref, xq0, Value.category, xcat, List.map_nil, List.map_cons, List.sum_nil, List.sum_cons, List.length_cons, List.length_nil, List.getElem?_cons_zero, List.getElem?_cons_succ, xmap_s, if_true, and_self, Nat.reduceAdd, Nat.reduceLT, Nat.reduceLeDiff, Nat.reduceEqDiff, Nat.lt_add_one, Nat.zero_le, Nat.le_refl, Nat.le_zero_eq, Nat.zero_lt_succ, xldc, kbm10, kbm9, kbm8, kbm7, kbm6, kbm5, kbm4, kbm3, kbm2, kb6, kb7, kb8, kb9, kb10, kb11, kb16, kb19, kb20, kb30, kb31, kb32, kb34, kb40, kb64, kb100, kb127, kim1, ki0, ki1, ki2, ki3, ki4, ki5, ks128, ks400, ks999, ks1000, ks4010])
        try simp (disch := omega) only [nx10, nx4, nx32, nxa0, nxa1, nxa2, nxa3, nxa4, nxa5, nxa6, nxa7, nxa8, nxa9, nxa10, nxs1, nxs10, nxss, nI_add, nI_clamp, mnar0, mnar1, Nat.add_sub_cancel]
        refine l_il rfl (nIn (by omega) (by omega)) ?_
        try dsimp only [Nat.reduceAdd]
        try simp (disch := omega) only [nx10, nx4, nx32, nxa0, nxa1, nxa2, nxa3, nxa4, nxa5, nxa6, nxa7, nxa8, nxa9, nxa10, nxs1, nxs10, nxss, nI_add, nI_clamp, mnar0, mnar1, Nat.add_sub_cancel]
        iterate 4 (refine ok_st rfl rfl ?_; simp only [okS_some, xst, xp0, xp1, xp2, xp3, xp4, xp5, xload, xstore, xget_0, xget_s, xs_0, xs_1n, xs_1i, xs_1r, xs_1u, xs_1l, xs_s, xt_0, xt_1n, xt_1i, xt_1r, xt_1u, xt_1l, xt_s, xisref, xq0, Value.category, xcat, List.map_nil, List.map_cons, List.sum_nil, List.sum_cons, List.length_cons, List.length_nil, List.getElem?_cons_zero, List.getElem?_cons_succ, xmap_s, if_true, and_self, Nat.reduceAdd, Nat.reduceLT, Nat.reduceLeDiff, Nat.reduceEqDiff, Nat.lt_add_one, Nat.zero_le, Nat.le_refl, Nat.le_zero_eq, Nat.zero_lt_succ, xldc, kbm10, kbm9, kbm8, kbm7, kbm6, kbm5, kbm4, kbm3, kbm2, kb6, kb7, kb8, kb9, kb10, kb11, kb16, kb19, kb20, kb30, kb31, kb32, kb34, kb40, kb64, kb100, kb127, kim1, ki0, ki1, ki2, ki3, ki4, ki5, ks128, ks400, ks999, ks1000, ks4010])
        try simp (disch := omega) only [nx10, nx4, nx32, nxa0, nxa1, nxa2, nxa3, nxa4, nxa5, nxa6, nxa7, nxa8, nxa9, nxa10, nxs1, nxs10, nxss, nI_add, nI_clamp, mnar0, mnar1, Nat.add_sub_cancel]
        refine l_il rfl (nIn (by omega) (by omega)) ?_
        try dsimp only [Nat.reduceAdd]
        try simp (disch := omega) only [nx10, nx4, nx32, nxa0, nxa1, nxa2, nxa3, nxa4, nxa5, nxa6, nxa7, nxa8, nxa9, nxa10, nxs1, nxs10, nxss, nI_add, nI_clamp, mnar0, mnar1, Nat.add_sub_cancel]
        iterate 4 (refine ok_st rfl rfl ?_; simp only [okS_some, xst, xp0, xp1, xp2, xp3, xp4, xp5, xload, xstore, xget_0, xget_s, xs_0, xs_1n, xs_1i, xs_1r, xs_1u, xs_1l, xs_s, xt_0, xt_1n, xt_1i, xt_1r, xt_1u, xt_1l, xt_s, xisref, xq0, Value.category, xcat, List.map_nil, List.map_cons, List.sum_nil, List.sum_cons, List.length_cons, List.length_nil, List.getElem?_cons_zero, List.getElem?_cons_succ, xmap_s, if_true, and_self, Nat.reduceAdd, Nat.reduceLT, Nat.reduceLeDiff, Nat.reduceEqDiff, Nat.lt_add_one, Nat.zero_le, Nat.le_refl, Nat.le_zero_eq, Nat.zero_lt_succ, xldc, kbm10, kbm9, kbm8, kbm7, kbm6, kbm5, kbm4, kbm3, kbm2, kb6, kb7, kb8, kb9, kb10, kb11, kb16, kb19, kb20, kb30, kb31, kb32, kb34, kb40, kb64, kb100, kb127, kim1, ki0, ki1, ki2, ki3, ki4, ki5, ks128, ks400, ks999, ks1000, ks4010])
        try simp (disch := omega) only [nx10, nx4, nx32, nxa0, nxa1, nxa2, nxa3, nxa4, nxa5, nxa6, nxa7, nxa8, nxa9, nxa10, nxs1, nxs10, nxss, nI_add, nI_clamp, mnar0, mnar1, Nat.add_sub_cancel]
        refine l_il rfl (nIn (by omega) (by omega)) ?_
        try dsimp only [Nat.reduceAdd]
        try simp (disch := omega) only [nx10, nx4, nx32, nxa0, nxa1, nxa2, nxa3, nxa4, nxa5, nxa6, nxa7, nxa8, nxa9, nxa10, nxs1, nxs10, nxss, nI_add, nI_clamp, mnar0, mnar1, Nat.add_sub_cancel]
        iterate 4 (refine ok_st rfl rfl ?_; simp only [okS_some, xst, xp0, xp1, xp2, xp3, xp4, xp5, xload, xstore, xget_0, xget_s, xs_0, xs_1n, xs_1i, xs_1r, xs_1u, xs_1l, xs_s, xt_0, xt_1n, xt_1i, xt_1r, xt_1u, xt_1l, xt_s, xisref, xq0, Value.category, xcat, List.map_nil, List.map_cons, List.sum_nil, List.sum_cons, List.length_cons, List.length_nil, List.getElem?_cons_zero, List.getElem?_cons_succ, xmap_s, if_true, and_self, Nat.reduceAdd, Nat.reduceLT, Nat.reduceLeDiff, Nat.reduceEqDiff, Nat.lt_add_one, Nat.zero_le, Nat.le_refl, Nat.le_zero_eq, Nat.zero_lt_succ, xldc, kbm10, kbm9, kbm8, kbm7, kbm6, kbm5, kbm4, kbm3, kbm2, kb6, kb7, kb8, kb9, kb10, kb11, kb16, kb19, kb20, kb30, kb31, kb32, kb34, kb40, kb64, kb100, kb127, kim1, ki0, ki1, ki2, ki3, ki4, ki5, ks128, ks400, ks999, ks1000, ks4010])
        try simp (disch := omega) only [nx10, nx4, nx32, nxa0, nxa1, nxa2, nxa3, nxa4, nxa5, nxa6, nxa7, nxa8, nxa9, nxa10, nxs1, nxs10, nxss, nI_add, nI_clamp, mnar0, mnar1, Nat.add_sub_cancel]
        refine l_il rfl (nIn (by omega) (by omega)) ?_
        try dsimp only [Nat.reduceAdd]
        try simp (disch := omega) only [nx10, nx4, nx32, nxa0, nxa1, nxa2, nxa3, nxa4, nxa5, nxa6, nxa7, nxa8, nxa9, nxa10, nxs1, nxs10, nxss, nI_add, nI_clamp, mnar0, mnar1, Nat.add_sub_cancel]
        refine ok_cm (vs := [_, _, _, _, _]) rfl rfl rfl rfl (Nat.le_of_ble_eq_true rfl) (Nat.le_of_ble_eq_true rfl) (by show xcl0 2 8 _ _ = true; simp [xcl0, hI.1]) (by decide) hW (sp53 hW hI) ?_
        rintro _ h216 ⟨x220, rfl⟩ k217 al218
        dsimp only [Option.toList, List.cons_append, List.nil_append, Nat.reduceAdd]
        have hW := k217.1
        have z223 := al218 rfl
        try dsimp only at z223
        obtain ⟨B, hm⟩ := hm.kq k217 (by decide)
        have hI := hI.kp k217 (by decide)
        iterate 6 (refine ok_st rfl rfl ?_; simp only [okS_some, xst, xp0, xp1, xp2, xp3, xp4, xp5, xload, xstore, xget_0, xget_s, xs_0, xs_1n, xs_1i, xs_1r, xs_1u, xs_1l, xs_s, xt_0, xt_1n, xt_1i, xt_1r, xt_1u, xt_1l, xt_s, xisref, xq0, Value.category, xcat, List.map_nil, List.map_cons, List.sum_nil, List.sum_cons, List.length_cons, List.length_nil, List.getElem?_cons_zero, List.getElem?_cons_succ, xmap_s, if_true, and_self, Nat.reduceAdd, Nat.reduceLT, Nat.reduceLeDiff, Nat.reduceEqDiff, Nat.lt_add_one, Nat.zero_le, Nat.le_refl, Nat.le_zero_eq, Nat.zero_lt_succ, xldc, kbm10, kbm9, kbm8, kbm7, kbm6, kbm5, kbm4, kbm3, kbm2, kb6, kb7, kb8, kb9, kb10, kb11, kb16, kb19, kb20, kb30, kb31, kb32, kb34, kb40, kb64, kb100, kb127, kim1, ki0, ki1, ki2, ki3, ki4, ki5, ks128, ks400, ks999, ks1000, ks4010])
        try simp (disch := omega) only [nx10, nx4, nx32, nxa0, nxa1, nxa2, nxa3, nxa4, nxa5, nxa6, nxa7, nxa8, nxa9, nxa10, nxs1, nxs10, nxss, nI_add, nI_clamp, mnar0, mnar1, Nat.add_sub_cancel]
        refine l_il rfl (nIn (by omega) (by omega)) ?_
        try dsimp only [Nat.reduceAdd]
        try simp (disch := omega) only [nx10, nx4, nx32, nxa0, nxa1, nxa2, nxa3, nxa4, nxa5, nxa6, nxa7, nxa8, nxa9, nxa10, nxs1, nxs10, nxss, nI_add, nI_clamp, mnar0, mnar1, Nat.add_sub_cancel]
        iterate 4 (refine ok_st rfl rfl ?_; simp only [okS_some, xst, xp0, xp1, xp2, xp3, xp4, xp5, xload, xstore, xget_0, xget_s, xs_0, xs_1n, xs_1i, xs_1r, xs_1u, xs_1l, xs_s, xt_0, xt_1n, xt_1i, xt_1r, xt_1u, xt_1l, xt_s, xisref, xq0, Value.category, xcat, List.map_nil, List.map_cons, List.sum_nil, List.sum_cons, List.length_cons, List.length_nil, List.getElem?_cons_zero, List.getElem?_cons_succ, xmap_s, if_true, and_self, Nat.reduceAdd, Nat.reduceLT, Nat.reduceLeDiff, Nat.reduceEqDiff, Nat.lt_add_one, Nat.zero_le, Nat.le_refl, Nat.le_zero_eq, Nat.zero_lt_succ, xldc, kbm10, kbm9, kbm8, kbm7, kbm6, kbm5, kbm4, kbm3, kbm2, kb6, kb7, kb8, kb9, kb10, kb11, kb16, kb19, kb20, kb30, kb31, kb32, kb34, kb40, kb64, kb100, kb127, kim1, ki0, ki1, ki2, ki3, ki4, ki5, ks128, ks400, ks999, ks1000, ks4010])
        try simp (disch := omega) only [nx10, nx4, nx32, nxa0, nxa1, nxa2, nxa3, nxa4, nxa5, nxa6, nxa7, nxa8, nxa9, nxa10, nxs1, nxs10, nxss, nI_add, nI_clamp, mnar0, mnar1, Nat.add_sub_cancel]
        refine l_il rfl (nIn (by omega) (by omega)) ?_
        try dsimp only [Nat.reduceAdd]
        try simp (disch := omega) only [nx10, nx4, nx32, nxa0, nxa1, nxa2, nxa3, nxa4, nxa5, nxa6, nxa7, nxa8, nxa9, nxa10, nxs1, nxs10, nxss, nI_add, nI_clamp, mnar0, mnar1, Nat.add_sub_cancel]
        iterate 4 (refine ok_st rfl rfl ?_; simp only [okS_some, xst, xp0, xp1, xp2, xp3, xp4, xp5, xload, xstore, xget_0, xget_s, xs_0, xs_1n, xs_1i, xs_1r, xs_1u, xs_1l, xs_s, xt_0, xt_1n, xt_1i, xt_1r, xt_1u, xt_1l, xt_s, xisref, xq0, Value.category, xcat, List.map_nil, List.map_cons, List.sum_nil, List.sum_cons, List.length_cons, List.length_nil, List.getElem?_cons_zero, List.getElem?_cons_succ, xmap_s, if_true, and_self, Nat.reduceAdd, Nat.reduceLT, Nat.reduceLeDiff, Nat.reduceEqDiff, Nat.lt_add_one, Nat.zero_le, Nat.le_refl, Nat.le_zero_eq, Nat.zero_lt_succ, xldc, kbm10, kbm9, kbm8, kbm7, kbm6, kbm5, kbm4, kbm3, kbm2, kb6, kb7, kb8, kb9, kb10, kb11, kb16, kb19, kb20, kb30, kb31, kb32, kb34, kb40, kb64, kb100, kb127, kim1, ki0, ki1, ki2, ki3, ki4, ki5, ks128, ks400, ks999, ks1000, ks4010])
        try simp (disch := omega) only [nx10, nx4, nx32, nxa0, nxa1, nxa2, nxa3, nxa4, nxa5, nxa6, nxa7, nxa8, nxa9, nxa10, nxs1, nxs10, nxss, nI_add, nI_clamp, mnar0, mnar1, Nat.add_sub_cancel]
        refine l_il rfl (nIn (by omega) (by omega)) ?_
        try dsimp only [Nat.reduceAdd]
        try simp (disch := omega) only [nx10, nx4, nx32, nxa0, nxa1, nxa2, nxa3, nxa4, nxa5, nxa6, nxa7, nxa8, nxa9, nxa10, nxs1, nxs10, nxss, nI_add, nI_clamp, mnar0, mnar1, Nat.add_sub_cancel]
        iterate 4 (refine ok_st rfl rfl ?_; simp only [okS_some, xst, xp0, xp1, xp2, xp3, xp4, xp5, xload, xstore, xget_0, xget_s, xs_0, xs_1n, xs_1i, xs_1r, xs_1u, xs_1l, xs_s, xt_0, xt_1n, xt_1i, xt_1r, xt_1u, xt_1l, xt_s, xisref, xq0, Value.category, xcat, List.map_nil, List.map_cons, List.sum_nil, List.sum_cons, List.length_cons, List.length_nil, List.getElem?_cons_zero, List.getElem?_cons_succ, xmap_s, if_true, and_self, Nat.reduceAdd, Nat.reduceLT, Nat.reduceLeDiff, Nat.reduceEqDiff, Nat.lt_add_one, Nat.zero_le, Nat.le_refl, Nat.le_zero_eq, Nat.zero_lt_succ, xldc, kbm10, kbm9, kbm8, kbm7, kbm6, kbm5, kbm4, kbm3, kbm2, kb6, kb7, kb8, kb9, kb10, kb11, kb16, kb19, kb20, kb30, kb31, kb32, kb34, kb40, kb64, kb100, kb127, kim1, ki0, ki1, ki2, ki3, ki4, ki5, ks128, ks400, ks999, ks1000, ks4010])
        try simp (disch := omega) only [nx10, nx4, nx32, nxa0, nxa1, nxa2, nxa3, nxa4, nxa5, nxa6, nxa7, nxa8, nxa9, nxa10, nxs1, nxs10, nxss, nI_add, nI_clamp, mnar0, mnar1, Nat.add_sub_cancel]
        refine l_il rfl (nIn (by omega) (by omega)) ?_
        try dsimp only [Nat.reduceAdd]
        try simp (disch := omega) only [nx10, nx4, nx32, nxa0, nxa1, nxa2, nxa3, nxa4, nxa5, nxa6, nxa7, nxa8, nxa9, nxa10, nxs1, nxs10, nxss, nI_add, nI_clamp, mnar0, mnar1, Nat.add_sub_cancel]
        refine ok_cm (vs := [_, _, _, _, _]) rfl rfl rfl rfl (Nat.le_of_ble_eq_true rfl) (Nat.le_of_ble_eq_true rfl) (by show xcl0 2 9 _ _ = true; simp [xcl0, hm.1]) (by decide) hW (sp106 hW hm hj) ?_
        rintro _ h224 ⟨⟨x228, rfl⟩, S1, A1, B1, M1, hm, hj, hs⟩ k225 al226
        dsimp only [Option.toList, List.cons_append, List.nil_append, Nat.reduceAdd]
        have hW := k225.1
        have z229 := al226 rfl
        try dsimp only at z229
        have hI := hI.kp k225 (by decide)
        have hS2 := hs.trans hS2
        iterate 3 (refine ok_st rfl rfl ?_; simp only [okS_some, xst, xp0, xp1, xp2, xp3, xp4, xp5, xload, xstore, xget_0, xget_s, xs_0, xs_1n, xs_1i, xs_1r, xs_1u, xs_1l, xs_s, xt_0, xt_1n, xt_1i, xt_1r, xt_1u, xt_1l, xt_s, xisref, xq0, Value.category, xcat, List.map_nil, List.map_cons, List.sum_nil, List.sum_cons, List.length_cons, List.length_nil, List.getElem?_cons_zero, List.getElem?_cons_succ, xmap_s, if_true, and_self, Nat.reduceAdd, Nat.reduceLT, Nat.reduceLeDiff, Nat.reduceEqDiff, Nat.lt_add_one, Nat.zero_le, Nat.le_refl, Nat.le_zero_eq, Nat.zero_lt_succ, xldc, kbm10, kbm9, kbm8, kbm7, kbm6, kbm5, kbm4, kbm3, kbm2, kb6, kb7, kb8, kb9, kb10, kb11, kb16, kb19, kb20, kb30, kb31, kb32, kb34, kb40, kb64, kb100, kb127, kim1, ki0, ki1, ki2, ki3, ki4, ki5, ks128, ks400, ks999, ks1000, ks4010])
        try simp (disch := omega) only [nx10, nx4, nx32, nxa0, nxa1, nxa2, nxa3, nxa4, nxa5, nxa6, nxa7, nxa8, nxa9, nxa10, nxs1, nxs10, nxss, nI_add, nI_clamp, mnar0, mnar1, Nat.add_sub_cancel]
        refine ok_st rfl rfl ?_
        simp only [okS_some, xst, xp0, xp1, xp2, xp3, xp4, xp5, xload, xstore, xget_0, xget_s, xs_0, xs_1n, xs_1i, xs_1r, xs_1u, xs_1l, xs_s, xt_0, xt_1n, xt_1i, xt_1r, xt_1u, xt_1l, xt_s, xisref, xq0, Value.category, xcat, List.map_nil, List.map_cons, List.sum_nil, List.sum_cons, List.length_cons, List.length_nil, List.getElem?_cons_zero, List.getElem?_cons_succ, xmap_s, if_true, and_self, Nat.reduceAdd, Nat.reduceLT, Nat.reduceLeDiff, Nat.reduceEqDiff, Nat.lt_add_one, Nat.zero_le, Nat.le_refl, Nat.le_zero_eq, Nat.zero_lt_succ, xldc, kbm10, kbm9, kbm8, kbm7, kbm6, kbm5, kbm4, kbm3, kbm2, kb6, kb7, kb8, kb9, kb10, kb11, kb16, kb19, kb20, kb30, kb31, kb32, kb34, kb40, kb64, kb100, kb127, kim1, ki0, ki1, ki2, ki3, ki4, ki5, ks128, ks400, ks999, ks1000, ks4010]
        rw [show nI (8 * i) + Int32.ofInt 8 = nI (8 * (i + 1)) from nI_add (8 * i) 8]
        exact ih (i := i + 1) hW ⟨_, _, _, _, _, _, _, _, _, hI.up (by omega), hm, hj, hS2, by omega, by omega⟩ (by omega) (by omega)
      · skip
        iterate 5 (refine ok_st rfl rfl ?_; simp only [okS_some, xst, xp0, xp1, xp2, xp3, xp4, xp5, xload, xstore, xget_0, xget_s, xs_0, xs_1n, xs_1i, xs_1r, xs_1u, xs_1l, xs_s, xt_0, xt_1n, xt_1i, xt_1r, xt_1u, xt_1l, xt_s, xisref, xq0, Value.category, xcat, List.map_nil, List.map_cons, List.sum_nil, List.sum_cons, List.length_cons, List.length_nil, List.getElem?_cons_zero, List.getElem?_cons_succ, xmap_s, if_true, and_self, Nat.reduceAdd, Nat.reduceLT, Nat.reduceLeDiff, Nat.reduceEqDiff, Nat.lt_add_one, Nat.zero_le, Nat.le_refl, Nat.le_zero_eq, Nat.zero_lt_succ, xldc, kbm10, kbm9, kbm8, kbm7, kbm6, kbm5, kbm4, kbm3, kbm2, kb6, kb7, kb8, kb9, kb10, kb11, kb16, kb19, kb20, kb30, kb31, kb32, kb34, kb40, kb64, kb100, kb127, kim1, ki0, ki1, ki2, ki3, ki4, ki5, ks128, ks400, ks999, ks1000, ks4010])
        try simp (disch := omega) only [nx10, nx4, nx32, nxa0, nxa1, nxa2, nxa3, nxa4, nxa5, nxa6, nxa7, nxa8, nxa9, nxa10, nxs1, nxs10, nxss, nI_add, nI_clamp, mnar0, mnar1, Nat.add_sub_cancel]
        refine l_il rfl (nIn (by omega) (by omega)) ?_
        try dsimp only [Nat.reduceAdd]
        try simp (disch := omega) only [nx10, nx4, nx32, nxa0, nxa1, nxa2, nxa3, nxa4, nxa5, nxa6, nxa7, nxa8, nxa9, nxa10, nxs1, nxs10, nxss, nI_add, nI_clamp, mnar0, mnar1, Nat.add_sub_cancel]
        iterate 4 (refine ok_st rfl rfl ?_; simp only [okS_some, xst, xp0, xp1, xp2, xp3, xp4, xp5, xload, xstore, xget_0, xget_s, xs_0, xs_1n, xs_1i, xs_1r, xs_1u, xs_1l, xs_s, xt_0, xt_1n, xt_1i, xt_1r, xt_1u, xt_1l, xt_s, xisref, xq0, Value.category, xcat, List.map_nil, List.map_cons, List.sum_nil, List.sum_cons, List.length_cons, List.length_nil, List.getElem?_cons_zero, List.getElem?_cons_succ, xmap_s, if_true, and_self, Nat.reduceAdd, Nat.reduceLT, Nat.reduceLeDiff, Nat.reduceEqDiff, Nat.lt_add_one, Nat.zero_le, Nat.le_refl, Nat.le_zero_eq, Nat.zero_lt_succ, xldc, kbm10, kbm9, kbm8, kbm7, kbm6, kbm5, kbm4, kbm3, kbm2, kb6, kb7, kb8, kb9, kb10, kb11, kb16, kb19, kb20, kb30, kb31, kb32, kb34, kb40, kb64, kb100, kb127, kim1, ki0, ki1, ki2, ki3, ki4, ki5, ks128, ks400, ks999, ks1000, ks4010])
        try simp (disch := omega) only [nx10, nx4, nx32, nxa0, nxa1, nxa2, nxa3, nxa4, nxa5, nxa6, nxa7, nxa8, nxa9, nxa10, nxs1, nxs10, nxss, nI_add, nI_clamp, mnar0, mnar1, Nat.add_sub_cancel]
        refine l_il rfl (nIn (by omega) (by omega)) ?_
        try dsimp only [Nat.reduceAdd]
        try simp (disch := omega) only [nx10, nx4, nx32, nxa0, nxa1, nxa2, nxa3, nxa4, nxa5, nxa6, nxa7, nxa8, nxa9, nxa10, nxs1, nxs10, nxss, nI_add, nI_clamp, mnar0, mnar1, Nat.add_sub_cancel]
        iterate 4 (refine ok_st rfl rfl ?_; simp only [okS_some, xst, xp0, xp1, xp2, xp3, xp4, xp5, xload, xstore, xget_0, xget_s, xs_0, xs_1n, xs_1i, xs_1r, xs_1u, xs_1l, xs_s, xt_0, xt_1n, xt_1i, xt_1r, xt_1u, xt_1l, xt_s, xisref, xq0, Value.category, xcat, List.map_nil, List.map_cons, List.sum_nil, List.sum_cons, List.length_cons, List.length_nil, List.getElem?_cons_zero, List.getElem?_cons_succ, xmap_s, if_true, and_self, Nat.reduceAdd, Nat.reduceLT, Nat.reduceLeDiff, Nat.reduceEqDiff, Nat.lt_add_one, Nat.zero_le, Nat.le_refl, Nat.le_zero_eq, Nat.zero_lt_succ, xldc, kbm10, kbm9, kbm8, kbm7, kbm6, kbm5, kbm4, kbm3, kbm2, kb6, kb7, kb8, kb9, kb10, kb11, kb16, kb19, kb20, kb30, kb31, kb32, kb34, kb40, kb64, kb100, kb127, kim1, ki0, ki1, ki2, ki3, ki4, ki5, ks128, ks400, ks999, ks1000, ks4010])
        try simp (disch := omega) only [nx10, nx4, nx32, nxa0, nxa1, nxa2, nxa3, nxa4, nxa5, nxa6, nxa7, nxa8, nxa9, nxa10, nxs1, nxs10, nxss, nI_add, nI_clamp, mnar0, mnar1, Nat.add_sub_cancel]
        refine l_il rfl (nIn (by omega) (by omega)) ?_
        try dsimp only [Nat.reduceAdd]
        try simp (disch := omega) only [nx10, nx4, nx32, nxa0, nxa1, nxa2, nxa3, nxa4, nxa5, nxa6, nxa7, nxa8, nxa9, nxa10, nxs1, nxs10, nxss, nI_add, nI_clamp, mnar0, mnar1, Nat.add_sub_cancel]
        refine ok_cm (vs := [_, _, _, _]) rfl rfl rfl rfl (Nat.le_of_ble_eq_true rfl) (Nat.le_of_ble_eq_true rfl) (by show xcl0 2 8 _ _ = true; simp [xcl0, hI.1]) (by decide) hW (sp54 hW hI) ?_
        rintro _ h230 ⟨x234, rfl⟩ k231 al232
        dsimp only [Option.toList, List.cons_append, List.nil_append, Nat.reduceAdd]
        have hW := k231.1
        have z237 := al232 rfl
        try dsimp only at z237
        obtain ⟨B, hm⟩ := hm.kq k231 (by decide)
        have hI := hI.kp k231 (by decide)
        iterate 6 (refine ok_st rfl rfl ?_; simp only [okS_some, xst, xp0, xp1, xp2, xp3, xp4, xp5, xload, xstore, xget_0, xget_s, xs_0, xs_1n, xs_1i, xs_1r, xs_1u, xs_1l, xs_s, xt_0, xt_1n, xt_1i, xt_1r, xt_1u, xt_1l, xt_s, xisref, xq0, Value.category, xcat, List.map_nil, List.map_cons, List.sum_nil, List.sum_cons, List.length_cons, List.length_nil, List.getElem?_cons_zero, List.getElem?_cons_succ, xmap_s, if_true, and_self, Nat.reduceAdd, Nat.reduceLT, Nat.reduceLeDiff, Nat.reduceEqDiff, Nat.lt_add_one, Nat.zero_le, Nat.le_refl, Nat.le_zero_eq, Nat.zero_lt_succ, xldc, kbm10, kbm9, kbm8, kbm7, kbm6, kbm5, kbm4, kbm3, kbm2, kb6, kb7, kb8, kb9, kb10, kb11, kb16, kb19, kb20, kb30, kb31, kb32, kb34, kb40, kb64, kb100, kb127, kim1, ki0, ki1, ki2, ki3, ki4, ki5, ks128, ks400, ks999, ks1000, ks4010])
        try simp (disch := omega) only [nx10, nx4, nx32, nxa0, nxa1, nxa2, nxa3, nxa4, nxa5, nxa6, nxa7, nxa8, nxa9, nxa10, nxs1, nxs10, nxss, nI_add, nI_clamp, mnar0, mnar1, Nat.add_sub_cancel]
        refine l_il rfl (nIn (by omega) (by omega)) ?_
        try dsimp only [Nat.reduceAdd]
        try simp (disch := omega) only [nx10, nx4, nx32, nxa0, nxa1, nxa2, nxa3, nxa4, nxa5, nxa6, nxa7, nxa8, nxa9, nxa10, nxs1, nxs10, nxss, nI_add, nI_clamp, mnar0, mnar1, Nat.add_sub_cancel]
        iterate 4 (refine ok_st rfl rfl ?_; simp only [okS_some, xst, xp0, xp1, xp2, xp3, xp4, xp5, xload, xstore, xget_0, xget_s, xs_0, xs_1n, xs_1i, xs_1r, xs_1u, xs_1l, xs_s, xt_0, xt_1n, xt_1i, xt_1r, xt_1u, xt_1l, xt_s, xisref, xq0, Value.category, xcat, List.map_nil, List.map_cons, List.sum_nil, List.sum_cons, List.length_cons, List.length_nil, List.getElem?_cons_zero, List.getElem?_cons_succ, xmap_s, if_true, and_self, Nat.reduceAdd, Nat.reduceLT, Nat.reduceLeDiff, Nat.reduceEqDiff, Nat.lt_add_one, Nat.zero_le, Nat.le_refl, Nat.le_zero_eq, Nat.zero_lt_succ, xldc, kbm10, kbm9, kbm8, kbm7, kbm6, kbm5, kbm4, kbm3, kbm2, kb6, kb7, kb8, kb9, kb10, kb11, kb16, kb19, kb20, kb30, kb31, kb32, kb34, kb40, kb64, kb100, kb127, kim1, ki0, ki1, ki2, ki3, ki4, ki5, ks128, ks400, ks999, ks1000, ks4010])
        try simp (disch := omega) only [nx10, nx4, nx32, nxa0, nxa1, nxa2, nxa3, nxa4, nxa5, nxa6, nxa7, nxa8, nxa9, nxa10, nxs1, nxs10, nxss, nI_add, nI_clamp, mnar0, mnar1, Nat.add_sub_cancel]
        refine l_il rfl (nIn (by omega) (by omega)) ?_
        try dsimp only [Nat.reduceAdd]
        try simp (disch := omega) only [nx10, nx4, nx32, nxa0, nxa1, nxa2, nxa3, nxa4, nxa5, nxa6, nxa7, nxa8, nxa9, nxa10, nxs1, nxs10, nxss, nI_add, nI_clamp, mnar0, mnar1, Nat.add_sub_cancel]
        iterate 4 (refine ok_st rfl rfl ?_; simp only [okS_some, xst, xp0, xp1, xp2, xp3, xp4, xp5, xload, xstore, xget_0, xget_s, xs_0, xs_1n, xs_1i, xs_1r, xs_1u, xs_1l, xs_s, xt_0, xt_1n, xt_1i, xt_1r, xt_1u, xt_1l, xt_s, xisref, xq0, Value.category, xcat, List.map_nil, List.map_cons, List.sum_nil, List.sum_cons, List.length_cons, List.length_nil, List.getElem?_cons_zero, List.getElem?_cons_succ, xmap_s, if_true, and_self, Nat.reduceAdd, Nat.reduceLT, Nat.reduceLeDiff, Nat.reduceEqDiff, Nat.lt_add_one, Nat.zero_le, Nat.le_refl, Nat.le_zero_eq, Nat.zero_lt_succ, xldc, kbm10, kbm9, kbm8, kbm7, kbm6, kbm5, kbm4, kbm3, kbm2, kb6, kb7, kb8, kb9, kb10, kb11, kb16, kb19, kb20, kb30, kb31, kb32, kb34, kb40, kb64, kb100, kb127, kim1, ki0, ki1, ki2, ki3, ki4, ki5, ks128, ks400, ks999, ks1000, ks4010])
        try simp (disch := omega) only [nx10, nx4, nx32, nxa0, nxa1, nxa2, nxa3, nxa4, nxa5, nxa6, nxa7, nxa8, nxa9, nxa10, nxs1, nxs10, nxss, nI_add, nI_clamp, mnar0, mnar1, Nat.add_sub_cancel]
        refine l_il rfl (nIn (by omega) (by omega)) ?_
        try dsimp only [Nat.reduceAdd]
        try simp (disch := omega) only [nx10, nx4, nx32, nxa0, nxa1, nxa2, nxa3, nxa4, nxa5, nxa6, nxa7, nxa8, nxa9, nxa10, nxs1, nxs10, nxss, nI_add, nI_clamp, mnar0, mnar1, Nat.add_sub_cancel]
        refine ok_cm (vs := [_, _, _, _]) rfl rfl rfl rfl (Nat.le_of_ble_eq_true rfl) (Nat.le_of_ble_eq_true rfl) (by show xcl0 2 9 _ _ = true; simp [xcl0, hm.1]) (by decide) hW (sp107 hW hm hj) ?_
        rintro _ h238 ⟨⟨x242, rfl⟩, S1, A1, B1, M1, hm, hj, hs⟩ k239 al240
        dsimp only [Option.toList, List.cons_append, List.nil_append, Nat.reduceAdd]
        have hW := k239.1
        have z243 := al240 rfl
        try dsimp only at z243
        have hI := hI.kp k239 (by decide)
        have hS2 := hs.trans hS2
        iterate 3 (refine ok_st rfl rfl ?_; simp only [okS_some, xst, xp0, xp1, xp2, xp3, xp4, xp5, xload, xstore, xget_0, xget_s, xs_0, xs_1n, xs_1i, xs_1r, xs_1u, xs_1l, xs_s, xt_0, xt_1n, xt_1i, xt_1r, xt_1u, xt_1l, xt_s, xisref, xq0, Value.category, xcat, List.map_nil, List.map_cons, List.sum_nil, List.sum_cons, List.length_cons, List.length_nil, List.getElem?_cons_zero, List.getElem?_cons_succ, xmap_s, if_true, and_self, Nat.reduceAdd, Nat.reduceLT, Nat.reduceLeDiff, Nat.reduceEqDiff, Nat.lt_add_one, Nat.zero_le, Nat.le_refl, Nat.le_zero_eq, Nat.zero_lt_succ, xldc, kbm10, kbm9, kbm8, kbm7, kbm6, kbm5, kbm4, kbm3, kbm2, kb6, kb7, kb8, kb9, kb10, kb11, kb16, kb19, kb20, kb30, kb31, kb32, kb34, kb40, kb64, kb100, kb127, kim1, ki0, ki1, ki2, ki3, ki4, ki5, ks128, ks400, ks999, ks1000, ks4010])
        try simp (disch := omega) only [nx10, nx4, nx32, nxa0, nxa1, nxa2, nxa3, nxa4, nxa5, nxa6, nxa7, nxa8, nxa9, nxa10, nxs1, nxs10, nxss, nI_add, nI_clamp, mnar0, mnar1, Nat.add_sub_cancel]
        refine ok_st rfl rfl ?_
        simp only [okS_some, xst, xp0, xp1, xp2, xp3, xp4, xp5, xload, xstore, xget_0, xget_s, xs_0, xs_1n, xs_1i, xs_1r, xs_1u, xs_1l, xs_s, xt_0, xt_1n, xt_1i, xt_1r, xt_1u, xt_1l, xt_s, xisref, xq0, Value.category, xcat, List.map_nil, List.map_cons, List.sum_nil, List.sum_cons, List.length_cons, List.length_nil, List.getElem?_cons_zero, List.getElem?_cons_succ, xmap_s, if_true, and_self, Nat.reduceAdd, Nat.reduceLT, Nat.reduceLeDiff, Nat.reduceEqDiff, Nat.lt_add_one, Nat.zero_le, Nat.le_refl, Nat.le_zero_eq, Nat.zero_lt_succ, xldc, kbm10, kbm9, kbm8, kbm7, kbm6, kbm5, kbm4, kbm3, kbm2, kb6, kb7, kb8, kb9, kb10, kb11, kb16, kb19, kb20, kb30, kb31, kb32, kb34, kb40, kb64, kb100, kb127, kim1, ki0, ki1, ki2, ki3, ki4, ki5, ks128, ks400, ks999, ks1000, ks4010]
        rw [show nI (8 * i) + Int32.ofInt 8 = nI (8 * (i + 1)) from nI_add (8 * i) 8]
        exact ih (i := i + 1) hW ⟨_, _, _, _, _, _, _, _, _, hI.up (by omega), hm, hj, hS2, by omega, by omega⟩ (by omega) (by omega)
      · skip
        iterate 5 (refine ok_st rfl rfl ?_; simp only [okS_some, xst, xp0, xp1, xp2, xp3, xp4, xp5, xload, xstore, xget_0, xget_s, xs_0, xs_1n, xs_1i, xs_1r, xs_1u, xs_1l, xs_s, xt_0, xt_1n, xt_1i, xt_1r, xt_1u, xt_1l, xt_s, xisref, xq0, Value.category, xcat, List.map_nil, List.map_cons, List.sum_nil, List.sum_cons, List.length_cons, List.length_nil, List.getElem?_cons_zero, List.getElem?_cons_succ, xmap_s, if_true, and_self, Nat.reduceAdd, Nat.reduceLT, Nat.reduceLeDiff, Nat.reduceEqDiff, Nat.lt_add_one, Nat.zero_le, Nat.le_refl, Nat.le_zero_eq, Nat.zero_lt_succ, xldc, kbm10, kbm9, kbm8, kbm7, kbm6, kbm5, kbm4, kbm3, kbm2, kb6, kb7, kb8, kb9, kb10, kb11, kb16, kb19, kb20, kb30, kb31, kb32, kb34, kb40, kb64, kb100, kb127, kim1, ki0, ki1, ki2, ki3, ki4, ki5, ks128, ks400, ks999, ks1000, ks4010])
        try simp (disch := omega) only [nx10, nx4, nx32, nxa0, nxa1, nxa2, nxa3, nxa4, nxa5, nxa6, nxa7, nxa8, nxa9, nxa10, nxs1, nxs10, nxss, nI_add, nI_clamp, mnar0, mnar1, Nat.add_sub_cancel]
        refine l_il rfl (nIn (by omega) (by omega)) ?_
        try dsimp only [Nat.reduceAdd]
        try simp (disch := omega) only [nx10, nx4, nx32, nxa0, nxa1, nxa2, nxa3, nxa4, nxa5, nxa6, nxa7, nxa8, nxa9, nxa10, nxs1, nxs10, nxss, nI_add, nI_clamp, mnar0, mnar1, Nat.add_sub_cancel]
        iterate 4 (refine ok_st rfl rfl ?_; simp only [okS_some, xst, xp0, xp1, xp2, xp3, xp4, xp5, xload, xstore, xget_0, xget_s, xs_0, xs_1n, xs_1i, xs_1r, xs_1u, xs_1l, xs_s, xt_0, xt_1n, xt_1i, xt_1r, xt_1u, xt_1l, xt_s, xisref, xq0, Value.category, xcat, List.map_nil, List.map_cons, List.sum_nil, List.sum_cons, List.length_cons, List.length_nil, List.getElem?_cons_zero, List.getElem?_cons_succ, xmap_s, if_true, and_self, Nat.reduceAdd, Nat.reduceLT, Nat.reduceLeDiff, Nat.reduceEqDiff, Nat.lt_add_one, Nat.zero_le, Nat.le_refl, Nat.le_zero_eq, Nat.zero_lt_succ, xldc, kbm10, kbm9, kbm8, kbm7, kbm6, kbm5, kbm4, kbm3, kbm2, kb6, kb7, kb8, kb9, kb10, kb11, kb16, kb19, kb20, kb30, kb31, kb32, kb34, kb40, kb64, kb100, kb127, kim1, ki0, ki1, ki2, ki3, ki4, ki5, ks128, ks400, ks999, ks1000, ks4010])
        try simp (disch := omega) only [nx10, nx4, nx32, nxa0, nxa1, nxa2, nxa3, nxa4, nxa5, nxa6, nxa7, nxa8, nxa9, nxa10, nxs1, nxs10, nxss, nI_add, nI_clamp, mnar0, mnar1, Nat.add_sub_cancel]
        refine l_il rfl (nIn (by omega) (by omega)) ?_
        try dsimp only [Nat.reduceAdd]
        try simp (disch := omega) only [nx10, nx4, nx32, nxa0, nxa1, nxa2, nxa3, nxa4, nxa5, nxa6, nxa7, nxa8, nxa9, nxa10, nxs1, nxs10, nxss, nI_add, nI_clamp, mnar0, mnar1, Nat.add_sub_cancel]
        refine ok_cm (vs := [_, _, _]) rfl rfl rfl rfl (Nat.le_of_ble_eq_true rfl) (Nat.le_of_ble_eq_true rfl) (by show xcl0 2 8 _ _ = true; simp [xcl0, hI.1]) (by decide) hW (sp55 hW hI) ?_
        rintro _ h244 ⟨⟨⟨x248, rfl⟩, vdc, hI⟩, z249, z250⟩ k245 al246
        dsimp only [Option.toList, List.cons_append, List.nil_append, Nat.reduceAdd]
        try dsimp only at z249 z250
        have hW := k245.1
        obtain ⟨B, hm⟩ := hm.kq k245 (by decide)
        iterate 6 (refine ok_st rfl rfl ?_; simp only [okS_some, xst, xp0, xp1, xp2, xp3, xp4, xp5, xload, xstore, xget_0, xget_s, xs_0, xs_1n, xs_1i, xs_1r, xs_1u, xs_1l, xs_s, xt_0, xt_1n, xt_1i, xt_1r, xt_1u, xt_1l, xt_s, xisref, xq0, Value.category, xcat, List.map_nil, List.map_cons, List.sum_nil, List.sum_cons, List.length_cons, List.length_nil, List.getElem?_cons_zero, List.getElem?_cons_succ, xmap_s, if_true, and_self, Nat.reduceAdd, Nat.reduceLT, Nat.reduceLeDiff, Nat.reduceEqDiff, Nat.lt_add_one, Nat.zero_le, Nat.le_refl, Nat.le_zero_eq, Nat.zero_lt_succ, xldc, kbm10, kbm9, kbm8, kbm7, kbm6, kbm5, kbm4, kbm3, kbm2, kb6, kb7, kb8, kb9, kb10, kb11, kb16, kb19, kb20, kb30, kb31, kb32, kb34, kb40, kb64, kb100, kb127, kim1, ki0, ki1, ki2, ki3, ki4, ki5, ks128, ks400, ks999, ks1000, ks4010])
        try simp (disch := omega) only [nx10, nx4, nx32, nxa0, nxa1, nxa2, nxa3, nxa4, nxa5, nxa6, nxa7, nxa8, nxa9, nxa10, nxs1, nxs10, nxss, nI_add, nI_clamp, mnar0, mnar1, Nat.add_sub_cancel]
        refine l_il rfl (nIn (by omega) (by omega)) ?_
        try dsimp only [Nat.reduceAdd]
        try simp (disch := omega) only [nx10, nx4, nx32, nxa0, nxa1, nxa2, nxa3, nxa4, nxa5, nxa6, nxa7, nxa8, nxa9, nxa10, nxs1, nxs10, nxss, nI_add, nI_clamp, mnar0, mnar1, Nat.add_sub_cancel]
        iterate 4 (refine ok_st rfl rfl ?_; simp only [okS_some, xst, xp0, xp1, xp2, xp3, xp4, xp5, xload, xstore, xget_0, xget_s, xs_0, xs_1n, xs_1i, xs_1r, xs_1u, xs_1l, xs_s, xt_0, xt_1n, xt_1i, xt_1r, xt_1u, xt_1l, xt_s, xisref, xq0, Value.category, xcat, List.map_nil, List.map_cons, List.sum_nil, List.sum_cons, List.length_cons, List.length_nil, List.getElem?_cons_zero, List.getElem?_cons_succ, xmap_s, if_true, and_self, Nat.reduceAdd, Nat.reduceLT, Nat.reduceLeDiff, Nat.reduceEqDiff, Nat.lt_add_one, Nat.zero_le, Nat.le_refl, Nat.le_zero_eq, Nat.zero_lt_succ, xldc, kbm10, kbm9, kbm8, kbm7, kbm6, kbm5, kbm4, kbm3, kbm2, kb6, kb7, kb8, kb9, kb10, kb11, kb16, kb19, kb20, kb30, kb31, kb32, kb34, kb40, kb64, kb100, kb127, kim1, ki0, ki1, ki2, ki3, ki4, ki5, ks128, ks400, ks999, ks1000, ks4010])
        try simp (disch := omega) only [nx10, nx4, nx32, nxa0, nxa1, nxa2, nxa3, nxa4, nxa5, nxa6, nxa7, nxa8, nxa9, nxa10, nxs1, nxs10, nxss, nI_add, nI_clamp, mnar0, mnar1, Nat.add_sub_cancel]
        refine l_il rfl (nIn (by omega) (by omega)) ?_
        try dsimp only [Nat.reduceAdd]
        try simp (disch := omega) only [nx10, nx4, nx32, nxa0, nxa1, nxa2, nxa3, nxa4, nxa5, nxa6, nxa7, nxa8, nxa9, nxa10, nxs1, nxs10, nxss, nI_add, nI_clamp, mnar0, mnar1, Nat.add_sub_cancel]
        refine ok_cm (vs := [_, _, _]) rfl rfl rfl rfl (Nat.le_of_ble_eq_true rfl) (Nat.le_of_ble_eq_true rfl) (by show xcl0 2 9 _ _ = true; simp [xcl0, hm.1]) (by decide) hW (sp109 hW hm hj) ?_
        rintro vv h252 ⟨VD, hv, S1, A1, B1, M1, hm, hj, hs⟩ k253 al254
        obtain ⟨x256, rfl⟩ : ∃ x, vv = some (.int x) := by rcases hv with q | q <;> exact ⟨_, q.1⟩
        dsimp only [Option.toList, List.cons_append, List.nil_append, Nat.reduceAdd]
        have hW := k253.1
        have z257 := al254 rfl
        try dsimp only at z257
        have hI := hI.kp k253 (by decide)
        have hS2 := hs.trans hS2
        iterate 3 (refine ok_st rfl rfl ?_; simp only [okS_some, xst, xp0, xp1, xp2, xp3, xp4, xp5, xload, xstore, xget_0, xget_s, xs_0, xs_1n, xs_1i, xs_1r, xs_1u, xs_1l, xs_s, xt_0, xt_1n, xt_1i, xt_1r, xt_1u, xt_1l, xt_s, xisref, xq0, Value.category, xcat, List.map_nil, List.map_cons, List.sum_nil, List.sum_cons, List.length_cons, List.length_nil, List.getElem?_cons_zero, List.getElem?_cons_succ, xmap_s, if_true, and_self, Nat.reduceAdd, Nat.reduceLT, Nat.reduceLeDiff, Nat.reduceEqDiff, Nat.lt_add_one, Nat.zero_le, Nat.le_refl, Nat.le_zero_eq, Nat.zero_lt_succ, xldc, kbm10, kbm9, kbm8, kbm7, kbm6, kbm5, kbm4, kbm3, kbm2, kb6, kb7, kb8, kb9, kb10, kb11, kb16, kb19, kb20, kb30, kb31, kb32, kb34, kb40, kb64, kb100, kb127, kim1, ki0, ki1, ki2, ki3, ki4, ki5, ks128, ks400, ks999, ks1000, ks4010])
        try simp (disch := omega) only [nx10, nx4, nx32, nxa0, nxa1, nxa2, nxa3, nxa4, nxa5, nxa6, nxa7, nxa8, nxa9, nxa10, nxs1, nxs10, nxss, nI_add, nI_clamp, mnar0, mnar1, Nat.add_sub_cancel]
        refine ok_st rfl rfl ?_
        simp only [okS_some, xst, xp0, xp1, xp2, xp3, xp4, xp5, xload, xstore, xget_0, xget_s, xs_0, xs_1n, xs_1i, xs_1r, xs_1u, xs_1l, xs_s, xt_0, xt_1n, xt_1i, xt_1r, xt_1u, xt_1l, xt_s, xisref, xq0, Value.category, xcat, List.map_nil, List.map_cons, List.sum_nil, List.sum_cons, List.length_cons, List.length_nil, List.getElem?_cons_zero, List.getElem?_cons_succ, xmap_s, if_true, and_self, Nat.reduceAdd, Nat.reduceLT, Nat.reduceLeDiff, Nat.reduceEqDiff, Nat.lt_add_one, Nat.zero_le, Nat.le_refl, Nat.le_zero_eq, Nat.zero_lt_succ, xldc, kbm10, kbm9, kbm8, kbm7, kbm6, kbm5, kbm4, kbm3, kbm2, kb6, kb7, kb8, kb9, kb10, kb11, kb16, kb19, kb20, kb30, kb31, kb32, kb34, kb40, kb64, kb100, kb127, kim1, ki0, ki1, ki2, ki3, ki4, ki5, ks128, ks400, ks999, ks1000, ks4010]
        rw [show nI (8 * i) + Int32.ofInt 8 = nI (8 * (i + 1)) from nI_add (8 * i) 8]
        exact ih (i := i + 1) hW ⟨_, _, _, _, _, _, _, _, _, hI.up (by omega), hm, hj, hS2, by omega, by omega⟩ (by omega) (by omega)
      · skip
        iterate 5 (refine ok_st rfl rfl ?_; simp only [okS_some, xst, xp0, xp1, xp2, xp3, xp4, xp5, xload, xstore, xget_0, xget_s, xs_0, xs_1n, xs_1i, xs_1r, xs_1u, xs_1l, xs_s, xt_0, xt_1n, xt_1i, xt_1r, xt_1u, xt_1l, xt_s, xisref, xq0, Value.category, xcat, List.map_nil, List.map_cons, List.sum_nil, List.sum_cons, List.length_cons, List.length_nil, List.getElem?_cons_zero, List.getElem?_cons_succ, xmap_s, if_true, and_self, Nat.reduceAdd, Nat.reduceLT, Nat.reduceLeDiff, Nat.reduceEqDiff, Nat.lt_add_one, Nat.zero_le, Nat.le_refl, Nat.le_zero_eq, Nat.zero_lt_succ, xldc, kbm10, kbm9, kbm8, kbm7, kbm6, kbm5, kbm4, kbm3, kbm2, kb6, kb7, kb8, kb9, kb10, kb11, kb16, kb19, kb20, kb30, kb31, kb32, kb34, kb40, kb64, kb100, kb127, kim1, ki0, ki1, ki2, ki3, ki4, ki5, ks128, ks400, ks999, ks1000, ks4010])
        try simp (disch := omega) only [nx10, nx4, nx32, nxa0, nxa1, nxa2, nxa3, nxa4, nxa5, nxa6, nxa7, nxa8, nxa9, nxa10, nxs1, nxs10, nxss, nI_add, nI_clamp, mnar0, mnar1, Nat.add_sub_cancel]
        refine l_il rfl (nIn (by omega) (by omega)) ?_
        try dsimp only [Nat.reduceAdd]
        try simp (disch := omega) only [nx10, nx4, nx32, nxa0, nxa1, nxa2, nxa3, nxa4, nxa5, nxa6, nxa7, nxa8, nxa9, nxa10, nxs1, nxs10, nxss, nI_add, nI_clamp, mnar0, mnar1, Nat.add_sub_cancel]
        iterate 4 (refine ok_st rfl rfl ?_; simp only [okS_some, xst, xp0, xp1, xp2, xp3, xp4, xp5, xload, xstore, xget_0, xget_s, xs_0, xs_1n, xs_1i, xs_1r, xs_1u, xs_1l, xs_s, xt_0, xt_1n, xt_1i, xt_1r, xt_1u, xt_1l, xt_s, xisref, xq0, Value.category, xcat, List.map_nil, List.map_cons, List.sum_nil, List.sum_cons, List.length_cons, List.length_nil, List.getElem?_cons_zero, List.getElem?_cons_succ, xmap_s, if_true, and_self, Nat.reduceAdd, Nat.reduceLT, Nat.reduceLeDiff, Nat.reduceEqDiff, Nat.lt_add_one, Nat.zero_le, Nat.le_refl, Nat.le_zero_eq, Nat.zero_lt_succ, xldc, kbm10, kbm9, kbm8, kbm7, kbm6, kbm5, kbm4, kbm3, kbm2, kb6, kb7, kb8, kb9, kb10, kb11, kb16, kb19, kb20, kb30, kb31, kb32, kb34, kb40, kb64, kb100, kb127, kim1, ki0, ki1, ki2, ki3, ki4, ki5, ks128, ks400, ks999, ks1000, ks4010])
        try simp (disch := omega) only [nx10, nx4, nx32, nxa0, nxa1, nxa2, nxa3, nxa4, nxa5, nxa6, nxa7, nxa8, nxa9, nxa10, nxs1, nxs10, nxss, nI_add, nI_clamp, mnar0, mnar1, Nat.add_sub_cancel]
        refine l_il rfl (nIn (by omega) (by omega)) ?_
        try dsimp only [Nat.reduceAdd]
        try simp (disch := omega) only [nx10, nx4, nx32, nxa0, nxa1, nxa2, nxa3, nxa4, nxa5, nxa6, nxa7, nxa8, nxa9, nxa10, nxs1, nxs10, nxss, nI_add, nI_clamp, mnar0, mnar1, Nat.add_sub_cancel]
        refine ok_cm (vs := [_, _, _]) rfl rfl rfl rfl (Nat.le_of_ble_eq_true rfl) (Nat.le_of_ble_eq_true rfl) (by show xcl0 2 8 _ _ = true; simp [xcl0, hI.1]) (by decide) hW (sp56 hW hI) ?_
        rintro _ h258 ⟨x262, rfl⟩ k259 al260
        dsimp only [Option.toList, List.cons_append, List.nil_append, Nat.reduceAdd]
        have hW := k259.1
        have z265 := al260 rfl
        try dsimp only at z265
        obtain ⟨B, hm⟩ := hm.kq k259 (by decide)
        have hI := hI.kp k259 (by decide)
        iterate 6 (refine ok_st rfl rfl ?_; simp only [okS_some, xst, xp0, xp1, xp2, xp3, xp4, xp5, xload, xstore, xget_0, xget_s, xs_0, xs_1n, xs_1i, xs_1r, xs_1u, xs_1l, xs_s, xt_0, xt_1n, xt_1i, xt_1r, xt_1u, xt_1l, xt_s, xisref, xq0, Value.category, xcat, List.map_nil, List.map_cons, List.sum_nil, List.sum_cons, List.length_cons, List.length_nil, List.getElem?_cons_zero, List.getElem?_cons_succ, xmap_s, if_true, and_self, Nat.reduceAdd, Nat.reduceLT, Nat.reduceLeDiff, Nat.reduceEqDiff, Nat.lt_add_one, Nat.zero_le, Nat.le_refl, Nat.le_zero_eq, Nat.zero_lt_succ, xldc, kbm10, kbm9, kbm8, kbm7, kbm6, kbm5, kbm4, kbm3, kbm2, kb6, kb7, kb8, kb9, kb10, kb11, kb16, kb19, kb20, kb30, kb31, kb32, kb34, kb40, kb64, kb100, kb127, kim1, ki0, ki1, ki2, ki3, ki4, ki5, ks128, ks400, ks999, ks1000, ks4010])
        try simp (disch := omega) only [nx10, nx4, nx32, nxa0, nxa1, nxa2, nxa3, nxa4, nxa5, nxa6, nxa7, nxa8, nxa9, nxa10, nxs1, nxs10, nxss, nI_add, nI_clamp, mnar0, mnar1, Nat.add_sub_cancel]
        refine l_il rfl (nIn (by omega) (by omega)) ?_
        try dsimp only [Nat.reduceAdd]
        try simp (disch := omega) only [nx10, nx4, nx32, nxa0, nxa1, nxa2, nxa3, nxa4, nxa5, nxa6, nxa7, nxa8, nxa9, nxa10, nxs1, nxs10, nxss, nI_add, nI_clamp, mnar0, mnar1, Nat.add_sub_cancel]
        iterate 4 (refine ok_st rfl rfl ?_; simp only [okS_some, xst, xp0, xp1, xp2, xp3, xp4, xp5, xload, xstore, xget_0, xget_s, xs_0, xs_1n, xs_1i, xs_1r, xs_1u, xs_1l, xs_s, xt_0, xt_1n, xt_1i, xt_1r, xt_1u, xt_1l, xt_s, xisref, xq0, Value.category, xcat, List.map_nil, List.map_cons, List.sum_nil, List.sum_cons, List.length_cons, List.length_nil, List.getElem?_cons_zero, List.getElem?_cons_succ, xmap_s, if_true, and_self, Nat.reduceAdd, Nat.reduceLT, Nat.reduceLeDiff, Nat.reduceEqDiff, Nat.lt_add_one, Nat.zero_le, Nat.le_refl, Nat.le_zero_eq, Nat.zero_lt_succ, xldc, kbm10, kbm9, kbm8, kbm7, kbm6, kbm5, kbm4, kbm3, kbm2, kb6, kb7, kb8, kb9, kb10, kb11, kb16, kb19, kb20, kb30, kb31, kb32, kb34, kb40, kb64, kb100, kb127, kim1, ki0, ki1, ki2, ki3, ki4, ki5, ks128, ks400, ks999, ks1000, ks4010])
        try simp (disch := omega) only [nx10, nx4, nx32, nxa0, nxa1, nxa2, nxa3, nxa4, nxa5, nxa6, nxa7, nxa8, nxa9, nxa10, nxs1, nxs10, nxss, nI_add, nI_clamp, mnar0, mnar1, Nat.add_sub_cancel]
        refine l_il rfl (nIn (by omega) (by omega)) ?_
        try dsimp only [Nat.reduceAdd]
        try simp (disch := omega) only [nx10, nx4, nx32, nxa0, nxa1, nxa2, nxa3, nxa4, nxa5, nxa6, nxa7, nxa8, nxa9, nxa10, nxs1, nxs10, nxss, nI_add, nI_clamp, mnar0, mnar1, Nat.add_sub_cancel]
        refine ok_cm (vs := [_, _, _]) rfl rfl rfl rfl (Nat.le_of_ble_eq_true rfl) (Nat.le_of_ble_eq_true rfl) (by show xcl0 2 9 _ _ = true; simp [xcl0, hm.1]) (by decide) hW (sp111 hW hm hj) ?_
        rintro _ h266 ⟨⟨x270, rfl⟩, S1, A1, B1, M1, hm, hj, hs⟩ k267 al268
        dsimp only [Option.toList, List.cons_append, List.nil_append, Nat.reduceAdd]
        have hW := k267.1
        have z271 := al268 rfl
        try dsimp only at z271
        have hI := hI.kp k267 (by decide)
        have hS2 := hs.trans hS2
        iterate 3 (refine ok_st rfl rfl ?_; simp only [okS_some, xst, xp0, xp1, xp2, xp3, xp4, xp5, xload, xstore, xget_0, xget_s, xs_0, xs_1n, xs_1i, xs_1r, xs_1u, xs_1l, xs_s, xt_0, xt_1n, xt_1i, xt_1r, xt_1u, xt_1l, xt_s, xisref, xq0, Value.category, xcat, List.map_nil, List.map_cons, List.sum_nil, List.sum_cons, List.length_cons, List.length_nil, List.getElem?_cons_zero, List.getElem?_cons_succ, xmap_s, if_true, and_self, Nat.reduceAdd, Nat.reduceLT, Nat.reduceLeDiff, Nat.reduceEqDiff, Nat.lt_add_one, Nat.zero_le, Nat.le_refl, Nat.le_zero_eq, Nat.zero_lt_succ, xldc, kbm10, kbm9, kbm8, kbm7, kbm6, kbm5, kbm4, kbm3, kbm2, kb6, kb7, kb8, kb9, kb10, kb11, kb16, kb19, kb20, kb30, kb31, kb32, kb34, kb40, kb64, kb100, kb127, kim1, ki0, ki1, ki2, ki3, ki4, ki5, ks128, ks400, ks999, ks1000, ks4010])
        try simp (disch := omega) only [nx10, nx4, nx32, nxa0, nxa1, nxa2, nxa3, nxa4, nxa5, nxa6, nxa7, nxa8, nxa9, nxa10, nxs1, nxs10, nxss, nI_add, nI_clamp, mnar0, mnar1, Nat.add_sub_cancel]
        refine ok_st rfl rfl ?_
        simp only [okS_some, xst, xp0, xp1, xp2, xp3, xp4, xp5, xload, xstore, xget_0, xget_s, xs_0, xs_1n, xs_1i, xs_1r, xs_1u, xs_1l, xs_s, xt_0, xt_1n, xt_1i, xt_1r, xt_1u, xt_1l, xt_s, xisref, xq0, Value.category, xcat, List.map_nil, List.map_cons, List.sum_nil, List.sum_cons, List.length_cons, List.length_nil, List.getElem?_cons_zero, List.getElem?_cons_succ, xmap_s, if_true, and_self, Nat.reduceAdd, Nat.reduceLT, Nat.reduceLeDiff, Nat.reduceEqDiff, Nat.lt_add_one, Nat.zero_le, Nat.le_refl, Nat.le_zero_eq, Nat.zero_lt_succ, xldc, kbm10, kbm9, kbm8, kbm7, kbm6, kbm5, kbm4, kbm3, kbm2, kb6, kb7, kb8, kb9, kb10, kb11, kb16, kb19, kb20, kb30, kb31, kb32, kb34, kb40, kb64, kb100, kb127, kim1, ki0, ki1, ki2, ki3, ki4, ki5, ks128, ks400, ks999, ks1000, ks4010]
        rw [show nI (8 * i) + Int32.ofInt 8 = nI (8 * (i + 1)) from nI_add (8 * i) 8]
        exact ih (i := i + 1) hW ⟨_, _, _, _, _, _, _, _, _, hI.up (by omega), hm, hj, hS2, by omega, by omega⟩ (by omega) (by omega)
      · skip
        iterate 5 (refine ok_st rfl rfl ?_; simp only [okS_some, xst, xp0, xp1, xp2, xp3, xp4, xp5, xload, xstore, xget_0, xget_s, xs_0, xs_1n, xs_1i, xs_1r, xs_1u, xs_1l, xs_s, xt_0, xt_1n, xt_1i, xt_1r, xt_1u, xt_1l, xt_s, xisref, xq0, Value.category, xcat, List.map_nil, List.map_cons, List.sum_nil, List.sum_cons, List.length_cons, List.length_nil, List.getElem?_cons_zero, List.getElem?_cons_succ, xmap_s, if_true, and_self, Nat.reduceAdd, Nat.reduceLT, Nat.reduceLeDiff, Nat.reduceEqDiff, Nat.lt_add_one, Nat.zero_le, Nat.le_refl, Nat.le_zero_eq, Nat.zero_lt_succ, xldc, kbm10, kbm9, kbm8, kbm7, kbm6, kbm5, kbm4, kbm3, kbm2, kb6, kb7, kb8, kb9, kb10, kb11, kb16, kb19, kb20, kb30, kb31, kb32, kb34, kb40, kb64, kb100, kb127, kim1, ki0, ki1, ki2, ki3, ki4, ki5, ks128, ks400, ks999, ks1000, ks4010])
        try simp (disch := omega) only [nx10, nx4, nx32, nxa0, nxa1, nxa2, nxa3, nxa4, nxa5, nxa6, nxa7, nxa8, nxa9, nxa10, nxs1, nxs10, nxss, nI_add, nI_clamp, mnar0, mnar1, Nat.add_sub_cancel]
        refine l_il rfl (nIn (by omega) (by omega)) ?_
        try dsimp only [Nat.reduceAdd]
        try simp (disch := omega) only [nx10, nx4, nx32, nxa0, nxa1, nxa2, nxa3, nxa4, nxa5, nxa6, nxa7, nxa8, nxa9, nxa10, nxs1, nxs10, nxss, nI_add, nI_clamp, mnar0, mnar1, Nat.add_sub_cancel]
        iterate 4 (refine ok_st rfl rfl ?_; simp only [okS_some, xst, xp0, xp1, xp2, xp3, xp4, xp5, xload, xstore, xget_0, xget_s, xs_0, xs_1n, xs_1i, xs_1r, xs_1u, xs_1l, xs_s, xt_0, xt_1n, xt_1i, xt_1r, xt_1u, xt_1l, xt_s, xisref, xq0, Value.category, xcat, List.map_nil, List.map_cons, List.sum_nil, List.sum_cons, List.length_cons, List.length_nil, List.getElem?_cons_zero, List.getElem?_cons_succ, xmap_s, if_true, and_self, Nat.reduceAdd, Nat.reduceLT, Nat.reduceLeDiff, Nat.reduceEqDiff, Nat.lt_add_one, Nat.zero_le, Nat.le_refl, Nat.le_zero_eq, Nat.zero_lt_succ, xldc, kbm10, kbm9, kbm8, kbm7, kbm6, kbm5, kbm4, kbm3, kbm2, kb6, kb7, kb8, kb9, kb10, kb11, kb16, kb19, kb20, kb30, kb31, kb32, kb34, kb40, kb64, kb100, kb127, kim1, ki0, ki1, ki2, ki3, ki4, ki5, ks128, ks400, ks999, ks1000, ks4010])
        try simp (disch := omega) only [nx10, nx4, nx32, nxa0, nxa1, nxa2, nxa3, nxa4, nxa5, nxa6, nxa7, nxa8, nxa9, nxa10, nxs1, nxs10, nxss, nI_add, nI_clamp, mnar0, mnar1, Nat.add_sub_cancel]
        refine l_il rfl (nIn (by omega) (by omega)) ?_
        try dsimp only [Nat.reduceAdd]
        try simp (disch := omega) only [nx10, nx4, nx32, nxa0, nxa1, nxa2, nxa3, nxa4, nxa5, nxa6, nxa7, nxa8, nxa9, nxa10, nxs1, nxs10, nxss, nI_add, nI_clamp, mnar0, mnar1, Nat.add_sub_cancel]
        refine ok_cm (vs := [_, _, _]) rfl rfl rfl rfl (Nat.le_of_ble_eq_true rfl) (Nat.le_of_ble_eq_true rfl) (by show xcl0 2 8 _ _ = true; simp [xcl0, hI.1]) (by decide) hW (sp57 hW hI) ?_
        rintro _ h272 ⟨x276, rfl⟩ k273 al274
        dsimp only [Option.toList, List.cons_append, List.nil_append, Nat.reduceAdd]
        have hW := k273.1
        have z279 := al274 rfl
        try dsimp only at z279
        obtain ⟨B, hm⟩ := hm.kq k273 (by decide)
        have hI := hI.kp k273 (by decide)
        iterate 6 (refine ok_st rfl rfl ?_; simp only [okS_some, xst, xp0, xp1, xp2, xp3, xp4, xp5, xload, xstore, xget_0, xget_s, xs_0, xs_1n, xs_1i, xs_1r, xs_1u, xs_1l, xs_s, xt_0, xt_1n, xt_1i, xt_1r, xt_1u, xt_1l, xt_s, xisref, xq0, Value.category, xcat, List.map_nil, List.map_cons, List.sum_nil, List.sum_cons, List.length_cons, List.length_nil, List.getElem?_cons_zero, List.getElem?_cons_succ, xmap_s, if_true, and_self, Nat.reduceAdd, Nat.reduceLT, Nat.reduceLeDiff, Nat.reduceEqDiff, Nat.lt_add_one, Nat.zero_le, Nat.le_refl, Nat.le_zero_eq, Nat.zero_lt_succ, xldc, kbm10, kbm9, kbm8, kbm7, kbm6, kbm5, kbm4, kbm3, kbm2, kb6, kb7, kb8, kb9, kb10, kb11, kb16, kb19, kb20, kb30, kb31, kb32, kb34, kb40, kb64, kb100, kb127, kim1, ki0, ki1, ki2, ki3, ki4, ki5, ks128, ks400, ks999, ks1000, ks4010])
        try simp (disch := omega) only [nx10, nx4, nx32, nxa0, nxa1, nxa2, nxa3, nxa4, nxa5, nxa6, nxa7, nxa8, nxa9, nxa10, nxs1, nxs10, nxss, nI_add, nI_clamp, mnar0, mnar1, Nat.add_sub_cancel]
        refine l_il rfl (nIn (by omega) (by omega)) ?_
        try dsimp only [Nat.reduceAdd]
        try simp (disch := omega) only [nx10, nx4, nx32, nxa0, nxa1, nxa2, nxa3, nxa4, nxa5, nxa6, nxa7, nxa8, nxa9, nxa10, nxs1, nxs10, nxss, nI_add, nI_clamp, mnar0, mnar1, Nat.add_sub_cancel]
        iterate 4 (refine ok_st rfl rfl ?_; simp only [okS_some, xst, xp0, xp1, xp2, xp3, xp4, xp5, xload, xstore, xget_0, xget_s, xs_0, xs_1n, xs_1i, xs_1r, xs_1u, xs_1l, xs_s, xt_0, xt_1n, xt_1i, xt_1r, xt_1u, xt_1l, xt_s, xisref, xq0, Value.category, xcat, List.map_nil, List.map_cons, List.sum_nil, List.sum_cons, List.length_cons, List.length_nil, List.getElem?_cons_zero, List.getElem?_cons_succ, xmap_s, if_true, and_self, Nat.reduceAdd, Nat.reduceLT, Nat.reduceLeDiff, Nat.reduceEqDiff, Nat.lt_add_one, Nat.zero_le, Nat.le_refl, Nat.le_zero_eq, Nat.zero_lt_succ, xldc, kbm10, kbm9, kbm8, kbm7, kbm6, kbm5, kbm4, kbm3, kbm2, kb6, kb7, kb8, kb9, kb10, kb11, kb16, kb19, kb20, kb30, kb31, kb32, kb34, kb40, kb64, kb100, kb127, kim1, ki0, ki1, ki2, ki3, ki4, ki5, ks128, ks400, ks999, ks1000, ks4010])
        try simp (disch := omega) only [nx10, nx4, nx32, nxa0, nxa1, nxa2, nxa3, nxa4, nxa5, nxa6, nxa7, nxa8, nxa9, nxa10, nxs1, nxs10, nxss, nI_add, nI_clamp, mnar0, mnar1, Nat.add_sub_cancel]
        refine l_il rfl (nIn (by omega) (by omega)) ?_
        try dsimp only [Nat.reduceAdd]
        try simp (disch := omega) only [nx10, nx4, nx32, nxa0, nxa1, nxa2, nxa3, nxa4, nxa5, nxa6, nxa7, nxa8, nxa9, nxa10, nxs1, nxs10, nxss, nI_add, nI_clamp, mnar0, mnar1, Nat.add_sub_cancel]
        refine ok_cm (vs := [_, _, _]) rfl rfl rfl rfl (Nat.le_of_ble_eq_true rfl) (Nat.le_of_ble_eq_true rfl) (by show xcl0 2 9 _ _ = true; simp [xcl0, hm.1]) (by decide) hW (sp112 hW hm hj) ?_
        rintro _ h280 ⟨⟨x284, rfl⟩, S1, A1, B1, M1, hm, hj, hs⟩ k281 al282
        dsimp only [Option.toList, List.cons_append, List.nil_append, Nat.reduceAdd]
        have hW := k281.1
        have z285 := al282 rfl
        try dsimp only at z285
        have hI := hI.kp k281 (by decide)
        have hS2 := hs.trans hS2
        iterate 3 (refine ok_st rfl rfl ?_; simp only [okS_some, xst, xp0, xp1, xp2, xp3, xp4, xp5, xload, xstore, xget_0, xget_s, xs_0, xs_1n, xs_1i, xs_1r, xs_1u, xs_1l, xs_s, xt_0, xt_1n, xt_1i, xt_1r, xt_1u, xt_1l, xt_s, xisref, xq0, Value.category, xcat, List.map_nil, List.map_cons, List.sum_nil, List.sum_cons, List.length_cons, List.length_nil, List.getElem?_cons_zero, List.getElem?_cons_succ, xmap_s, if_true, and_self, Nat.reduceAdd, Nat.reduceLT, Nat.reduceLeDiff, Nat.reduceEqDiff, Nat.lt_add_one, Nat.zero_le, Nat.le_refl, Nat.le_zero_eq, Nat.zero_lt_succ, xldc, kbm10, kbm9, kbm8, kbm7, kbm6, kbm5, kbm4, kbm3, kbm2, kb6, kb7, kb8, kb9, kb10, kb11, kb16, kb19, kb20, kb30, kb31, kb32, kb34, kb40, kb64, kb100, kb127, kim1, ki0, ki1, ki2, ki3, ki4, ki5, ks128, ks400, ks999, ks1000, ks4010])
        try simp (disch := omega) only [nx10, nx4, nx32, nxa0, nxa1, nxa2, nxa3, nxa4, nxa5, nxa6, nxa7, nxa8, nxa9, nxa10, nxs1, nxs10, nxss, nI_add, nI_clamp, mnar0, mnar1, Nat.add_sub_cancel]
        refine ok_st rfl rfl ?_
        simp only [okS_some, xst, xp0, xp1, xp2, xp3, xp4, xp5, xload, xstore, xget_0, xget_s, xs_0, xs_1n, xs_1i, xs_1r, xs_1u, xs_1l, xs_s, xt_0, xt_1n, xt_1i, xt_1r, xt_1u, xt_1l, xt_s, xisref, xq0, Value.category, xcat, List.map_nil, List.map_cons, List.sum_nil, List.sum_cons, List.length_cons, List.length_nil, List.getElem?_cons_zero, List.getElem?_cons_succ, xmap_s, if_true, and_self, Nat.reduceAdd, Nat.reduceLT, Nat.reduceLeDiff, Nat.reduceEqDiff, Nat.lt_add_one, Nat.zero_le, Nat.le_refl, Nat.le_zero_eq, Nat.zero_lt_succ, xldc, kbm10, kbm9, kbm8, kbm7, kbm6, kbm5, kbm4, kbm3, kbm2, kb6, kb7, kb8, kb9, kb10, kb11, kb16, kb19, kb20, kb30, kb31, kb32, kb34, kb40, kb64, kb100, kb127, kim1, ki0, ki1, ki2, ki3, ki4, ki5, ks128, ks400, ks999, ks1000, ks4010]
        rw [show nI (8 * i) + Int32.ofInt 8 = nI (8 * (i + 1)) from nI_add (8 * i) 8]
        exact ih (i := i + 1) hW ⟨_, _, _, _, _, _, _, _, _, hI.up (by omega), hm, hj, hS2, by omega, by omega⟩ (by omega) (by omega)
      · skip
        iterate 5 (refine ok_st rfl rfl ?_; simp only [okS_some, xst, xp0, xp1, xp2, xp3, xp4, xp5, xload, xstore, xget_0, xget_s, xs_0, xs_1n, xs_1i, xs_1r, xs_1u, xs_1l, xs_s, xt_0, xt_1n, xt_1i, xt_1r, xt_1u, xt_1l, xt_s, xisref, xq0, Value.category, xcat, List.map_nil, List.map_cons, List.sum_nil, List.sum_cons, List.length_cons, List.length_nil, List.getElem?_cons_zero, List.getElem?_cons_succ, xmap_s, if_true, and_self, Nat.reduceAdd, Nat.reduceLT, Nat.reduceLeDiff, Nat.reduceEqDiff, Nat.lt_add_one, Nat.zero_le, Nat.le_refl, Nat.le_zero_eq, Nat.zero_lt_succ, xldc, kbm10, kbm9, kbm8, kbm7, kbm6, kbm5, kbm4, kbm3, kbm2, kb6, kb7, kb8, kb9, kb10, kb11, kb16, kb19, kb20, kb30, kb31, kb32, kb34, kb40, kb64, kb100, kb127, kim1, ki0, ki1, ki2, ki3, ki4, ki5, ks128, ks400, ks999, ks1000, ks4010])
        try simp (disch := omega) only [nx10, nx4, nx32, nxa0, nxa1, nxa2, nxa3, nxa4, nxa5, nxa6, nxa7, nxa8, nxa9, nxa10, nxs1, nxs10, nxss, nI_add, nI_clamp, mnar0, mnar1, Nat.add_sub_cancel]
        refine l_il rfl (nIn (by omega) (by omega)) ?_
        try dsimp only [Nat.reduceAdd]
        try simp (disch := omega) only [nx10, nx4, nx32, nxa0, nxa1, nxa2, nxa3, nxa4, nxa5, nxa6, nxa7, nxa8, nxa9, nxa10, nxs1, nxs10, nxss, nI_add, nI_clamp, mnar0, mnar1, Nat.add_sub_cancel]
        iterate 4 (refine ok_st rfl rfl ?_; simp only [okS_some, xst, xp0, xp1, xp2, xp3, xp4, xp5, xload, xstore, xget_0, xget_s, xs_0, xs_1n, xs_1i, xs_1r, xs_1u, xs_1l, xs_s, xt_0, xt_1n, xt_1i, xt_1r, xt_1u, xt_1l, xt_s, xisref, xq0, Value.category, xcat, List.map_nil, List.map_cons, List.sum_nil, List.sum_cons, List.length_cons, List.length_nil, List.getElem?_cons_zero, List.getElem?_cons_succ, xmap_s, if_true, and_self, Nat.reduceAdd, Nat.reduceLT, Nat.reduceLeDiff, Nat.reduceEqDiff, Nat.lt_add_one, Nat.zero_le, Nat.le_refl, Nat.le_zero_eq, Nat.zero_lt_succ, xldc, kbm10, kbm9, kbm8, kbm7, kbm6, kbm5, kbm4, kbm3, kbm2, kb6, kb7, kb8, kb9, kb10, kb11, kb16, kb19, kb20, kb30, kb31, kb32, kb34, kb40, kb64, kb100, kb127, kim1, ki0, ki1, ki2, ki3, ki4, ki5, ks128, ks400, ks999, ks1000, ks4010])
        try simp (disch := omega) only [nx10, nx4, nx32, nxa0, nxa1, nxa2, nxa3, nxa4, nxa5, nxa6, nxa7, nxa8, nxa9, nxa10, nxs1, nxs10, nxss, nI_add, nI_clamp, mnar0, mnar1, Nat.add_sub_cancel]
        refine l_il rfl (nIn (by omega) (by omega)) ?_
        try dsimp only [Nat.reduceAdd]
        try simp (disch := omega) only [nx10, nx4, nx32, nxa0, nxa1, nxa2, nxa3, nxa4, nxa5, nxa6, nxa7, nxa8, nxa9, nxa10, nxs1, nxs10, nxss, nI_add, nI_clamp, mnar0, mnar1, Nat.add_sub_cancel]
        refine ok_cm (vs := [_, _, _]) rfl rfl rfl rfl (Nat.le_of_ble_eq_true rfl) (Nat.le_of_ble_eq_true rfl) (by show xcl0 2 8 _ _ = true; simp [xcl0, hI.1]) (by decide) hW (sp58 hW hI) ?_
        rintro _ h286 ⟨x290, rfl⟩ k287 al288
        dsimp only [Option.toList, List.cons_append, List.nil_append, Nat.reduceAdd]
        have hW := k287.1
        have z293 := al288 rfl
        try dsimp only at z293
        obtain ⟨B, hm⟩ := hm.kq k287 (by decide)
        have hI := hI.kp k287 (by decide)
        iterate 6 (refine ok_st rfl rfl ?_; simp only [okS_some, xst, xp0, xp1, xp2, xp3, xp4, xp5, xload, xstore, xget_0, xget_s, xs_0, xs_1n, xs_1i, xs_1r, xs_1u, xs_1l, xs_s, xt_0, xt_1n, xt_1i, xt_1r, xt_1u, xt_1l, xt_s, xisref, xq0, Value.category, xcat, List.map_nil, List.map_cons, List.sum_nil, List.sum_cons, List.length_cons, List.length_nil, List.getElem?_cons_zero, List.getElem?_cons_succ, xmap_s, if_true, and_self, Nat.reduceAdd, Nat.reduceLT, Nat.reduceLeDiff, Nat.reduceEqDiff, Nat.lt_add_one, Nat.zero_le, Nat.le_refl, Nat.le_zero_eq, Nat.zero_lt_succ, xldc, kbm10, kbm9, kbm8, kbm7, kbm6, kbm5, kbm4, kbm3, kbm2, kb6, kb7, kb8, kb9, kb10, kb11, kb16, kb19, kb20, kb30, kb31, kb32, kb34, kb40, kb64, kb100, kb127, kim1, ki0, ki1, ki2, ki3, ki4, ki5, ks128, ks400, ks999, ks1000, ks4010])
        try simp (disch := omega) only [nx10, nx4, nx32, nxa0, nxa1, nxa2, nxa3, nxa4, nxa5, nxa6, nxa7, nxa8, nxa9, nxa10, nxs1, nxs10, nxss, nI_add, nI_clamp, mnar0, mnar1, Nat.add_sub_cancel]
        refine l_il rfl (nIn (by omega) (by omega)) ?_
        try dsimp only [Nat.reduceAdd]
        try simp (disch := omega) only [nx10, nx4, nx32, nxa0, nxa1, nxa2, nxa3, nxa4, nxa5, nxa6, nxa7, nxa8, nxa9, nxa10, nxs1, nxs10, nxss, nI_add, nI_clamp, mnar0, mnar1, Nat.add_sub_cancel]
        iterate 4 (refine ok_st rfl rfl ?_; simp only [okS_some, xst, xp0, xp1, xp2, xp3, xp4, xp5, xload, xstore, xget_0, xget_s, xs_0, xs_1n, xs_1i, xs_1r, xs_1u, xs_1l, xs_s, xt_0, xt_1n, xt_1i, xt_1r, xt_1u, xt_1l, xt_s, xisref, xq0, Value.category, xcat, List.map_nil, List.map_cons, List.sum_nil, List.sum_cons, List.length_cons, List.length_nil, List.getElem?_cons_zero, List.getElem?_cons_succ, xmap_s, if_true, and_self, Nat.reduceAdd, Nat.reduceLT, Nat.reduceLeDiff, Nat.reduceEqDiff, Nat.lt_add_one, Nat.zero_le, Nat.le_refl, Nat.le_zero_eq, Nat.zero_lt_succ, xldc, kbm10, kbm9, kbm8, kbm7, kbm6, kbm5, kbm4, kbm3, kbm2, kb6, kb7, kb8, kb9, kb10, kb11, kb16, kb19, kb20, kb30, kb31, kb32, kb34, kb40, kb64, kb100, kb127, kim1, ki0, ki1, ki2, ki3, ki4, ki5, ks128, ks400, ks999, ks1000, ks4010])
        try simp (disch := omega) only [nx10, nx4, nx32, nxa0, nxa1, nxa2, nxa3, nxa4, nxa5, nxa6, nxa7, nxa8, nxa9, nxa10, nxs1, nxs10, nxss, nI_add, nI_clamp, mnar0, mnar1, Nat.add_sub_cancel]
        refine l_il rfl (nIn (by omega) (by omega)) ?_
        try dsimp only [Nat.reduceAdd]
        try simp (disch := omega) only [nx10, nx4, nx32, nxa0, nxa1, nxa2, nxa3, nxa4, nxa5, nxa6, nxa7, nxa8, nxa9, nxa10, nxs1, nxs10, nxss, nI_add, nI_clamp, mnar0, mnar1, Nat.add_sub_cancel]
        refine ok_cm (vs := [_, _, _]) rfl rfl rfl rfl (Nat.le_of_ble_eq_true rfl) (Nat.le_of_ble_eq_true rfl) (by show xcl0 2 9 _ _ = true; simp [xcl0, hm.1]) (by decide) hW (sp115 hW hm hj) ?_
        rintro _ h294 ⟨⟨x298, rfl⟩, S1, A1, B1, M1, hm, hj, hs⟩ k295 al296
        dsimp only [Option.toList, List.cons_append, List.nil_append, Nat.reduceAdd]
        have hW := k295.1
        have z299 := al296 rfl
        try dsimp only at z299
        have hI := hI.kp k295 (by decide)
        have hS2 := hs.trans hS2
        iterate 3 (refine ok_st rfl rfl ?_; simp only [okS_some, xst, xp0, xp1, xp2, xp3, xp4, xp5, xload, xstore, xget_0, xget_s, xs_0, xs_1n, xs_1i, xs_1r, xs_1u, xs_1l, xs_s, xt_0, xt_1n, xt_1i, xt_1r, xt_1u, xt_1l, xt_s, xisref, xq0, Value.category, xcat, List.map_nil, List.map_cons, List.sum_nil, List.sum_cons, List.length_cons, List.length_nil, List.getElem?_cons_zero, List.getElem?_cons_succ, xmap_s, if_true, and_self, Nat.reduceAdd, Nat.reduceLT, Nat.reduceLeDiff, Nat.reduceEqDiff, Nat.lt_add_one, Nat.zero_le, Nat.le_refl, Nat.le_zero_eq, Nat.zero_lt_succ, xldc, kbm10, kbm9, kbm8, kbm7, kbm6, kbm5, kbm4, kbm3, kbm2, kb6, kb7, kb8, kb9, kb10, kb11, kb16, kb19, kb20, kb30, kb31, kb32, kb34, kb40, kb64, kb100, kb127, kim1, ki0, ki1, ki2, ki3, ki4, ki5, ks128, ks400, ks999, ks1000, ks4010])
        try simp (disch := omega) only [nx10, nx4, nx32, nxa0, nxa1, nxa2, nxa3, nxa4, nxa5, nxa6, nxa7, nxa8, nxa9, nxa10, nxs1, nxs10, nxss, nI_add, nI_clamp, mnar0, mnar1, Nat.add_sub_cancel]
        refine ok_st rfl rfl ?_
        simp only [okS_some, xst, xp0, xp1, xp2, xp3, xp4, xp5, xload, xstore, xget_0, xget_s, xs_0, xs_1n, xs_1i, xs_1r, xs_1u, xs_1l, xs_s, xt_0, xt_1n, xt_1i, xt_1r, xt_1u, xt_1l, xt_s, xisref, xq0, Value.category, xcat, List.map_nil, List.map_cons, List.sum_nil, List.sum_cons, List.length_cons, List.length_nil, List.getElem?_cons_zero, List.getElem?_cons_succ, xmap_s, if_true, and_self, Nat.reduceAdd, Nat.reduceLT, Nat.reduceLeDiff, Nat.reduceEqDiff, Nat.lt_add_one, Nat.zero_le, Nat.le_refl, Nat.le_zero_eq, Nat.zero_lt_succ, xldc, kbm10, kbm9, kbm8, kbm7, kbm6, kbm5, kbm4, kbm3, kbm2, kb6, kb7, kb8, kb9, kb10, kb11, kb16, kb19, kb20, kb30, kb31, kb32, kb34, kb40, kb64, kb100, kb127, kim1, ki0, ki1, ki2, ki3, ki4, ki5, ks128, ks400, ks999, ks1000, ks4010]
        rw [show nI (8 * i) + Int32.ofInt 8 = nI (8 * (i + 1)) from nI_add (8 * i) 8]
        exact ih (i := i + 1) hW ⟨_, _, _, _, _, _, _, _, _, hI.up (by omega), hm, hj, hS2, by omega, by omega⟩ (by omega) (by omega)
      · skip
        iterate 5 (refine ok_st rfl rfl ?_; simp only [okS_some, xst, xp0, xp1, xp2, xp3, xp4, xp5, xload, xstore, xget_0, xget_s, xs_0, xs_1n, xs_1i, xs_1r, xs_1u, xs_1l, xs_s, xt_0, xt_1n, xt_1i, xt_1r, xt_1u, xt_1l, xt_s, xisref, xq0, Value.category, xcat, List.map_nil, List.map_cons, List.sum_nil, List.sum_cons, List.length_cons, List.length_nil, List.getElem?_cons_zero, List.getElem?_cons_succ, xmap_s, if_true, and_self, Nat.reduceAdd, Nat.reduceLT, Nat.reduceLeDiff, Nat.reduceEqDiff, Nat.lt_add_one, Nat.zero_le, Nat.le_refl, Nat.le_zero_eq, Nat.zero_lt_succ, xldc, kbm10, kbm9, kbm8, kbm7, kbm6, kbm5, kbm4, kbm3, kbm2, kb6, kb7, kb8, kb9, kb10, kb11, kb16, kb19, kb20, kb30, kb31, kb32, kb34, kb40, kb64, kb100, kb127, kim1, ki0, ki1, ki2, ki3, ki4, ki5, ks128, ks400, ks999, ks1000, ks4010])
        try simp (disch := omega) only [nx10, nx4, nx32, nxa0, nxa1, nxa2, nxa3, nxa4, nxa5, nxa6, nxa7, nxa8, nxa9, nxa10, nxs1, nxs10, nxss, nI_add, nI_clamp, mnar0, mnar1, Nat.add_sub_cancel]
        refine l_il rfl (nIn (by omega) (by omega)) ?_
        try dsimp only [Nat.reduceAdd]
        try simp (disch := omega) only [nx10, nx4, nx32, nxa0, nxa1, nxa2, nxa3, nxa4, nxa5, nxa6, nxa7, nxa8, nxa9, nxa10, nxs1, nxs10, nxss, nI_add, nI_clamp, mnar0, mnar1, Nat.add_sub_cancel]
        iterate 4 (refine ok_st rfl rfl ?_; simp only [okS_some, xst, xp0, xp1, xp2, xp3, xp4, xp5, xload, xstore, xget_0, xget_s, xs_0, xs_1n, xs_1i, xs_1r, xs_1u, xs_1l, xs_s, xt_0, xt_1n, xt_1i, xt_1r, xt_1u, xt_1l, xt_s, xisref, xq0, Value.category, xcat, List.map_nil, List.map_cons, List.sum_nil, List.sum_cons, List.length_cons, List.length_nil, List.getElem?_cons_zero, List.getElem?_cons_succ, xmap_s, if_true, and_self, Nat.reduceAdd, Nat.reduceLT, Nat.reduceLeDiff, Nat.reduceEqDiff, Nat.lt_add_one, Nat.zero_le, Nat.le_refl, Nat.le_zero_eq, Nat.zero_lt_succ, xldc, kbm10, kbm9, kbm8, kbm7, kbm6, kbm5, kbm4, kbm3, kbm2, kb6, kb7, kb8, kb9, kb10, kb11, kb16, kb19, kb20, kb30, kb31, kb32, kb34, kb40, kb64, kb100, kb127, kim1, ki0, ki1, ki2, ki3, ki4, ki5, ks128, ks400, ks999, ks1000, ks4010])
        try simp (disch := omega) only [nx10, nx4, nx32, nxa0, nxa1, nxa2, nxa3, nxa4, nxa5, nxa6, nxa7, nxa8, nxa9, nxa10, nxs1, nxs10, nxss, nI_add, nI_clamp, mnar0, mnar1, Nat.add_sub_cancel]
        refine l_il rfl (nIn (by omega) (by omega)) ?_
        try dsimp only [Nat.reduceAdd]
        try simp (disch := omega) only [nx10, nx4, nx32, nxa0, nxa1, nxa2, nxa3, nxa4, nxa5, nxa6, nxa7, nxa8, nxa9, nxa10, nxs1, nxs10, nxss, nI_add, nI_clamp, mnar0, mnar1, Nat.add_sub_cancel]
        iterate 4 (refine ok_st rfl rfl ?_; simp only [okS_some, xst, xp0, xp1, xp2, xp3, xp4, xp5, xload, xstore, xget_0, xget_s, xs_0, xs_1n, xs_1i, xs_1r, xs_1u, xs_1l, xs_s, xt_0, xt_1n, xt_1i, xt_1r, xt_1u, xt_1l, xt_s, xisref, xq0, Value.category, xcat, List.map_nil, List.map_cons, List.sum_nil, List.sum_cons, List.length_cons, List.length_nil, List.getElem?_cons_zero, List.getElem?_cons_succ, xmap_s, if_true, and_self, Nat.reduceAdd, Nat.reduceLT, Nat.reduceLeDiff, Nat.reduceEqDiff, Nat.lt_add_one, Nat.zero_le, Nat.le_refl, Nat.le_zero_eq, Nat.zero_lt_succ, xldc, kbm10, kbm9, kbm8, kbm7, kbm6, kbm5, kbm4, kbm3, kbm2, kb6, kb7, kb8, kb9, kb10, kb11, kb16, kb19, kb20, kb30, kb31, kb32, kb34, kb40, kb64, kb100, kb127, kim1, ki0, ki1, ki2, ki3, ki4, ki5, ks128, ks400, ks999, ks1000, ks4010])
        try simp (disch := omega) only [nx10, nx4, nx32, nxa0, nxa1, nxa2, nxa3, nxa4, nxa5, nxa6, nxa7, nxa8, nxa9, nxa10, nxs1, nxs10, nxss, nI_add, nI_clamp, mnar0, mnar1, Nat.add_sub_cancel]
        refine l_il rfl (nIn (by omega) (by omega)) ?_
        try dsimp only [Nat.reduceAdd]
        try simp (disch := omega) only [nx10, nx4, nx32, nxa0, nxa1, nxa2, nxa3, nxa4, nxa5, nxa6, nxa7, nxa8, nxa9, nxa10, nxs1, nxs10, nxss, nI_add, nI_clamp, mnar0, mnar1, Nat.add_sub_cancel]
        refine ok_cm (vs := [_, _, _, _]) rfl rfl rfl rfl (Nat.le_of_ble_eq_true rfl) (Nat.le_of_ble_eq_true rfl) (by show xcl0 2 8 _ _ = true; simp [xcl0, hI.1]) (by decide) hW (sp59 hW hI) ?_
        rintro _ h300 ⟨x304, rfl⟩ k301 al302
        dsimp only [Option.toList, List.cons_append, List.nil_append, Nat.reduceAdd]
        have hW := k301.1
        have z307 := al302 rfl
        try dsimp only at z307
        obtain ⟨B, hm⟩ := hm.kq k301 (by decide)
        have hI := hI.kp k301 (by decide)
        iterate 6 (refine ok_st rfl rfl ?_; simp only [okS_some, xst, xp0, xp1, xp2, xp3, xp4, xp5, xload, xstore, xget_0, xget_s, xs_0, xs_1n, xs_1i, xs_1r, xs_1u, xs_1l, xs_s, xt_0, xt_1n, xt_1i, xt_1r, xt_1u, xt_1l, xt_s, xisref, xq0, Value.category, xcat, List.map_nil, List.map_cons, List.sum_nil, List.sum_cons, List.length_cons, List.length_nil, List.getElem?_cons_zero, List.getElem?_cons_succ, xmap_s, if_true, and_self, Nat.reduceAdd, Nat.reduceLT, Nat.reduceLeDiff, Nat.reduceEqDiff, Nat.lt_add_one, Nat.zero_le, Nat.le_refl, Nat.le_zero_eq, Nat.zero_lt_succ, xldc, kbm10, kbm9, kbm8, kbm7, kbm6, kbm5, kbm4, kbm3, kbm2, kb6, kb7, kb8, kb9, kb10, kb11, kb16, kb19, kb20, kb30, kb31, kb32, kb34, kb40, kb64, kb100, kb127, kim1, ki0, ki1, ki2, ki3, ki4, ki5, ks128, ks400, ks999, ks1000, ks4010])
        try simp (disch := omega) only [nx10, nx4, nx32, nxa0, nxa1, nxa2, nxa3, nxa4, nxa5, nxa6, nxa7, nxa8, nxa9, nxa10, nxs1, nxs10, nxss, nI_add, nI_clamp, mnar0, mnar1, Nat.add_sub_cancel]
        refine l_il rfl (nIn (by omega) (by omega)) ?_
        try dsimp only [Nat.reduceAdd]
        try simp (disch := omega) only [nx10, nx4, nx32, nxa0, nxa1, nxa2, nxa3, nxa4, nxa5, nxa6, nxa7, nxa8, nxa9, nxa10, nxs1, nxs10, nxss, nI_add, nI_clamp, mnar0, mnar1, Nat.add_sub_cancel]
        iterate 4 (refine ok_st rfl rfl ?_; simp only [okS_some, xst, xp0, xp1, xp2, xp3, xp4, xp5, xload, xstore, xget_0, xget_s, xs_0, xs_1n, xs_1i, xs_1r, xs_1u, xs_1l, xs_s, xt_0, xt_1n, xt_1i, xt_1r, xt_1u, xt_1l, xt_s, xisref, xq0, Value.category, xcat, List.map_nil, List.map_cons, List.sum_nil, List.sum_cons, List.length_cons, List.length_nil, List.getElem?_cons_zero, List.getElem?_cons_succ, xmap_s, if_true, and_self, Nat.reduceAdd, Nat.reduceLT, Nat.reduceLeDiff, Nat.reduceEqDiff, Nat.lt_add_one, Nat.zero_le, Nat.le_refl, Nat.le_zero_eq, Nat.zero_lt_succ, xldc, kbm10, kbm9, kbm8, kbm7, kbm6, kbm5, kbm4, kbm3, kbm2, kb6, kb7, kb8, kb9, kb10, kb11, kb16, kb19, kb20, kb30, kb31, kb32, kb34, kb40, kb64, kb100, kb127, kim1, ki0, ki1, ki2, ki3, ki4, ki5, ks128, ks400, ks999, ks1000, ks4010])
        try simp (disch := omega) only [nx10, nx4, nx32, nxa0, nxa1, nxa2, nxa3, nxa4, nxa5, nxa6, nxa7, nxa8, nxa9, nxa10, nxs1, nxs10, nxss, nI_add, nI_clamp, mnar0, mnar1, Nat.add_sub_cancel]
        refine l_il rfl (nIn (by omega) (by omega)) ?_
        try dsimp only [Nat.reduceAdd]
        try simp (disch := omega) only [nx10, nx4, nx32, nxa0, nxa1, nxa2, nxa3, nxa4, nxa5, nxa6, nxa7, nxa8, nxa9, nxa10, nxs1, nxs10, nxss, nI_add, nI_clamp, mnar0, mnar1, Nat.add_sub_cancel]
        iterate 4 (refine ok_st rfl rfl ?_; simp only [okS_some, xst, xp0, xp1, xp2, xp3, xp4, xp5, xload, xstore, xget_0, xget_s, xs_0, xs_1n, xs_1i, xs_1r, xs_1u, xs_1l, xs_s, xt_0, xt_1n, xt_1i, xt_1r, xt_1u, xt_1l, xt_s, xisref, xq0, Value.category, xcat, List.map_nil, List.map_cons, List.sum_nil, List.sum_cons, List.length_cons, List.length_nil, List.getElem?_cons_zero, List.getElem?_cons_succ, xmap_s, if_true, and_self, Nat.reduceAdd, Nat.reduceLT, Nat.reduceLeDiff, Nat.reduceEqDiff, Nat.lt_add_one, Nat.zero_le, Nat.le_refl, Nat.le_zero_eq, Nat.zero_lt_succ, xldc, kbm10, kbm9, kbm8, kbm7, kbm6, kbm5, kbm4, kbm3, kbm2, kb6, kb7, kb8, kb9, kb10, kb11, kb16, kb19, kb20, kb30, kb31, kb32, kb34, kb40, kb64, kb100, kb127, kim1, ki0, ki1, ki2, ki3, ki4, ki5, ks128, ks400, ks999, ks1000, ks4010])
        try simp (disch := omega) only [nx10, nx4, nx32, nxa0, nxa1, nxa2, nxa3, nxa4, nxa5, nxa6, nxa7, nxa8, nxa9, nxa10, nxs1, nxs10, nxss, nI_add, nI_clamp, mnar0, mnar1, Nat.add_sub_cancel]
        refine l_il rfl (nIn (by omega) (by omega)) ?_
        try dsimp only [Nat.reduceAdd]
        try simp (disch := omega) only [nx10, nx4, nx32, nxa0, nxa1, nxa2, nxa3, nxa4, nxa5, nxa6, nxa7, nxa8, nxa9, nxa10, nxs1, nxs10, nxss, nI_add, nI_clamp, mnar0, mnar1, Nat.add_sub_cancel]
        refine ok_cm (vs := [_, _, _, _]) rfl rfl rfl rfl (Nat.le_of_ble_eq_true rfl) (Nat.le_of_ble_eq_true rfl) (by show xcl0 2 9 _ _ = true; simp [xcl0, hm.1]) (by decide) hW (sp116 hW hm hj) ?_
        rintro _ h308 ⟨⟨x312, rfl⟩, S1, A1, B1, M1, hm, hj, hs⟩ k309 al310
        dsimp only [Option.toList, List.cons_append, List.nil_append, Nat.reduceAdd]
        have hW := k309.1
        have z313 := al310 rfl
        try dsimp only at z313
        have hI := hI.kp k309 (by decide)
        have hS2 := hs.trans hS2
        iterate 3 (refine ok_st rfl rfl ?_; simp only [okS_some, xst, xp0, xp1, xp2, xp3, xp4, xp5, xload, xstore, xget_0, xget_s, xs_0, xs_1n, xs_1i, xs_1r, xs_1u, xs_1l, xs_s, xt_0, xt_1n, xt_1i, xt_1r, xt_1u, xt_1l, xt_s, xisref, xq0, Value.category, xcat, List.map_nil, List.map_cons, List.sum_nil, List.sum_cons, List.length_cons, List.length_nil, List.getElem?_cons_zero, List.getElem?_cons_succ, xmap_s, if_true, and_self, Nat.reduceAdd, Nat.reduceLT, Nat.reduceLeDiff, Nat.reduceEqDiff, Nat.lt_add_one, Nat.zero_le, Nat.le_refl, Nat.le_zero_eq, Nat.zero_lt_succ, xldc, kbm10, kbm9, kbm8, kbm7, kbm6, kbm5, kbm4, kbm3, kbm2, kb6, kb7, kb8, kb9, kb10, kb11, kb16, kb19, kb20, kb30, kb31, kb32, kb34, kb40, kb64, kb100, kb127, kim1, ki0, ki1, ki2, ki3, ki4, ki5, ks128, ks400, ks999, ks1000, ks4010])
        try simp (disch := omega) only [nx10, nx4, nx32, nxa0, nxa1, nxa2, nxa3, nxa4, nxa5, nxa6, nxa7, nxa8, nxa9, nxa10, nxs1, nxs10, nxss, nI_add, nI_clamp, mnar0, mnar1, Nat.add_sub_cancel]
        refine ok_st rfl rfl ?_
        simp only [okS_some, xst, xp0, xp1, xp2, xp3, xp4, xp5, xload, xstore, xget_0, xget_s, xs_0, xs_1n, xs_1i, xs_1r, xs_1u, xs_1l, xs_s, xt_0, xt_1n, xt_1i, xt_1r, xt_1u, xt_1l, xt_s, xisref, xq0, Value.category, xcat, List.map_nil, List.map_cons, List.sum_nil, List.sum_cons, List.length_cons, List.length_nil, List.getElem?_cons_zero, List.getElem?_cons_succ, xmap_s, if_true, and_self, Nat.reduceAdd, Nat.reduceLT, Nat.reduceLeDiff, Nat.reduceEqDiff, Nat.lt_add_one, Nat.zero_le, Nat.le_refl, Nat.le_zero_eq, Nat.zero_lt_succ, xldc, kbm10, kbm9, kbm8, kbm7, kbm6, kbm5, kbm4, kbm3, kbm2, kb6, kb7, kb8, kb9, kb10, kb11, kb16, kb19, kb20, kb30, kb31, kb32, kb34, kb40, kb64, kb100, kb127, kim1, ki0, ki1, ki2, ki3, ki4, ki5, ks128, ks400, ks999, ks1000, ks4010]
        rw [show nI (8 * i) + Int32.ofInt 8 = nI (8 * (i + 1)) from nI_add (8 * i) 8]
        exact ih (i := i + 1) hW ⟨_, _, _, _, _, _, _, _, _, hI.up (by omega), hm, hj, hS2, by omega, by omega⟩ (by omega) (by omega)
      · skip
        refine ok_st rfl rfl ?_
        simp only [okS_some, xst, xp0, xp1, xp2, xp3, xp4, xp5, xload, xstore, xget_0, xget_s, xs_0, xs_1n, xs_1i, xs_1r, xs_1u, xs_1l, xs_s, xt_0, xt_1n, xt_1i, xt_1r, xt_1u, xt_1l, xt_s, xisref, xq0, Value.category, xcat, List.map_nil, List.map_cons, List.sum_nil, List.sum_cons, List.length_cons, List.length_nil, List.getElem?_cons_zero, List.getElem?_cons_succ, xmap_s, if_true, and_self, Nat.reduceAdd, Nat.reduceLT, Nat.reduceLeDiff, Nat.reduceEqDiff, Nat.lt_add_one, Nat.zero_le, Nat.le_refl, Nat.le_zero_eq, Nat.zero_lt_succ, xldc, kbm10, kbm9, kbm8, kbm7, kbm6, kbm5, kbm4, kbm3, kbm2, kb6, kb7, kb8, kb9, kb10, kb11, kb16, kb19, kb20, kb30, kb31, kb32, kb34, kb40, kb64, kb100, kb127, kim1, ki0, ki1, ki2, ki3, ki4, ki5, ks128, ks400, ks999, ks1000, ks4010]
        refine ok_cm (vs := [_]) rfl rfl rfl rfl (Nat.le_of_ble_eq_true rfl) (Nat.le_of_ble_eq_true rfl) (by show xcl0 2 8 _ _ = true; simp [xcl0, hI.1]) (by decide) hW (sp60 hW hI) ?_
        rintro _ h314 ⟨⟨⟨x318, rfl⟩, vdc, hI⟩, z319, z320⟩ k315 al316
        dsimp only [Option.toList, List.cons_append, List.nil_append, Nat.reduceAdd]
        try dsimp only at z319 z320
        have hW := k315.1
        obtain ⟨B, hm⟩ := hm.kq k315 (by decide)
        iterate 2 (refine ok_st rfl rfl ?_; simp only [okS_some, xst, xp0, xp1, xp2, xp3, xp4, xp5, xload, xstore, xget_0, xget_s, xs_0, xs_1n, xs_1i, xs_1r, xs_1u, xs_1l, xs_s, xt_0, xt_1n, xt_1i, xt_1r, xt_1u, xt_1l, xt_s, xisref, xq0, Value.category, xcat, List.map_nil, List.map_cons, List.sum_nil, List.sum_cons, List.length_cons, List.length_nil, List.getElem?_cons_zero, List.getElem?_cons_succ, xmap_s, if_true, and_self, Nat.reduceAdd, Nat.reduceLT, Nat.reduceLeDiff, Nat.reduceEqDiff, Nat.lt_add_one, Nat.zero_le, Nat.le_refl, Nat.le_zero_eq, Nat.zero_lt_succ, xldc, kbm10, kbm9, kbm8, kbm7, kbm6, kbm5, kbm4, kbm3, kbm2, kb6, kb7, kb8, kb9, kb10, kb11, kb16, kb19, kb20, kb30, kb31, kb32, kb34, kb40, kb64, kb100, kb127, kim1, ki0, ki1, ki2, ki3, ki4, ki5, ks128, ks400, ks999, ks1000, ks4010])
        refine ok_cm (vs := [_]) rfl rfl rfl rfl (Nat.le_of_ble_eq_true rfl) (Nat.le_of_ble_eq_true rfl) (by show xcl0 2 9 _ _ = true; simp [xcl0, hm.1]) (by decide) hW (sp117 hW hm hj) ?_
        rintro vv h322 ⟨VD, hv, S1, A1, B1, M1, hm, hj, hs⟩ k323 al324
        obtain ⟨x326, rfl⟩ : ∃ x, vv = some (.int x) := by rcases hv with q | q <;> exact ⟨_, q.1⟩
        dsimp only [Option.toList, List.cons_append, List.nil_append, Nat.reduceAdd]
        have hW := k323.1
        have z327 := al324 rfl
        try dsimp only at z327
        have hI := hI.kp k323 (by decide)
        have hS2 := hs.trans hS2
        iterate 3 (refine ok_st rfl rfl ?_; simp only [okS_some, xst, xp0, xp1, xp2, xp3, xp4, xp5, xload, xstore, xget_0, xget_s, xs_0, xs_1n, xs_1i, xs_1r, xs_1u, xs_1l, xs_s, xt_0, xt_1n, xt_1i, xt_1r, xt_1u, xt_1l, xt_s, xisref, xq0, Value.category, xcat, List.map_nil, List.map_cons, List.sum_nil, List.sum_cons, List.length_cons, List.length_nil, List.getElem?_cons_zero, List.getElem?_cons_succ, xmap_s, if_true, and_self, Nat.reduceAdd, Nat.reduceLT, Nat.reduceLeDiff, Nat.reduceEqDiff, Nat.lt_add_one, Nat.zero_le, Nat.le_refl, Nat.le_zero_eq, Nat.zero_lt_succ, xldc, kbm10, kbm9, kbm8, kbm7, kbm6, kbm5, kbm4, kbm3, kbm2, kb6, kb7, kb8, kb9, kb10, kb11, kb16, kb19, kb20, kb30, kb31, kb32, kb34, kb40, kb64, kb100, kb127, kim1, ki0, ki1, ki2, ki3, ki4, ki5, ks128, ks400, ks999, ks1000, ks4010])
        try simp (disch := omega) only [nx10, nx4, nx32, nxa0, nxa1, nxa2, nxa3, nxa4, nxa5, nxa6, nxa7, nxa8, nxa9, nxa10, nxs1, nxs10, nxss, nI_add, nI_clamp, mnar0, mnar1, Nat.add_sub_cancel]
        refine ok_st rfl rfl ?_
        simp only [okS_some, xst, xp0, xp1, xp2, xp3, xp4, xp5, xload, xstore, xget_0, xget_s, xs_0, xs_1n, xs_1i, xs_1r, xs_1u, xs_1l, xs_s, xt_0, xt_1n, xt_1i, xt_1r, xt_1u, xt_1l, xt_s, xisref, xq0, Value.category, xcat, List.map_nil, List.map_cons, List.sum_nil, List.sum_cons, List.length_cons, List.length_nil, List.getElem?_cons_zero, List.getElem?_cons_succ, xmap_s, if_true, and_self, Nat.reduceAdd, Nat.reduceLT, Nat.reduceLeDiff, Nat.reduceEqDiff, Nat.lt_add_one, Nat.zero_le, Nat.le_refl, Nat.le_zero_eq, Nat.zero_lt_succ, xldc, kbm10, kbm9, kbm8, kbm7, kbm6, kbm5, kbm4, kbm3, kbm2, kb6, kb7, kb8, kb9, kb10, kb11, kb16, kb19, kb20, kb30, kb31, kb32, kb34, kb40, kb64, kb100, kb127, kim1, ki0, ki1, ki2, ki3, ki4, ki5, ks128, ks400, ks999, ks1000, ks4010]
        rw [show nI (8 * i) + Int32.ofInt 8 = nI (8 * (i + 1)) from nI_add (8 * i) 8]
        exact ih (i := i + 1) hW ⟨_, _, _, _, _, _, _, _, _, hI.up (by omega), hm, hj, hS2, by omega, by omega⟩ (by omega) (by omega)
      · skip
        iterate 5 (refine ok_st rfl rfl ?_; simp only [okS_some, xst, xp0, xp1, xp2, xp3, xp4, xp5, xload, xstore, xget_0, xget_s, xs_0, xs_1n, xs_1i, xs_1r, xs_1u, xs_1l, xs_s, xt_0, xt_1n, xt_1i, xt_1r, xt_1u, xt_1l, xt_s, xisref, xq0, Value.category, xcat, List.map_nil, List.map_cons, List.sum_nil, List.sum_cons, List.length_cons, List.length_nil, List.getElem?_cons_zero, List.getElem?_cons_succ, xmap_s, if_true, and_self, Nat.reduceAdd, Nat.reduceLT, Nat.reduceLeDiff, Nat.reduceEqDiff, Nat.lt_add_one, Nat.zero_le, Nat.le_refl, Nat.le_zero_eq, Nat.zero_lt_succ, xldc, kbm10, kbm9, kbm8, kbm7, kbm6, kbm5, kbm4, kbm3, kbm2, kb6, kb7, kb8, kb9, kb10, kb11, kb16, kb19, kb20, kb30, kb31, kb32, kb34, kb40, kb64, kb100, kb127, kim1, ki0, ki1, ki2, ki3, ki4, ki5, ks128, ks400, ks999, ks1000, ks4010])
        try simp (disch := omega) only [nx10, nx4, nx32, nxa0, nxa1, nxa2, nxa3, nxa4, nxa5, nxa6, nxa7, nxa8, nxa9, nxa10, nxs1, nxs10, nxss, nI_add, nI_clamp, mnar0, mnar1, Nat.add_sub_cancel]
        refine l_il rfl (nIn (by omega) (by omega)) ?_
        try dsimp only [Nat.reduceAdd]
        try simp (disch := omega) only [nx10, nx4, nx32, nxa0, nxa1, nxa2, nxa3, nxa4, nxa5, nxa6, nxa7, nxa8, nxa9, nxa10, nxs1, nxs10, nxss, nI_add, nI_clamp, mnar0, mnar1, Nat.add_sub_cancel]
        iterate 4 (refine ok_st rfl rfl ?_; simp only [okS_some, xst, xp0, xp1, xp2, xp3, xp4, xp5, xload, xstore, xget_0, xget_s, xs_0, xs_1n, xs_1i, xs_1r, xs_1u, xs_1l, xs_s, xt_0, xt_1n, xt_1i, xt_1r, xt_1u, xt_1l, xt_s, xisref, xq0, Value.category, xcat, List.map_nil, List.map_cons, List.sum_nil, List.sum_cons, List.length_cons, List.length_nil, List.getElem?_cons_zero, List.getElem?_cons_succ, xmap_s, if_true, and_self, Nat.reduceAdd, Nat.reduceLT, Nat.reduceLeDiff, Nat.reduceEqDiff, Nat.lt_add_one, Nat.zero_le, Nat.le_refl, Nat.le_zero_eq, Nat.zero_lt_succ, xldc, kbm10, kbm9, kbm8, kbm7, kbm6, kbm5, kbm4, kbm3, kbm2, kb6, kb7, kb8, kb9, kb10, kb11, kb16, kb19, kb20, kb30, kb31, kb32, kb34, kb40, kb64, kb100, kb127, kim1, ki0, ki1, ki2, ki3, ki4, ki5, ks128, ks400, ks999, ks1000, ks4010])
        try simp (disch := omega) only [nx10, nx4, nx32, nxa0, nxa1, nxa2, nxa3, nxa4, nxa5, nxa6, nxa7, nxa8, nxa9, nxa10, nxs1, nxs10, nxss, nI_add, nI_clamp, mnar0, mnar1, Nat.add_sub_cancel]
        refine l_il rfl (nIn (by omega) (by omega)) ?_
        try dsimp only [Nat.reduceAdd]
        try simp (disch := omega) only [nx10, nx4, nx32, nxa0, nxa1, nxa2, nxa3, nxa4, nxa5, nxa6, nxa7, nxa8, nxa9, nxa10, nxs1, nxs10, nxss, nI_add, nI_clamp, mnar0, mnar1, Nat.add_sub_cancel]
        iterate 4 (refine ok_st rfl rfl ?_; simp only [okS_some, xst, xp0, xp1, xp2, xp3, xp4, xp5, xload, xstore, xget_0, xget_s, xs_0, xs_1n, xs_1i, xs_1r, xs_1u, xs_1l, xs_s, xt_0, xt_1n, xt_1i, xt_1r, xt_1u, xt_1l, xt_s, xisref, xq0, Value.category, xcat, List.map_nil, List.map_cons, List.sum_nil, List.sum_cons, List.length_cons, List.length_nil, List.getElem?_cons_zero, List.getElem?_cons_succ, xmap_s, if_true, and_self, Nat.reduceAdd, Nat.reduceLT, Nat.reduceLeDiff, Nat.reduceEqDiff, Nat.lt_add_one, Nat.zero_le, Nat.le_refl, Nat.le_zero_eq, Nat.zero_lt_succ, xldc, kbm10, kbm9, kbm8, kbm7, kbm6, kbm5, kbm4, kbm3, kbm2, kb6, kb7, kb8, kb9, kb10, kb11, kb16, kb19, kb20, kb30, kb31, kb32, kb34, kb40, kb64, kb100, kb127, kim1, ki0, ki1, ki2, ki3, ki4, ki5, ks128, ks400, ks999, ks1000, ks4010])
        try simp (disch := omega) only [nx10, nx4, nx32, nxa0, nxa1, nxa2, nxa3, nxa4, nxa5, nxa6, nxa7, nxa8, nxa9, nxa10, nxs1, nxs10, nxss, nI_add, nI_clamp, mnar0, mnar1, Nat.add_sub_cancel]
        refine l_il rfl (nIn (by omega) (by omega)) ?_
        try dsimp only [Nat.reduceAdd]
        try simp (disch := omega) only [nx10, nx4, nx32, nxa0, nxa1, nxa2, nxa3, nxa4, nxa5, nxa6, nxa7, nxa8, nxa9, nxa10, nxs1, nxs10, nxss, nI_add, nI_clamp, mnar0, mnar1, Nat.add_sub_cancel]
        refine ok_cm (vs := [_, _, _, _]) rfl rfl rfl rfl (Nat.le_of_ble_eq_true rfl) (Nat.le_of_ble_eq_true rfl) (by show xcl0 2 8 _ _ = true; simp [xcl0, hI.1]) (by decide) hW (sp61 hW hI (by omega)) ?_
        rintro _ h328 ⟨⟨x332, rfl⟩, hI, z333, z334⟩ k329 al330
        dsimp only [Option.toList, List.cons_append, List.nil_append, Nat.reduceAdd]
        try dsimp only at z333 z334
        have hW := k329.1
        obtain ⟨B, hm⟩ := hm.kq k329 (by decide)
        iterate 6 (refine ok_st rfl rfl ?_; simp only [okS_some, xst, xp0, xp1, xp2, xp3, xp4, xp5, xload, xstore, xget_0, xget_s, xs_0, xs_1n, xs_1i, xs_1r, xs_1u, xs_1l, xs_s, xt_0, xt_1n, xt_1i, xt_1r, xt_1u, xt_1l, xt_s, xisref, xq0, Value.category, xcat, List.map_nil, List.map_cons, List.sum_nil, List.sum_cons, List.length_cons, List.length_nil, List.getElem?_cons_zero, List.getElem?_cons_succ, xmap_s, if_true, and_self, Nat.reduceAdd, Nat.reduceLT, Nat.reduceLeDiff, Nat.reduceEqDiff, Nat.lt_add_one, Nat.zero_le, Nat.le_refl, Nat.le_zero_eq, Nat.zero_lt_succ, xldc, kbm10, kbm9, kbm8, kbm7, kbm6, kbm5, kbm4, kbm3, kbm2, kb6, kb7, kb8, kb9, kb10, kb11, kb16, kb19, kb20, kb30, kb31, kb32, kb34, kb40, kb64, kb100, kb127, kim1, ki0, ki1, ki2, ki3, ki4, ki5, ks128, ks400, ks999, ks1000, ks4010])
        try simp (disch := omega) only [nx10, nx4, nx32, nxa0, nxa1, nxa2, nxa3, nxa4, nxa5, nxa6, nxa7, nxa8, nxa9, nxa10, nxs1, nxs10, nxss, nI_add, nI_clamp, mnar0, mnar1, Nat.add_sub_cancel]
        refine l_il rfl (nIn (by omega) (by omega)) ?_
        try dsimp only [Nat.reduceAdd]
        try simp (disch := omega) only [nx10, nx4, nx32, nxa0, nxa1, nxa2, nxa3, nxa4, nxa5, nxa6, nxa7, nxa8, nxa9, nxa10, nxs1, nxs10, nxss, nI_add, nI_clamp, mnar0, mnar1, Nat.add_sub_cancel]
        iterate 4 (refine ok_st rfl rfl ?_; simp only [okS_some, xst, xp0, xp1, xp2, xp3, xp4, xp5, xload, xstore, xget_0, xget_s, xs_0, xs_1n, xs_1i, xs_1r, xs_1u, xs_1l, xs_s, xt_0, xt_1n, xt_1i, xt_1r, xt_1u, xt_1l, xt_s, xisref, xq0, Value.category, xcat, List.map_nil, List.map_cons, List.sum_nil, List.sum_cons, List.length_cons, List.length_nil, List.getElem?_cons_zero, List.getElem?_cons_succ, xmap_s, if_true, and_self, Nat.reduceAdd, Nat.reduceLT, Nat.reduceLeDiff, Nat.reduceEqDiff, Nat.lt_add_one, Nat.zero_le, Nat.le_refl, Nat.le_zero_eq, Nat.zero_lt_succ, xldc, kbm10, kbm9, kbm8, kbm7, kbm6, kbm5, kbm4, kbm3, kbm2, kb6, kb7, kb8, kb9, kb10, kb11, kb16, kb19, kb20, kb30, kb31, kb32, kb34, kb40, kb64, kb100, kb127, kim1, ki0, ki1, ki2, ki3, ki4, ki5, ks128, ks400, ks999, ks1000, ks4010])
        try simp (disch := omega) only [nx10, nx4, nx32, nxa0, nxa1, nxa2, nxa3, nxa4, nxa5, nxa6, nxa7, nxa8, nxa9, nxa10, nxs1, nxs10, nxss, nI_add, nI_clamp, mnar0, mnar1, Nat.add_sub_cancel]
        refine l_il rfl (nIn (by omega) (by omega)) ?_
        try dsimp only [Nat.reduceAdd]
        try simp (disch := omega) only [nx10, nx4, nx32, nxa0, nxa1, nxa2, nxa3, nxa4, nxa5, nxa6, nxa7, nxa8, nxa9, nxa10, nxs1, nxs10, nxss, nI_add, nI_clamp, mnar0, mnar1, Nat.add_sub_cancel]
        iterate 4 (refine ok_st rfl rfl ?_; simp only [okS_some, xst, xp0, xp1, xp2, xp3, xp4, xp5, xload, xstore, xget_0, xget_s, xs_0, xs_1n, xs_1i, xs_1r, xs_1u, xs_1l, xs_s, xt_0, xt_1n, xt_1i, xt_1r, xt_1u, xt_1l, xt_s, xisref, xq0, Value.category, xcat, List.map_nil, List.map_cons, List.sum_nil, List.sum_cons, List.length_cons, List.length_nil, List.getElem?_cons_zero, List.getElem?_cons_succ, xmap_s, if_true, and_self, Nat.reduceAdd, Nat.reduceLT, Nat.reduceLeDiff, Nat.reduceEqDiff, Nat.lt_add_one, Nat.zero_le, Nat.le_refl, Nat.le_zero_eq, Nat.zero_lt_succ, xldc, kbm10, kbm9, kbm8, kbm7, kbm6, kbm5, kbm4, kbm3, kbm2, kb6, kb7, kb8, kb9, kb10, kb11, kb16, kb19, kb20, kb30, kb31, kb32, kb34, kb40, kb64, kb100, kb127, kim1, ki0, ki1, ki2, ki3, ki4, ki5, ks128, ks400, ks999, ks1000, ks4010])
        try simp (disch := omega) only [nx10, nx4, nx32, nxa0, nxa1, nxa2, nxa3, nxa4, nxa5, nxa6, nxa7, nxa8, nxa9, nxa10, nxs1, nxs10, nxss, nI_add, nI_clamp, mnar0, mnar1, Nat.add_sub_cancel]
        refine l_il rfl (nIn (by omega) (by omega)) ?_
        try dsimp only [Nat.reduceAdd]
        try simp (disch := omega) only [nx10, nx4, nx32, nxa0, nxa1, nxa2, nxa3, nxa4, nxa5, nxa6, nxa7, nxa8, nxa9, nxa10, nxs1, nxs10, nxss, nI_add, nI_clamp, mnar0, mnar1, Nat.add_sub_cancel]
        refine ok_cm (vs := [_, _, _, _]) rfl rfl rfl rfl (Nat.le_of_ble_eq_true rfl) (Nat.le_of_ble_eq_true rfl) (by show xcl0 2 9 _ _ = true; simp [xcl0, hm.1]) (by decide) hW (sp119 hW hm hj) ?_
        rintro _ h336 ⟨⟨x340, rfl⟩, S1, A1, B1, M1, hm, hj, hs⟩ k337 al338
        dsimp only [Option.toList, List.cons_append, List.nil_append, Nat.reduceAdd]
        have hW := k337.1
        have z341 := al338 rfl
        try dsimp only at z341
        have hI := hI.kp k337 (by decide)
        have hS2 := hs.trans hS2
        iterate 3 (refine ok_st rfl rfl ?_; simp only [okS_some, xst, xp0, xp1, xp2, xp3, xp4, xp5, xload, xstore, xget_0, xget_s, xs_0, xs_1n, xs_1i, xs_1r, xs_1u, xs_1l, xs_s, xt_0, xt_1n, xt_1i, xt_1r, xt_1u, xt_1l, xt_s, xisref, xq0, Value.category, xcat, List.map_nil, List.map_cons, List.sum_nil, List.sum_cons, List.length_cons, List.length_nil, List.getElem?_cons_zero, List.getElem?_cons_succ, xmap_s, if_true, and_self, Nat.reduceAdd, Nat.reduceLT, Nat.reduceLeDiff, Nat.reduceEqDiff, Nat.lt_add_one, Nat.zero_le, Nat.le_refl, Nat.le_zero_eq, Nat.zero_lt_succ, xldc, kbm10, kbm9, kbm8, kbm7, kbm6, kbm5, kbm4, kbm3, kbm2, kb6, kb7, kb8, kb9, kb10, kb11, kb16, kb19, kb20, kb30, kb31, kb32, kb34, kb40, kb64, kb100, kb127, kim1, ki0, ki1, ki2, ki3, ki4, ki5, ks128, ks400, ks999, ks1000, ks4010])
        try simp (disch := omega) only [nx10, nx4, nx32, nxa0, nxa1, nxa2, nxa3, nxa4, nxa5, nxa6, nxa7, nxa8, nxa9, nxa10, nxs1, nxs10, nxss, nI_add, nI_clamp, mnar0, mnar1, Nat.add_sub_cancel]
        refine ok_st rfl rfl ?_
        simp only [okS_some, xst, xp0, xp1, xp2, xp3, xp4, xp5, xload, xstore, xget_0, xget_s, xs_0, xs_1n, xs_1i, xs_1r, xs_1u, xs_1l, xs_s, xt_0, xt_1n, xt_1i, xt_1r, xt_1u, xt_1l, xt_s, xisref, xq0, Value.category, xcat, List.map_nil, List.map_cons, List.sum_nil, List.sum_cons, List.length_cons, List.length_nil, List.getElem?_cons_zero, List.getElem?_cons_succ, xmap_s, if_true, and_self, Nat.reduceAdd, Nat.reduceLT, Nat.reduceLeDiff, Nat.reduceEqDiff, Nat.lt_add_one, Nat.zero_le, Nat.le_refl, Nat.le_zero_eq, Nat.zero_lt_succ, xldc, kbm10, kbm9, kbm8, kbm7, kbm6, kbm5, kbm4, kbm3, kbm2, kb6, kb7, kb8, kb9, kb10, kb11, kb16, kb19, kb20, kb30, kb31, kb32, kb34, kb40, kb64, kb100, kb127, kim1, ki0, ki1, ki2, ki3, ki4, ki5, ks128, ks400, ks999, ks1000, ks4010]
        rw [show nI (8 * i) + Int32.ofInt 8 = nI (8 * (i + 1)) from nI_add (8 * i) 8]
        exact ih (i := i + 1) hW ⟨_, _, _, _, _, _, _, _, _, hI.up (by omega), hm, hj, hS2, by omega, by omega⟩ (by omega) (by omega)
      · skip
        iterate 5 (refine ok_st rfl rfl ?_; simp only [okS_some, xst, xp0, xp1, xp2, xp3, xp4, xp5, xload, xstore, xget_0, xget_s, xs_0, xs_1n, xs_1i, xs_1r, xs_1u, xs_1l, xs_s, xt_0, xt_1n, xt_1i, xt_1r, xt_1u, xt_1l, xt_s, xisref, xq0, Value.category, xcat, List.map_nil, List.map_cons, List.sum_nil, List.sum_cons, List.length_cons, List.length_nil, List.getElem?_cons_zero, List.getElem?_cons_succ, xmap_s, if_true, and_self, Nat.reduceAdd, Nat.reduceLT, Nat.reduceLeDiff, Nat.reduceEqDiff, Nat.lt_add_one, Nat.zero_le, Nat.le_refl, Nat.le_zero_eq, Nat.zero_lt_succ, xldc, kbm10, kbm9, kbm8, kbm7, kbm6, kbm5, kbm4, kbm3, kbm2, kb6, kb7, kb8, kb9, kb10, kb11, kb16, kb19, kb20, kb30, kb31, kb32, kb34, kb40, kb64, kb100, kb127, kim1, ki0, ki1, ki2, ki3, ki4, ki5, ks128, ks400, ks999, ks1000, ks4010])
        try simp (disch := omega) only [nx10, nx4, nx32, nxa0, nxa1, nxa2, nxa3, nxa4, nxa5, nxa6, nxa7, nxa8, nxa9, nxa10, nxs1, nxs10, nxss, nI_add, nI_clamp, mnar0, mnar1, Nat.add_sub_cancel]
        refine l_il rfl (nIn (by omega) (by omega)) ?_
        try dsimp only [Nat.reduceAdd]
        try simp (disch := omega) only [nx10, nx4, nx32, nxa0, nxa1, nxa2, nxa3, nxa4, nxa5, nxa6, nxa7, nxa8, nxa9, nxa10, nxs1, nxs10, nxss, nI_add, nI_clamp, mnar0, mnar1, Nat.add_sub_cancel]
        refine ok_cm (vs := [_, _]) rfl rfl rfl rfl (Nat.le_of_ble_eq_true rfl) (Nat.le_of_ble_eq_true rfl) (by show xcl0 2 8 _ _ = true; simp [xcl0, hI.1]) (by decide) hW (sp62 hW hI) ?_
        intro vv h342 hv k343 al344
        obtain ⟨x346, rfl⟩ : ∃ x, vv = some (.int x) := by rcases hv with rfl | rfl <;> exact ⟨_, rfl⟩
        dsimp only [Option.toList, List.cons_append, List.nil_append, Nat.reduceAdd]
        have hW := k343.1
        have z349 := al344 rfl
        try dsimp only at z349
        obtain ⟨B, hm⟩ := hm.kq k343 (by decide)
        have hI := hI.kp k343 (by decide)
        iterate 6 (refine ok_st rfl rfl ?_; simp only [okS_some, xst, xp0, xp1, xp2, xp3, xp4, xp5, xload, xstore, xget_0, xget_s, xs_0, xs_1n, xs_1i, xs_1r, xs_1u, xs_1l, xs_s, xt_0, xt_1n, xt_1i, xt_1r, xt_1u, xt_1l, xt_s, xisref, xq0, Value.category, xcat, List.map_nil, List.map_cons, List.sum_nil, List.sum_cons, List.length_cons, List.length_nil, List.getElem?_cons_zero, List.getElem?_cons_succ, xmap_s, if_true, and_self, Nat.reduceAdd, Nat.reduceLT, Nat.reduceLeDiff, Nat.reduceEqDiff, Nat.lt_add_one, Nat.zero_le, Nat.le_refl, Nat.le_zero_eq, Nat.zero_lt_succ, xldc, kbm10, kbm9, kbm8, kbm7, kbm6, kbm5, kbm4, kbm3, kbm2, kb6, kb7, kb8, kb9, kb10, kb11, kb16, kb19, kb20, kb30, kb31, kb32, kb34, kb40, kb64, kb100, kb127, kim1, ki0, ki1, ki2, ki3, ki4, ki5, ks128, ks400, ks999, ks1000, ks4010])
        try simp (disch := omega) only [nx10, nx4, nx32, nxa0, nxa1, nxa2, nxa3, nxa4, nxa5, nxa6, nxa7, nxa8, nxa9, nxa10, nxs1, nxs10, nxss, nI_add, nI_clamp, mnar0, mnar1, Nat.add_sub_cancel]
        refine l_il rfl (nIn (by omega) (by omega)) ?_
        try dsimp only [Nat.reduceAdd]
        try simp (disch := omega) only [nx10, nx4, nx32, nxa0, nxa1, nxa2, nxa3, nxa4, nxa5, nxa6, nxa7, nxa8, nxa9, nxa10, nxs1, nxs10, nxss, nI_add, nI_clamp, mnar0, mnar1, Nat.add_sub_cancel]
        refine ok_cm (vs := [_, _]) rfl rfl rfl rfl (Nat.le_of_ble_eq_true rfl) (Nat.le_of_ble_eq_true rfl) (by show xcl0 2 9 _ _ = true; simp [xcl0, hm.1]) (by decide) hW (sp120 hW hm hj) ?_
        rintro vv h350 ⟨hv, S1, A1, B1, M1, hm, hj, hs⟩ k351 al352
        obtain ⟨x354, rfl⟩ : ∃ x, vv = some (.int x) := by rcases hv with rfl | rfl <;> exact ⟨_, rfl⟩
        dsimp only [Option.toList, List.cons_append, List.nil_append, Nat.reduceAdd]
        have hW := k351.1
        have z355 := al352 rfl
        try dsimp only at z355
        have hI := hI.kp k351 (by decide)
        have hS2 := hs.trans hS2
        iterate 3 (refine ok_st rfl rfl ?_; simp only [okS_some, xst, xp0, xp1, xp2, xp3, xp4, xp5, xload, xstore, xget_0, xget_s, xs_0, xs_1n, xs_1i, xs_1r, xs_1u, xs_1l, xs_s, xt_0, xt_1n, xt_1i, xt_1r, xt_1u, xt_1l, xt_s, xisref, xq0, Value.category, xcat, List.map_nil, List.map_cons, List.sum_nil, List.sum_cons, List.length_cons, List.length_nil, List.getElem?_cons_zero, List.getElem?_cons_succ, xmap_s, if_true, and_self, Nat.reduceAdd, Nat.reduceLT, Nat.reduceLeDiff, Nat.reduceEqDiff, Nat.lt_add_one, Nat.zero_le, Nat.le_refl, Nat.le_zero_eq, Nat.zero_lt_succ, xldc, kbm10, kbm9, kbm8, kbm7, kbm6, kbm5, kbm4, kbm3, kbm2, kb6, kb7, kb8, kb9, kb10, kb11, kb16, kb19, kb20, kb30, kb31, kb32, kb34, kb40, kb64, kb100, kb127, kim1, ki0, ki1, ki2, ki3, ki4, ki5, ks128, ks400, ks999, ks1000, ks4010])
        try simp (disch := omega) only [nx10, nx4, nx32, nxa0, nxa1, nxa2, nxa3, nxa4, nxa5, nxa6, nxa7, nxa8, nxa9, nxa10, nxs1, nxs10, nxss, nI_add, nI_clamp, mnar0, mnar1, Nat.add_sub_cancel]
        refine ok_st rfl rfl ?_
        simp only [okS_some, xst, xp0, xp1, xp2, xp3, xp4, xp5, xload, xstore, xget_0, xget_s, xs_0, xs_1n, xs_1i, xs_1r, xs_1u, xs_1l, xs_s, xt_0, xt_1n, xt_1i, xt_1r, xt_1u, xt_1l, xt_s, xisref, xq0, Value.category, xcat, List.map_nil, List.map_cons, List.sum_nil, List.sum_cons, List.length_cons, List.length_nil, List.getElem?_cons_zero, List.getElem?_cons_succ, xmap_s, if_true, and_self, Nat.reduceAdd, Nat.reduceLT, Nat.reduceLeDiff, Nat.reduceEqDiff, Nat.lt_add_one, Nat.zero_le, Nat.le_refl, Nat.le_zero_eq, Nat.zero_lt_succ, xldc, kbm10, kbm9, kbm8, kbm7, kbm6, kbm5, kbm4, kbm3, kbm2, kb6, kb7, kb8, kb9, kb10, kb11, kb16, kb19, kb20, kb30, kb31, kb32, kb34, kb40, kb64, kb100, kb127, kim1, ki0, ki1, ki2, ki3, ki4, ki5, ks128, ks400, ks999, ks1000, ks4010]
        rw [show nI (8 * i) + Int32.ofInt 8 = nI (8 * (i + 1)) from nI_add (8 * i) 8]
        exact ih (i := i + 1) hW ⟨_, _, _, _, _, _, _, _, _, hI.up (by omega), hm, hj, hS2, by omega, by omega⟩ (by omega) (by omega)
      · skip
        iterate 5 (refine ok_st rfl rfl ?_; simp only [okS_some, xst, xp0, xp1, xp2, xp3, xp4, xp5, xload, xstore, xget_0, xget_s, xs_0, xs_1n, xs_1i, xs_1r, xs_1u, xs_1l, xs_s, xt_0, xt_1n, xt_1i, xt_1r, xt_1u, xt_1l, xt_s, xisref, xq0, Value.category, xcat, List.map_nil, List.map_cons, List.sum_nil, List.sum_cons, List.length_cons, List.length_nil, List.getElem?_cons_zero, List.getElem?_cons_succ, xmap_s, if_true, and_self, Nat.reduceAdd, Nat.reduceLT, Nat.reduceLeDiff, Nat.reduceEqDiff, Nat.lt_add_one, Nat.zero_le, Nat.le_refl, Nat.le_zero_eq, Nat.zero_lt_succ, xldc, kbm10, kbm9, kbm8, kbm7, kbm6, kbm5, kbm4, kbm3, kbm2, kb6, kb7, kb8, kb9, kb10, kb11, kb16, kb19, kb20, kb30, kb31, kb32, kb34, kb40, kb64, kb100, kb127, kim1, ki0, ki1, ki2, ki3, ki4, ki5, ks128, ks400, ks999, ks1000, ks4010])
        try simp (disch := omega) only [nx10, nx4, nx32, nxa0, nxa1, nxa2, nxa3, nxa4, nxa5, nxa6, nxa7, nxa8, nxa9, nxa10, nxs1, nxs10, nxss, nI_add, nI_clamp, mnar0, mnar1, Nat.add_sub_cancel]
        refine l_il rfl (nIn (by omega) (by omega)) ?_
        try dsimp only [Nat.reduceAdd]
        try simp (disch := omega) only [nx10, nx4, nx32, nxa0, nxa1, nxa2, nxa3, nxa4, nxa5, nxa6, nxa7, nxa8, nxa9, nxa10, nxs1, nxs10, nxss, nI_add, nI_clamp, mnar0, mnar1, Nat.add_sub_cancel]
        refine ok_cm (vs := [_, _]) rfl rfl rfl rfl (Nat.le_of_ble_eq_true rfl) (Nat.le_of_ble_eq_true rfl) (by show xcl0 2 8 _ _ = true; simp [xcl0, hI.1]) (by decide) hW (sp63 hW hI (by omega)) ?_
        rintro _ h356 ⟨⟨x360, rfl⟩, hI, z361, z362⟩ k357 al358
        dsimp only [Option.toList, List.cons_append, List.nil_append, Nat.reduceAdd]
        try dsimp only at z361 z362
        have hW := k357.1
        obtain ⟨B, hm⟩ := hm.kq k357 (by decide)
        iterate 6 (refine ok_st rfl rfl ?_; simp only [okS_some, xst, xp0, xp1, xp2, xp3, xp4, xp5, xload, xstore, xget_0, xget_s, xs_0, xs_1n, xs_1i, xs_1r, xs_1u, xs_1l, xs_s, xt_0, xt_1n, xt_1i, xt_1r, xt_1u, xt_1l, xt_s, xisref, xq0, Value.category, xcat, List.map_nil, List.map_cons, List.sum_nil, List.sum_cons, List.length_cons, List.length_nil, List.getElem?_cons_zero, List.getElem?_cons_succ, xmap_s, if_true, and_self, Nat.reduceAdd, Nat.reduceLT, Nat.reduceLeDiff, Nat.reduceEqDiff, Nat.lt_add_one, Nat.zero_le, Nat.le_refl, Nat.le_zero_eq, Nat.zero_lt_succ, xldc, kbm10, kbm9, kbm8, kbm7, kbm6, kbm5, kbm4, kbm3, kbm2, kb6, kb7, kb8, kb9, kb10, kb11, kb16, kb19, kb20, kb30, kb31, kb32, kb34, kb40, kb64, kb100, kb127, kim1, ki0, ki1, ki2, ki3, ki4, ki5, ks128, ks400, ks999, ks1000, ks4010])
        try simp (disch := omega) only [nx10, nx4, nx32, nxa0, nxa1, nxa2, nxa3, nxa4, nxa5, nxa6, nxa7, nxa8, nxa9, nxa10, nxs1, nxs10, nxss, nI_add, nI_clamp, mnar0, mnar1, Nat.add_sub_cancel]
        refine l_il rfl (nIn (by omega) (by omega)) ?_
        try dsimp only [Nat.reduceAdd]
        try simp (disch := omega) only [nx10, nx4, nx32, nxa0, nxa1, nxa2, nxa3, nxa4, nxa5, nxa6, nxa7, nxa8, nxa9, nxa10, nxs1, nxs10, nxss, nI_add, nI_clamp, mnar0, mnar1, Nat.add_sub_cancel]
        refine ok_cm (vs := [_, _]) rfl rfl rfl rfl (Nat.le_of_ble_eq_true rfl) (Nat.le_of_ble_eq_true rfl) (by show xcl0 2 9 _ _ = true; simp [xcl0, hm.1]) (by decide) hW (sp121 hW hm hj) ?_
        rintro _ h364 ⟨⟨x368, rfl⟩, S1, A1, B1, M1, hm, hj, hs⟩ k365 al366
        dsimp only [Option.toList, List.cons_append, List.nil_append, Nat.reduceAdd]
        have hW := k365.1
        have z369 := al366 rfl
        try dsimp only at z369
        have hI := hI.kp k365 (by decide)
        have hS2 := hs.trans hS2
        iterate 3 (refine ok_st rfl rfl ?_; simp only [okS_some, xst, xp0, xp1, xp2, xp3, xp4, xp5, xload, xstore, xget_0, xget_s, xs_0, xs_1n, xs_1i, xs_1r, xs_1u, xs_1l, xs_s, xt_0, xt_1n, xt_1i, xt_1r, xt_1u, xt_1l, xt_s, xisref, xq0, Value.category, xcat, List.map_nil, List.map_cons, List.sum_nil, List.sum_cons, List.length_cons, List.length_nil, List.getElem?_cons_zero, List.getElem?_cons_succ, xmap_s, if_true, and_self, Nat.reduceAdd, Nat.reduceLT, Nat.reduceLeDiff, Nat.reduceEqDiff, Nat.lt_add_one, Nat.zero_le, Nat.le_refl, Nat.le_zero_eq, Nat.zero_lt_succ, xldc, kbm10, kbm9, kbm8, kbm7, kbm6, kbm5, kbm4, kbm3, kbm2, kb6, kb7, kb8, kb9, kb10, kb11, kb16, kb19, kb20, kb30, kb31, kb32, kb34, kb40, kb64, kb100, kb127, kim1, ki0, ki1, ki2, ki3, ki4, ki5, ks128, ks400, ks999, ks1000, ks4010])
        try simp (disch := omega) only [nx10, nx4, nx32, nxa0, nxa1, nxa2, nxa3, nxa4, nxa5, nxa6, nxa7, nxa8, nxa9, nxa10, nxs1, nxs10, nxss, nI_add, nI_clamp, mnar0, mnar1, Nat.add_sub_cancel]
        refine ok_st rfl rfl ?_
        simp only [okS_some, xst, xp0, xp1, xp2, xp3, xp4, xp5, xload, xstore, xget_0, xget_s, xs_0, xs_1n, xs_1i, xs_1r, xs_1u, xs_1l, xs_s, xt_0, xt_1n, xt_1i, xt_1r, xt_1u, xt_1l, xt_s, xisref, xq0, Value.category, xcat, List.map_nil, List.map_cons, List.sum_nil, List.sum_cons, List.length_cons, List.length_nil, List.getElem?_cons_zero, List.getElem?_cons_succ, xmap_s, if_true, and_self, Nat.reduceAdd, Nat.reduceLT, Nat.reduceLeDiff, Nat.reduceEqDiff, Nat.lt_add_one, Nat.zero_le, Nat.le_refl, Nat.le_zero_eq, Nat.zero_lt_succ, xldc, kbm10, kbm9, kbm8, kbm7, kbm6, kbm5, kbm4, kbm3, kbm2, kb6, kb7, kb8, kb9, kb10, kb11, kb16, kb19, kb20, kb30, kb31, kb32, kb34, kb40, kb64, kb100, kb127, kim1, ki0, ki1, ki2, ki3, ki4, ki5, ks128, ks400, ks999, ks1000, ks4010]
        rw [show nI (8 * i) + Int32.ofInt 8 = nI (8 * (i + 1)) from nI_add (8 * i) 8]
        exact ih (i := i + 1) hW ⟨_, _, _, _, _, _, _, _, _, hI.up (by omega), hm, hj, hS2, by omega, by omega⟩ (by omega) (by omega)
      · skip
        iterate 5 (refine ok_st rfl rfl ?_; simp only [okS_some, xst, xp0, xp1, xp2, xp3, xp4, xp5, xload, xstore, xget_0, xget_s, xs_0, xs_1n, xs_1i, xs_1r, xs_1u, xs_1l, xs_s, xt_0, xt_1n, xt_1i, xt_1r, xt_1u, xt_1l, xt_s, xisref, xq0, Value.category, xcat, List.map_nil, List.map_cons, List.sum_nil, List.sum_cons, List.length_cons, List.length_nil, List.getElem?_cons_zero, List.getElem?_cons_succ, xmap_s, if_true, and_self, Nat.reduceAdd, Nat.reduceLT, Nat.reduceLeDiff, Nat.reduceEqDiff, Nat.lt_add_one, Nat.zero_le, Nat.le_refl, Nat.le_zero_eq, Nat.zero_lt_succ, xldc, kbm10, kbm9, kbm8, kbm7, kbm6, kbm5, kbm4, kbm3, kbm2, kb6, kb7, kb8, kb9, kb10, kb11, kb16, kb19, kb20, kb30, kb31, kb32, kb34, kb40, kb64, kb100, kb127, kim1, ki0, ki1, ki2, ki3, ki4, ki5, ks128, ks400, ks999, ks1000, ks4010])
        try simp (disch := omega) only [nx10, nx4, nx32, nxa0, nxa1, nxa2, nxa3, nxa4, nxa5, nxa6, nxa7, nxa8, nxa9, nxa10, nxs1, nxs10, nxss, nI_add, nI_clamp, mnar0, mnar1, Nat.add_sub_cancel]
        refine l_il rfl (nIn (by omega) (by omega)) ?_
        try dsimp only [Nat.reduceAdd]
        try simp (disch := omega) only [nx10, nx4, nx32, nxa0, nxa1, nxa2, nxa3, nxa4, nxa5, nxa6, nxa7, nxa8, nxa9, nxa10, nxs1, nxs10, nxss, nI_add, nI_clamp, mnar0, mnar1, Nat.add_sub_cancel]
        iterate 4 (refine ok_st rfl rfl ?_; simp only [okS_some, xst, xp0, xp1, xp2, xp3, xp4, xp5, xload, xstore, xget_0, xget_s, xs_0, xs_1n, xs_1i, xs_1r, xs_1u, xs_1l, xs_s, xt_0, xt_1n, xt_1i, xt_1r, xt_1u, xt_1l, xt_s, xisref, xq0, Value.category, xcat, List.map_nil, List.map_cons, List.sum_nil, List.sum_cons, List.length_cons, List.length_nil, List.getElem?_cons_zero, List.getElem?_cons_succ, xmap_s, if_true, and_self, Nat.reduceAdd, Nat.reduceLT, Nat.reduceLeDiff, Nat.reduceEqDiff, Nat.lt_add_one, Nat.zero_le, Nat.le_refl, Nat.le_zero_eq, Nat.zero_lt_succ, xldc, kbm10, kbm9, kbm8, kbm7, kbm6, kbm5, kbm4, kbm3, kbm2, kb6, kb7, kb8, kb9, kb10, kb11, kb16, kb19, kb20, kb30, kb31, kb32, kb34, kb40, kb64, kb100, kb127, kim1, ki0, ki1, ki2, ki3, ki4, ki5, ks128, ks400, ks999, ks1000, ks4010])
        try simp (disch := omega) only [nx10, nx4, nx32, nxa0, nxa1, nxa2, nxa3, nxa4, nxa5, nxa6, nxa7, nxa8, nxa9, nxa10, nxs1, nxs10, nxss, nI_add, nI_clamp, mnar0, mnar1, Nat.add_sub_cancel]
        refine l_il rfl (nIn (by omega) (by omega)) ?_
        try dsimp only [Nat.reduceAdd]
        try simp (disch := omega) only [nx10, nx4, nx32, nxa0, nxa1, nxa2, nxa3, nxa4, nxa5, nxa6, nxa7, nxa8, nxa9, nxa10, nxs1, nxs10, nxss, nI_add, nI_clamp, mnar0, mnar1, Nat.add_sub_cancel]
        refine ok_cm (vs := [_, _, _]) rfl rfl rfl rfl (Nat.le_of_ble_eq_true rfl) (Nat.le_of_ble_eq_true rfl) (by show xcl0 2 8 _ _ = true; simp [xcl0, hI.1]) (by decide) hW (sp64 hW hI) ?_
        rintro _ h370 ⟨x374, rfl⟩ k371 al372
        dsimp only [Option.toList, List.cons_append, List.nil_append, Nat.reduceAdd]
        have hW := k371.1
        have z377 := al372 rfl
        try dsimp only at z377
        obtain ⟨B, hm⟩ := hm.kq k371 (by decide)
        have hI := hI.kp k371 (by decide)
        iterate 6 (refine ok_st rfl rfl ?_; simp only [okS_some, xst, xp0, xp1, xp2, xp3, xp4, xp5, xload, xstore, xget_0, xget_s, xs_0, xs_1n, xs_1i, xs_1r, xs_1u, xs_1l, xs_s, xt_0, xt_1n, xt_1i, xt_1r, xt_1u, xt_1l, xt_s, xisref, xq0, Value.category, xcat, List.map_nil, List.map_cons, List.sum_nil, List.sum_cons, List.length_cons, List.length_nil, List.getElem?_cons_zero, List.getElem?_cons_succ, xmap_s, if_true, and_self, Nat.reduceAdd, Nat.reduceLT, Nat.reduceLeDiff, Nat.reduceEqDiff, Nat.lt_add_one, Nat.zero_le, Nat.le_refl, Nat.le_zero_eq, Nat.zero_lt_succ, xldc, kbm10, kbm9, kbm8, kbm7, kbm6, kbm5, kbm4, kbm3, kbm2, kb6, kb7, kb8, kb9, kb10, kb11, kb16, kb19, kb20, kb30, kb31, kb32, kb34, kb40, kb64, kb100, kb127, kim1, ki0, ki1, ki2, ki3, ki4, ki5, ks128, ks400, ks999, ks1000, ks4010])
        try simp (disch := omega) only [nx10, nx4, nx32, nxa0, nxa1, nxa2, nxa3, nxa4, nxa5, nxa6, nxa7, nxa8, nxa9, nxa10, nxs1, nxs10, nxss, nI_add, nI_clamp, mnar0, mnar1, Nat.add_sub_cancel]
        refine l_il rfl (nIn (by omega) (by omega)) ?_
        try dsimp only [Nat.reduceAdd]
        try simp (disch := omega) only [nx10, nx4, nx32, nxa0, nxa1, nxa2, nxa3, nxa4, nxa5, nxa6, nxa7, nxa8, nxa9, nxa10, nxs1, nxs10, nxss, nI_add, nI_clamp, mnar0, mnar1, Nat.add_sub_cancel]
        iterate 4 (refine ok_st rfl rfl ?_; simp only [okS_some, xst, xp0, xp1, xp2, xp3, xp4, xp5, xload, xstore, xget_0, xget_s, xs_0, xs_1n, xs_1i, xs_1r, xs_1u, xs_1l, xs_s, xt_0, xt_1n, xt_1i, xt_1r, xt_1u, xt_1l, xt_s, xisref, xq0, Value.category, xcat, List.map_nil, List.map_cons, List.sum_nil, List.sum_cons, List.length_cons, List.length_nil, List.getElem?_cons_zero, List.getElem?_cons_succ, xmap_s, if_true, and_self, Nat.reduceAdd, Nat.reduceLT, Nat.reduceLeDiff, Nat.reduceEqDiff, Nat.lt_add_one, Nat.zero_le, Nat.le_refl, Nat.le_zero_eq, Nat.zero_lt_succ, xldc, kbm10, kbm9, kbm8, kbm7, kbm6, kbm5, kbm4, kbm3, kbm2, kb6, kb7, kb8, kb9, kb10, kb11, kb16, kb19, kb20, kb30, kb31, kb32, kb34, kb40, kb64, kb100, kb127, kim1, ki0, ki1, ki2, ki3, ki4, ki5, ks128, ks400, ks999, ks1000, ks4010])
        try simp (disch := omega) only [nx10, nx4, nx32, nxa0, nxa1, nxa2, nxa3, nxa4, nxa5, nxa6, nxa7, nxa8, nxa9, nxa10, nxs1, nxs10, nxss, nI_add, nI_clamp, mnar0, mnar1, Nat.add_sub_cancel]
        refine l_il rfl (nIn (by omega) (by omega)) ?_
        try dsimp only [Nat.reduceAdd]
        try simp (disch := omega) only [nx10, nx4, nx32, nxa0, nxa1, nxa2, nxa3, nxa4, nxa5, nxa6, nxa7, nxa8, nxa9, nxa10, nxs1, nxs10, nxss, nI_add, nI_clamp, mnar0, mnar1, Nat.add_sub_cancel]
        refine ok_cm (vs := [_, _, _]) rfl rfl rfl rfl (Nat.le_of_ble_eq_true rfl) (Nat.le_of_ble_eq_true rfl) (by show xcl0 2 9 _ _ = true; simp [xcl0, hm.1]) (by decide) hW (sp124 hW hm hj) ?_
        rintro _ h378 ⟨⟨x382, rfl⟩, S1, A1, B1, M1, hm, hj, hs⟩ k379 al380
        dsimp only [Option.toList, List.cons_append, List.nil_append, Nat.reduceAdd]
        have hW := k379.1
        have z383 := al380 rfl
        try dsimp only at z383
        have hI := hI.kp k379 (by decide)
        have hS2 := hs.trans hS2
        iterate 3 (refine ok_st rfl rfl ?_; simp only [okS_some, xst, xp0, xp1, xp2, xp3, xp4, xp5, xload, xstore, xget_0, xget_s, xs_0, xs_1n, xs_1i, xs_1r, xs_1u, xs_1l, xs_s, xt_0, xt_1n, xt_1i, xt_1r, xt_1u, xt_1l, xt_s, xisref, xq0, Value.category, xcat, List.map_nil, List.map_cons, List.sum_nil, List.sum_cons, List.length_cons, List.length_nil, List.getElem?_cons_zero, List.getElem?_cons_succ, xmap_s, if_true, and_self, Nat.reduceAdd, Nat.reduceLT, Nat.reduceLeDiff, Nat.reduceEqDiff, Nat.lt_add_one, Nat.zero_le, Nat.le_refl, Nat.le_zero_eq, Nat.zero_lt_succ, xldc, kbm10, kbm9, kbm8, kbm7, kbm6, kbm5, kbm4, kbm3, kbm2, kb6, kb7, kb8, kb9, kb10, kb11, kb16, kb19, kb20, kb30, kb31, kb32, kb34, kb40, kb64, kb100, kb127, kim1, ki0, ki1, ki2, ki3, ki4, ki5, ks128, ks400, ks999, ks1000, ks4010])
        try simp (disch := omega) only [nx10, nx4, nx32, nxa0, nxa1, nxa2, nxa3, nxa4, nxa5, nxa6, nxa7, nxa8, nxa9, nxa10, nxs1, nxs10, nxss, nI_add, nI_clamp, mnar0, mnar1, Nat.add_sub_cancel]
        refine ok_st rfl rfl ?_
        simp only [okS_some, xst, xp0, xp1, xp2, xp3, xp4, xp5, xload, xstore, xget_0, xget_s, xs_0, xs_1n, xs_1i, xs_1r, xs_1u, xs_1l, xs_s, xt_0, xt_1n, xt_1i, xt_1r, xt_1u, xt_1l, xt_s, xisref, xq0, Value.category, xcat, List.map_nil, List.map_cons, List.sum_nil, List.sum_cons, List.length_cons, List.length_nil, List.getElem?_cons_zero, List.getElem?_cons_succ, xmap_s, if_true, and_self, Nat.reduceAdd, Nat.reduceLT, Nat.reduceLeDiff, Nat.reduceEqDiff, Nat.lt_add_one, Nat.zero_le, Nat.le_refl, Nat.le_zero_eq, Nat.zero_lt_succ, xldc, kbm10, kbm9, kbm8, kbm7, kbm6, kbm5, kbm4, kbm3, kbm2, kb6, kb7, kb8, kb9, kb10, kb11, kb16, kb19, kb20, kb30, kb31, kb32, kb34, kb40, kb64, kb100, kb127, kim1, ki0, ki1, ki2, ki3, ki4, ki5, ks128, ks400, ks999, ks1000, ks4010]
        rw [show nI (8 * i) + Int32.ofInt 8 = nI (8 * (i + 1)) from nI_add (8 * i) 8]
        exact ih (i := i + 1) hW ⟨_, _, _, _, _, _, _, _, _, hI.up (by omega), hm, hj, hS2, by omega, by omega⟩ (by omega) (by omega)
      · skip
        iterate 5 (refine ok_st rfl rfl ?_; simp only [okS_some, xst, xp0, xp1, xp2, xp3, xp4, xp5, xload, xstore, xget_0, xget_s, xs_0, xs_1n, xs_1i, xs_1r, xs_1u, xs_1l, xs_s, xt_0, xt_1n, xt_1i, xt_1r, xt_1u, xt_1l, xt_s, xisref, xq0, Value.category, xcat, List.map_nil, List.map_cons, List.sum_nil, List.sum_cons, List.length_cons, List.length_nil, List.getElem?_cons_zero, List.getElem?_cons_succ, xmap_s, if_true, and_self, Nat.reduceAdd, Nat.reduceLT, Nat.reduceLeDiff, Nat.reduceEqDiff, Nat.lt_add_one, Nat.zero_le, Nat.le_refl, Nat.le_zero_eq, Nat.zero_lt_succ, xldc, kbm10, kbm9, kbm8, kbm7, kbm6, kbm5, kbm4, kbm3, kbm2, kb6, kb7, kb8, kb9, kb10, kb11, kb16, kb19, kb20, kb30, kb31, kb32, kb34, kb40, kb64, kb100, kb127, kim1, ki0, ki1, ki2, ki3, ki4, ki5, ks128, ks400, ks999, ks1000, ks4010])
        try simp (disch := omega) only [nx10, nx4, nx32, nxa0, nxa1, nxa2, nxa3, nxa4, nxa5, nxa6, nxa7, nxa8, nxa9, nxa10, nxs1, nxs10, nxss, nI_add, nI_clamp, mnar0, mnar1, Nat.add_sub_cancel]
        refine l_il rfl (nIn (by omega) (by omega)) ?_
        try dsimp only [Nat.reduceAdd]
        try simp (disch := omega) only [nx10, nx4, nx32, nxa0, nxa1, nxa2, nxa3, nxa4, nxa5, nxa6, nxa7, nxa8, nxa9, nxa10, nxs1, nxs10, nxss, nI_add, nI_clamp, mnar0, mnar1, Nat.add_sub_cancel]
        iterate 4 (refine ok_st rfl rfl ?_; simp only [okS_some, xst, xp0, xp1, xp2, xp3, xp4, xp5, xload, xstore, xget_0, xget_s, xs_0, xs_1n, xs_1i, xs_1r, xs_1u, xs_1l, xs_s, xt_0, xt_1n, xt_1i, xt_1r, xt_1u, xt_1l, xt_s, xisref, xq0, Value.category, xcat, List.map_nil, List.map_cons, List.sum_nil, List.sum_cons, List.length_cons, List.length_nil, List.getElem?_cons_zero, List.getElem?_cons_succ, xmap_s, if_true, and_self, Nat.reduceAdd, Nat.reduceLT, Nat.reduceLeDiff, Nat.reduceEqDiff, Nat.lt_add_one, Nat.zero_le, Nat.le_refl, Nat.le_zero_eq, Nat.zero_lt_succ, xldc, kbm10, kbm9, kbm8, kbm7, kbm6, kbm5, kbm4, kbm3, kbm2, kb6, kb7, kb8, kb9, kb10, kb11, kb16, kb19, kb20, kb30, kb31, kb32, kb34, kb40, kb64, kb100, kb127, kim1, ki0, ki1, ki2, ki3, ki4, ki5, ks128, ks400, ks999, ks1000, ks4010])
        try simp (disch := omega) only [nx10, nx4, nx32, nxa0, nxa1, nxa2, nxa3, nxa4, nxa5, nxa6, nxa7, nxa8, nxa9, nxa10, nxs1, nxs10, nxss, nI_add, nI_clamp, mnar0, mnar1, Nat.add_sub_cancel]
        refine l_il rfl (nIn (by omega) (by omega)) ?_
        try dsimp only [Nat.reduceAdd]
        try simp (disch := omega) only [nx10, nx4, nx32, nxa0, nxa1, nxa2, nxa3, nxa4, nxa5, nxa6, nxa7, nxa8, nxa9, nxa10, nxs1, nxs10, nxss, nI_add, nI_clamp, mnar0, mnar1, Nat.add_sub_cancel]
        iterate 4 (refine ok_st rfl rfl ?_; simp only [okS_some, xst, xp0, xp1, xp2, xp3, xp4, xp5, xload, xstore, xget_0, xget_s, xs_0, xs_1n, xs_1i, xs_1r, xs_1u, xs_1l, xs_s, xt_0, xt_1n, xt_1i, xt_1r, xt_1u, xt_1l, xt_s, xisref, xq0, Value.category, xcat, List.map_nil, List.map_cons, List.sum_nil, List.sum_cons, List.length_cons, List.length_nil, List.getElem?_cons_zero, List.getElem?_cons_succ, xmap_s, if_true, and_self, Nat.reduceAdd, Nat.reduceLT, Nat.reduceLeDiff, Nat.reduceEqDiff, Nat.lt_add_one, Nat.zero_le, Nat.le_refl, Nat.le_zero_eq, Nat.zero_lt_succ, xldc, kbm10, kbm9, kbm8, kbm7, kbm6, kbm5, kbm4, kbm3, kbm2, kb6, kb7, kb8, kb9, kb10, kb11, kb16, kb19, kb20, kb30, kb31, kb32, kb34, kb40, kb64, kb100, kb127, kim1, ki0, ki1, ki2, ki3, ki4, ki5, ks128, ks400, ks999, ks1000, ks4010])
        try simp (disch := omega) only [nx10, nx4, nx32, nxa0, nxa1, nxa2, nxa3, nxa4, nxa5, nxa6, nxa7, nxa8, nxa9, nxa10, nxs1, nxs10, nxss, nI_add, nI_clamp, mnar0, mnar1, Nat.add_sub_cancel]
        refine l_il rfl (nIn (by omega) (by omega)) ?_
        try dsimp only [Nat.reduceAdd]
        try simp (disch := omega) only [nx10, nx4, nx32, nxa0, nxa1, nxa2, nxa3, nxa4, nxa5, nxa6, nxa7, nxa8, nxa9, nxa10, nxs1, nxs10, nxss, nI_add, nI_clamp, mnar0, mnar1, Nat.add_sub_cancel]
        iterate 4 (refine ok_st rfl rfl ?_; simp only [okS_some, xst, xp0, xp1, xp2, xp3, xp4, xp5, xload, xstore, xget_0, xget_s, xs_0, xs_1n, xs_1i, xs_1r, xs_1u, xs_1l, xs_s, xt_0, xt_1n, xt_1i, xt_1r, xt_1u, xt_1l, xt_s, xisref, xq0, Value.category, xcat, List.map_nil, List.map_cons, List.sum_nil, List.sum_cons, List.length_cons, List.length_nil, List.getElem?_cons_zero, List.getElem?_cons_succ, xmap_s, if_true, and_self, Nat.reduceAdd, Nat.reduceLT, Nat.reduceLeDiff, Nat.reduceEqDiff, Nat.lt_add_one, Nat.zero_le, Nat.le_refl, Nat.le_zero_eq, Nat.zero_lt_succ, xldc, kbm10, kbm9, kbm8, kbm7, kbm6, kbm5, kbm4, kbm3, kbm2, kb6, kb7, kb8, kb9, kb10, kb11, kb16, kb19, kb20, kb30, kb31, kb32, kb34, kb40, kb64, kb100, kb127, kim1, ki0, ki1, ki2, ki3, ki4, ki5, ks128, ks400, ks999, ks1000, ks4010])
        try simp (disch := omega) only [nx10, nx4, nx32, nxa0, nxa1, nxa2, nxa3, nxa4, nxa5, nxa6, nxa7, nxa8, nxa9, nxa10, nxs1, nxs10, nxss, nI_add, nI_clamp, mnar0, mnar1, Nat.add_sub_cancel]
        refine l_il rfl (nIn (by omega) (by omega)) ?_
        try dsimp only [Nat.reduceAdd]
        try simp (disch := omega) only [nx10, nx4, nx32, nxa0, nxa1, nxa2, nxa3, nxa4, nxa5, nxa6, nxa7, nxa8, nxa9, nxa10, nxs1, nxs10, nxss, nI_add, nI_clamp, mnar0, mnar1, Nat.add_sub_cancel]
        iterate 4 (refine ok_st rfl rfl ?_; simp only [okS_some, xst, xp0, xp1, xp2, xp3, xp4, xp5, xload, xstore, xget_0, xget_s, xs_0, xs_1n, xs_1i, xs_1r, xs_1u, xs_1l, xs_s, xt_0, xt_1n, xt_1i, xt_1r, xt_1u, xt_1l, xt_s, xisref, xq0, Value.category, xcat, List.map_nil, List.map_cons, List.sum_nil, List.sum_cons, List.length_cons, List.length_nil, List.getElem?_cons_zero, List.getElem?_cons_succ, xmap_s, if_true, and_self, Nat.reduceAdd, Nat.reduceLT, Nat.reduceLeDiff, Nat.reduceEqDiff, Nat.lt_add_one, Nat.zero_le, Nat.le_refl, Nat.le_zero_eq, Nat.zero_lt_succ, xldc, kbm10, kbm9, kbm8, kbm7, kbm6, kbm5, kbm4, kbm3, kbm2, kb6, kb7, kb8, kb9, kb10, kb11, kb16, kb19, kb20, kb30, kb31, kb32, kb34, kb40, kb64, kb100, kb127, kim1, ki0, ki1, ki2, ki3, ki4, ki5, ks128, ks400, ks999, ks1000, ks4010])
        try simp (disch := omega) only [nx10, nx4, nx32, nxa0, nxa1, nxa2, nxa3, nxa4, nxa5, nxa6, nxa7, nxa8, nxa9, nxa10, nxs1, nxs10, nxss, nI_add, nI_clamp, mnar0, mnar1, Nat.add_sub_cancel]
        refine l_il rfl (nIn (by omega) (by omega)) ?_
        try dsimp only [Nat.reduceAdd]
        try simp (disch := omega) only [nx10, nx4, nx32, nxa0, nxa1, nxa2, nxa3, nxa4, nxa5, nxa6, nxa7, nxa8, nxa9, nxa10, nxs1, nxs10, nxss, nI_add, nI_clamp, mnar0, mnar1, Nat.add_sub_cancel]
        iterate 4 (refine ok_st rfl rfl ?_; simp only [okS_some, xst, xp0, xp1, xp2, xp3, xp4, xp5, xload, xstore, xget_0, xget_s, xs_0, xs_1n, xs_1i, xs_1r, xs_1u, xs_1l, xs_s, xt_0, xt_1n, xt_1i, xt_1r, xt_1u, xt_1l, xt_s, xisref, xq0, Value.category, xcat, List.map_nil, List.map_cons, List.sum_nil, List.sum_cons, List.length_cons, List.length_nil, List.getElem?_cons_zero, List.getElem?_cons_succ, xmap_s, if_true, and_self, Nat.reduceAdd, Nat.reduceLT, Nat.reduceLeDiff, Nat.reduceEqDiff, Nat.lt_add_one, Nat.zero_le, Nat.le_refl, Nat.le_zero_eq, Nat.zero_lt_succ, xldc, kbm10, kbm9, kbm8, kbm7, kbm6, kbm5, kbm4, kbm3, kbm2, kb6, kb7, kb8, kb9, kb10, kb11, kb16, kb19, kb20, kb30, kb31, kb32, kb34, kb40, kb64, kb100, kb127, kim1, ki0, ki1, ki2, ki3, ki4, ki5, ks128, ks400, ks999, ks1000, ks4010])
        try simp (disch := omega) only [nx10, nx4, nx32, nxa0, nxa1, nxa2, nxa3, nxa4, nxa5, nxa6, nxa7, nxa8, nxa9, nxa10, nxs1, nxs10, nxss, nI_add, nI_clamp, mnar0, mnar1, Nat.add_sub_cancel]
        refine l_il rfl (nIn (by omega) (by omega)) ?_
        try dsimp only [Nat.reduceAdd]
        try simp (disch := omega) only [nx10, nx4, nx32, nxa0, nxa1, nxa2, nxa3, nxa4, nxa5, nxa6, nxa7, nxa8, nxa9, nxa10, nxs1, nxs10, nxss, nI_add, nI_clamp, mnar0, mnar1, Nat.add_sub_cancel]
        refine ok_cm (vs := [_, _, _, _, _, _, _]) rfl rfl rfl rfl (Nat.le_of_ble_eq_true rfl) (Nat.le_of_ble_eq_true rfl) (by show xcl0 2 8 _ _ = true; simp [xcl0, hI.1]) (by decide) hW (sp65 hW hI (by omega)) ?_
        rintro _ h384 ⟨⟨x388, rfl⟩, hI, z389, z390⟩ k385 al386
        dsimp only [Option.toList, List.cons_append, List.nil_append, Nat.reduceAdd]
        try dsimp only at z389 z390
        have hW := k385.1
        obtain ⟨B, hm⟩ := hm.kq k385 (by decide)
        iterate 6 (refine ok_st rfl rfl ?_; simp only [okS_some, xst, xp0, xp1, xp2, xp3, xp4, xp5, xload, xstore, xget_0, xget_s, xs_0, xs_1n, xs_1i, xs_1r, xs_1u, xs_1l, xs_s, xt_0, xt_1n, xt_1i, xt_1r, xt_1u, xt_1l, xt_s, xisref, xq0, Value.category, xcat, List.map_nil, List.map_cons, List.sum_nil, List.sum_cons, List.length_cons, List.length_nil, List.getElem?_cons_zero, List.getElem?_cons_succ, xmap_s, if_true, and_self, Nat.reduceAdd, Nat.reduceLT, Nat.reduceLeDiff, Nat.reduceEqDiff, Nat.lt_add_one, Nat.zero_le, Nat.le_refl, Nat.le_zero_eq, Nat.zero_lt_succ, xldc, kbm10, kbm9, kbm8, kbm7, kbm6, kbm5, kbm4, kbm3, kbm2, kb6, kb7, kb8, kb9, kb10, kb11, kb16, kb19, kb20, kb30, kb31, kb32, kb34, kb40, kb64, kb100, kb127, kim1, ki0, ki1, ki2, ki3, ki4, ki5, ks128, ks400, ks999, ks1000, ks4010])
        try simp (disch := omega) only [nx10, nx4, nx32, nxa0, nxa1, nxa2, nxa3, nxa4, nxa5, nxa6, nxa7, nxa8, nxa9, nxa10, nxs1, nxs10, nxss, nI_add, nI_clamp, mnar0, mnar1, Nat.add_sub_cancel]
        refine l_il rfl (nIn (by omega) (by omega)) ?_
        try dsimp only [Nat.reduceAdd]
        try simp (disch := omega) only [nx10, nx4, nx32, nxa0, nxa1, nxa2, nxa3, nxa4, nxa5, nxa6, nxa7, nxa8, nxa9, nxa10, nxs1, nxs10, nxss, nI_add, nI_clamp, mnar0, mnar1, Nat.add_sub_cancel]
        iterate 4 (refine ok_st rfl rfl ?_; simp only [okS_some, xst, xp0, xp1, xp2, xp3, xp4, xp5, xload, xstore, xget_0, xget_s, xs_0, xs_1n, xs_1i, xs_1r, xs_1u, xs_1l, xs_s, xt_0, xt_1n, xt_1i, xt_1r, xt_1u, xt_1l, xt_s, xisref, xq0, Value.category, xcat, List.map_nil, List.map_cons, List.sum_nil, List.sum_cons, List.length_cons, List.length_nil, List.getElem?_cons_zero, List.getElem?_cons_succ, xmap_s, if_true, and_self, Nat.reduceAdd, Nat.reduceLT, Nat.reduceLeDiff, Nat.reduceEqDiff, Nat.lt_add_one, Nat.zero_le, Nat.le_refl, Nat.le_zero_eq, Nat.zero_lt_succ, xldc, kbm10, kbm9, kbm8, kbm7, kbm6, kbm5, kbm4, kbm3, kbm2, kb6, kb7, kb8, kb9, kb10, kb11, kb16, kb19, kb20, kb30, kb31, kb32, kb34, kb40, kb64, kb100, kb127, kim1, ki0, ki1, ki2, ki3, ki4, ki5, ks128, ks400, ks999, ks1000, ks4010])
        try simp (disch := omega) only [nx10, nx4, nx32, nxa0, nxa1, nxa2, nxa3, nxa4, nxa5, nxa6, nxa7, nxa8, nxa9, nxa10, nxs1, nxs10, nxss, nI_add, nI_clamp, mnar0, mnar1, Nat.add_sub_cancel]
        refine l_il rfl (nIn (by omega) (by omega)) ?_
        try dsimp only [Nat.reduceAdd]
        try simp (disch := omega) only [nx10, nx4, nx32, nxa0, nxa1, nxa2, nxa3, nxa4, nxa5, nxa6, nxa7, nxa8, nxa9, nxa10, nxs1, nxs10, nxss, nI_add, nI_clamp, mnar0, mnar1, Nat.add_sub_cancel]
        iterate 4 (refine ok_st rfl rfl ?_; simp only [okS_some, xst, xp0, xp1, xp2, xp3, xp4, xp5, xload, xstore, xget_0, xget_s, xs_0, xs_1n, xs_1i, xs_1r, xs_1u, xs_1l, xs_s, xt_0, xt_1n, xt_1i, xt_1r, xt_1u, xt_1l, xt_s, xisref, xq0, Value.category, xcat, List.map_nil, List.map_cons, List.sum_nil, List.sum_cons, List.length_cons, List.length_nil, List.getElem?_cons_zero, List.getElem?_cons_succ, xmap_s, if_true, and_self, Nat.reduceAdd, Nat.reduceLT, Nat.reduceLeDiff, Nat.reduceEqDiff, Nat.lt_add_one, Nat.zero_le, Nat.le_refl, Nat.le_zero_eq, Nat.zero_lt_succ, xldc, kbm10, kbm9, kbm8, kbm7, kbm6, kbm5, kbm4, kbm3, kbm2, kb6, kb7, kb8, kb9, kb10, kb11, kb16, kb19, kb20, kb30, kb31, kb32, kb34, kb40, kb64, kb100, kb127, kim1, ki0, ki1, ki2, ki3, ki4, ki5, ks128, ks400, ks999, ks1000, ks4010])
        try simp (disch := omega) only [nx10, nx4, nx32, nxa0, nxa1, nxa2, nxa3, nxa4, nxa5, nxa6, nxa7, nxa8, nxa9, nxa10, nxs1, nxs10, nxss, nI_add, nI_clamp, mnar0, mnar1, Nat.add_sub_cancel]
        refine l_il rfl (nIn (by omega) (by omega)) ?_
        try dsimp only [Nat.reduceAdd]
        try simp (disch := omega) only [nx10, nx4, nx32, nxa0, nxa1, nxa2, nxa3, nxa4, nxa5, nxa6, nxa7, nxa8, nxa9, nxa10, nxs1, nxs10, nxss, nI_add, nI_clamp, mnar0, mnar1, Nat.add_sub_cancel]
        iterate 4 (refine ok_st rfl rfl ?_; simp only [okS_some, xst, xp0, xp1, xp2, xp3, xp4, xp5, xload, xstore, xget_0, xget_s, xs_0, xs_1n, xs_1i, xs_1r, xs_1u, xs_1l, xs_s, xt_0, xt_1n, xt_1i, xt_1r, xt_1u, xt_1l, xt_s, xisref, xq0, Value.category, xcat, List.map_nil, List.map_cons, List.sum_nil, List.sum_cons, List.length_cons, List.length_nil, List.getElem?_cons_zero, List.getElem?_cons_succ, xmap_s, if_true, and_self, Nat.reduceAdd, Nat.reduceLT, Nat.reduceLeDiff, Nat.reduceEqDiff, Nat.lt_add_one, Nat.zero_le, Nat.le_refl, Nat.le_zero_eq, Nat.zero_lt_succ, xldc, kbm10, kbm9, kbm8, kbm7, kbm6, kbm5, kbm4, kbm3, kbm2, kb6, kb7, kb8, kb9, kb10, kb11, kb16, kb19, kb20, kb30, kb31, kb32, kb34, kb40, kb64, kb100, kb127, kim1, ki0, ki1, ki2, ki3, ki4, ki5, ks128, ks400, ks999, ks1000, ks4010])
        try simp (disch := omega) only [nx10, nx4, nx32, nxa0, nxa1, nxa2, nxa3, nxa4, nxa5, nxa6, nxa7, nxa8, nxa9, nxa10, nxs1, nxs10, nxss, nI_add, nI_clamp, mnar0, mnar1, Nat.add_sub_cancel]
        refine l_il rfl (nIn (by omega) (by omega)) ?_
        try dsimp only [Nat.reduceAdd]
        try simp (disch := omega) only [nx10, nx4, nx32, nxa0, nxa1, nxa2, nxa3, nxa4, nxa5, nxa6, nxa7, nxa8, nxa9, nxa10, nxs1, nxs10, nxss, nI_add, nI_clamp, mnar0, mnar1, Nat.add_sub_cancel]
        iterate 4 (refine ok_st rfl rfl ?_; simp only [okS_some, xst, xp0, xp1, xp2, xp3, xp4, xp5, xload, xstore, xget_0, xget_s, xs_0, xs_1n, xs_1i, xs_1r, xs_1u, xs_1l, xs_s, xt_0, xt_1n, xt_1i, xt_1r, xt_1u, xt_1l, xt_s, xisref, xq0, Value.category, xcat, List.map_nil, List.map_cons, List.sum_nil, List.sum_cons, List.length_cons, List.length_nil, List.getElem?_cons_zero, List.getElem?_cons_succ, xmap_s, if_true, and_self, Nat.reduceAdd, Nat.reduceLT, Nat.reduceLeDiff, Nat.reduceEqDiff, Nat.lt_add_one, Nat.zero_le, Nat.le_refl, Nat.le_zero_eq, Nat.zero_lt_succ, xldc, kbm10, kbm9, kbm8, kbm7, kbm6, kbm5, kbm4, kbm3, kbm2, kb6, kb7, kb8, kb9, kb10, kb11, kb16, kb19, kb20, kb30, kb31, kb32, kb34, kb40, kb64, kb100, kb127, kim1, ki0, ki1, ki2, ki3, ki4, ki5, ks128, ks400, ks999, ks1000, ks4010])
        try simp (disch := omega) only [nx10, nx4, nx32, nxa0, nxa1, nxa2, nxa3, nxa4, nxa5, nxa6, nxa7, nxa8, nxa9, nxa10, nxs1, nxs10, nxss, nI_add, nI_clamp, mnar0, mnar1, Nat.add_sub_cancel]
        refine l_il rfl (nIn (by omega) (by omega)) ?_
        try dsimp only [Nat.reduceAdd]
        try simp (disch := omega) only [nx10, nx4, nx32, nxa0, nxa1, nxa2, nxa3, nxa4, nxa5, nxa6, nxa7, nxa8, nxa9, nxa10, nxs1, nxs10, nxss, nI_add, nI_clamp, mnar0, mnar1, Nat.add_sub_cancel]
        iterate 4 (refine ok_st rfl rfl ?_; simp only [okS_some, xst, xp0, xp1, xp2, xp3, xp4, xp5, xload, xstore, xget_0, xget_s, xs_0, xs_1n, xs_1i, xs_1r, xs_1u, xs_1l, xs_s, xt_0, xt_1n, xt_1i, xt_1r, xt_1u, xt_1l, xt_s, xisref, xq0, Value.category, xcat, List.map_nil, List.map_cons, List.sum_nil, List.sum_cons, List.length_cons, List.length_nil, List.getElem?_cons_zero, List.getElem?_cons_succ, xmap_s, if_true, and_self, Nat.reduceAdd, Nat.reduceLT, Nat.reduceLeDiff, Nat.reduceEqDiff, Nat.lt_add_one, Nat.zero_le, Nat.le_refl, Nat.le_zero_eq, Nat.zero_lt_succ, xldc, kbm10, kbm9, kbm8, kbm7, kbm6, kbm5, kbm4, kbm3, kbm2, kb6, kb7, kb8, kb9, kb10, kb11, kb16, kb19, kb20, kb30, kb31, kb32, kb34, kb40, kb64, kb100, kb127, kim1, ki0, ki1, ki2, ki3, ki4, ki5, ks128, ks400, ks999, ks1000, ks4010])
        try simp (disch := omega) only [nx10, nx4, nx32, nxa0, nxa1, nxa2, nxa3, nxa4, nxa5, nxa6, nxa7, nxa8, nxa9, nxa10, nxs1, nxs10, nxss, nI_add, nI_clamp, mnar0, mnar1, Nat.add_sub_cancel]
        refine l_il rfl (nIn (by omega) (by omega)) ?_
        try dsimp only [Nat.reduceAdd]
        try simp (disch := omega) only [nx10, nx4, nx32, nxa0, nxa1, nxa2, nxa3, nxa4, nxa5, nxa6, nxa7, nxa8, nxa9, nxa10, nxs1, nxs10, nxss, nI_add, nI_clamp, mnar0, mnar1, Nat.add_sub_cancel]
        refine ok_cm (vs := [_, _, _, _, _, _, _]) rfl rfl rfl rfl (Nat.le_of_ble_eq_true rfl) (Nat.le_of_ble_eq_true rfl) (by show xcl0 2 9 _ _ = true; simp [xcl0, hm.1]) (by decide) hW (sp125 hW hm hj) ?_
        rintro _ h392 ⟨⟨x396, rfl⟩, S1, A1, B1, M1, hm, hj, hs⟩ k393 al394
        dsimp only [Option.toList, List.cons_append, List.nil_append, Nat.reduceAdd]
        have hW := k393.1
        have z397 := al394 rfl
        try dsimp only at z397
        have hI := hI.kp k393 (by decide)
        have hS2 := hs.trans hS2
        iterate 3 (refine ok_st rfl rfl ?_; simp only [okS_some, xst, xp0, xp1, xp2, xp3, xp4, xp5, xload, xstore, xget_0, xget_s, xs_0, xs_1n, xs_1i, xs_1r, xs_1u, xs_1l, xs_s, xt_0, xt_1n, xt_1i, xt_1r, xt_1u, xt_1l, xt_s, xisref, xq0, Value.category, xcat, List.map_nil, List.map_cons, List.sum_nil, List.sum_cons, List.length_cons, List.length_nil, List.getElem?_cons_zero, List.getElem?_cons_succ, xmap_s, if_true, and_self, Nat.reduceAdd, Nat.reduceLT, Nat.reduceLeDiff, Nat.reduceEqDiff, Nat.lt_add_one, Nat.zero_le, Nat.le_refl, Nat.le_zero_eq, Nat.zero_lt_succ, xldc, kbm10, kbm9, kbm8, kbm7, kbm6, kbm5, kbm4, kbm3, kbm2, kb6, kb7, kb8, kb9, kb10, kb11, kb16, kb19, kb20, kb30, kb31, kb32, kb34, kb40, kb64, kb100, kb127, kim1, ki0, ki1, ki2, ki3, ki4, ki5, ks128, ks400, ks999, ks1000, ks4010])
        try simp (disch := omega) only [nx10, nx4, nx32, nxa0, nxa1, nxa2, nxa3, nxa4, nxa5, nxa6, nxa7, nxa8, nxa9, nxa10, nxs1, nxs10, nxss, nI_add, nI_clamp, mnar0, mnar1, Nat.add_sub_cancel]
        refine ok_st rfl rfl ?_
        simp only [okS_some, xst, xp0, xp1, xp2, xp3, xp4, xp5, xload, xstore, xget_0, xget_s, xs_0, xs_1n, xs_1i, xs_1r, xs_1u, xs_1l, xs_s, xt_0, xt_1n, xt_1i, xt_1r, xt_1u, xt_1l, xt_s, xisref, xq0, Value.category, xcat, List.map_nil, List.map_cons, List.sum_nil, List.sum_cons, List.length_cons, List.length_nil, List.getElem?_cons_zero, List.getElem?_cons_succ, xmap_s, if_true, and_self, Nat.reduceAdd, Nat.reduceLT, Nat.reduceLeDiff, Nat.reduceEqDiff, Nat.lt_add_one, Nat.zero_le, Nat.le_refl, Nat.le_zero_eq, Nat.zero_lt_succ, xldc, kbm10, kbm9, kbm8, kbm7, kbm6, kbm5, kbm4, kbm3, kbm2, kb6, kb7, kb8, kb9, kb10, kb11, kb16, kb19, kb20, kb30, kb31, kb32, kb34, kb40, kb64, kb100, kb127, kim1, ki0, ki1, ki2, ki3, ki4, ki5, ks128, ks400, ks999, ks1000, ks4010]
        rw [show nI (8 * i) + Int32.ofInt 8 = nI (8 * (i + 1)) from nI_add (8 * i) 8]
        exact ih (i := i + 1) hW ⟨_, _, _, _, _, _, _, _, _, hI.up (by omega), hm, hj, hS2, by omega, by omega⟩ (by omega) (by omega)
      · skip
        iterate 5 (refine ok_st rfl rfl ?_; simp only [okS_some, xst, xp0, xp1, xp2, xp3, xp4, xp5, xload, xstore, xget_0, xget_s, xs_0, xs_1n, xs_1i, xs_1r, xs_1u, xs_1l, xs_s, xt_0, xt_1n, xt_1i, xt_1r, xt_1u, xt_1l, xt_s, xisref, xq0, Value.category, xcat, List.map_nil, List.map_cons, List.sum_nil, List.sum_cons, List.length_cons, List.length_nil, List.getElem?_cons_zero, List.getElem?_cons_succ, xmap_s, if_true, and_self, Nat.reduceAdd, Nat.reduceLT, Nat.reduceLeDiff, Nat.reduceEqDiff, Nat.lt_add_one, Nat.zero_le, Nat.le_refl, Nat.le_zero_eq, Nat.zero_lt_succ, xldc, kbm10, kbm9, kbm8, kbm7, kbm6, kbm5, kbm4, kbm3, kbm2, kb6, kb7, kb8, kb9, kb10, kb11, kb16, kb19, kb20, kb30, kb31, kb32, kb34, kb40, kb64, kb100, kb127, kim1, ki0, ki1, ki2, ki3, ki4, ki5, ks128, ks400, ks999, ks1000, ks4010])
        try simp (disch := omega) only [nx10, nx4, nx32, nxa0, nxa1, nxa2, nxa3, nxa4, nxa5, nxa6, nxa7, nxa8, nxa9, nxa10, nxs1, nxs10, nxss, nI_add, nI_clamp, mnar0, mnar1, Nat.add_sub_cancel]
        refine l_il rfl (nIn (by omega) (by omega)) ?_
        try dsimp only [Nat.reduceAdd]
        try simp (disch := omega) only [nx10, nx4, nx32, nxa0, nxa1, nxa2, nxa3, nxa4, nxa5, nxa6, nxa7, nxa8, nxa9, nxa10, nxs1, nxs10, nxss, nI_add, nI_clamp, mnar0, mnar1, Nat.add_sub_cancel]
        refine ok_cm (vs := [_, _]) rfl rfl rfl rfl (Nat.le_of_ble_eq_true rfl) (Nat.le_of_ble_eq_true rfl) (by show xcl0 2 8 _ _ = true; simp [xcl0, hI.1]) (by decide) hW (sp66 hW hI) ?_
        rintro _ h398 ⟨x402, rfl⟩ k399 al400
        dsimp only [Option.toList, List.cons_append, List.nil_append, Nat.reduceAdd]
        have hW := k399.1
        have z405 := al400 rfl
        try dsimp only at z405
        obtain ⟨B, hm⟩ := hm.kq k399 (by decide)
        have hI := hI.kp k399 (by decide)
        iterate 6 (refine ok_st rfl rfl ?_; simp only [okS_some, xst, xp0, xp1, xp2, xp3, xp4, xp5, xload, xstore, xget_0, xget_s, xs_0, xs_1n, xs_1i, xs_1r, xs_1u, xs_1l, xs_s, xt_0, xt_1n, xt_1i, xt_1r, xt_1u, xt_1l, xt_s, xisref, xq0, Value.category, xcat, List.map_nil, List.map_cons, List.sum_nil, List.sum_cons, List.length_cons, List.length_nil, List.getElem?_cons_zero, List.getElem?_cons_succ, xmap_s, if_true, and_self, Nat.reduceAdd, Nat.reduceLT, Nat.reduceLeDiff, Nat.reduceEqDiff, Nat.lt_add_one, Nat.zero_le, Nat.le_refl, Nat.le_zero_eq, Nat.zero_lt_succ, xldc, kbm10, kbm9, kbm8, kbm7, kbm6, kbm5, kbm4, kbm3, kbm2, kb6, kb7, kb8, kb9, kb10, kb11, kb16, kb19, kb20, kb30, kb31, kb32, kb34, kb40, kb64, kb100, kb127, kim1, ki0, ki1, ki2, ki3, ki4, ki5, ks128, ks400, ks999, ks1000, ks4010])
        try simp (disch := omega) only [nx10, nx4, nx32, nxa0, nxa1, nxa2, nxa3, nxa4, nxa5, nxa6, nxa7, nxa8, nxa9, nxa10, nxs1, nxs10, nxss, nI_add, nI_clamp, mnar0, mnar1, Nat.add_sub_cancel]
        refine l_il rfl (nIn (by omega) (by omega)) ?_
        try dsimp only [Nat.reduceAdd]
        try simp (disch := omega) only [nx10, nx4, nx32, nxa0, nxa1, nxa2, nxa3, nxa4, nxa5, nxa6, nxa7, nxa8, nxa9, nxa10, nxs1, nxs10, nxss, nI_add, nI_clamp, mnar0, mnar1, Nat.add_sub_cancel]
        refine ok_cm (vs := [_, _]) rfl rfl rfl rfl (Nat.le_of_ble_eq_true rfl) (Nat.le_of_ble_eq_true rfl) (by show xcl0 2 9 _ _ = true; simp [xcl0, hm.1]) (by decide) hW (sp126 hW hm hj) ?_
        rintro _ h406 ⟨⟨x410, rfl⟩, S1, A1, B1, M1, hm, hj, hs⟩ k407 al408
        dsimp only [Option.toList, List.cons_append, List.nil_append, Nat.reduceAdd]
        have hW := k407.1
        have z411 := al408 rfl
        try dsimp only at z411
        have hI := hI.kp k407 (by decide)
        have hS2 := hs.trans hS2
        iterate 3 (refine ok_st rfl rfl ?_; simp only [okS_some, xst, xp0, xp1, xp2, xp3, xp4, xp5, xload, xstore, xget_0, xget_s, xs_0, xs_1n, xs_1i, xs_1r, xs_1u, xs_1l, xs_s, xt_0, xt_1n, xt_1i, xt_1r, xt_1u, xt_1l, xt_s, xisref, xq0, Value.category, xcat, List.map_nil, List.map_cons, List.sum_nil, List.sum_cons, List.length_cons, List.length_nil, List.getElem?_cons_zero, List.getElem?_cons_succ, xmap_s, if_true, and_self, Nat.reduceAdd, Nat.reduceLT, Nat.reduceLeDiff, Nat.reduceEqDiff, Nat.lt_add_one, Nat.zero_le, Nat.le_refl, Nat.le_zero_eq, Nat.zero_lt_succ, xldc, kbm10, kbm9, kbm8, kbm7, kbm6, kbm5, kbm4, kbm3, kbm2, kb6, kb7, kb8, kb9, kb10, kb11, kb16, kb19, kb20, kb30, kb31, kb32, kb34, kb40, kb64, kb100, kb127, kim1, ki0, ki1, ki2, ki3, ki4, ki5, ks128, ks400, ks999, ks1000, ks4010])
        try simp (disch := omega) only [nx10, nx4, nx32, nxa0, nxa1, nxa2, nxa3, nxa4, nxa5, nxa6, nxa7, nxa8, nxa9, nxa10, nxs1, nxs10, nxss, nI_add, nI_clamp, mnar0, mnar1, Nat.add_sub_cancel]
        refine ok_st rfl rfl ?_
        simp only [okS_some, xst, xp0, xp1, xp2, xp3, xp4, xp5, xload, xstore, xget_0, xget_s, xs_0, xs_1n, xs_1i, xs_1r, xs_1u, xs_1l, xs_s, xt_0, xt_1n, xt_1i, xt_1r, xt_1u, xt_1l, xt_s, xisref, xq0, Value.category, xcat, List.map_nil, List.map_cons, List.sum_nil, List.sum_cons, List.length_cons, List.length_nil, List.getElem?_cons_zero, List.getElem?_cons_succ, xmap_s, if_true, and_self, Nat.reduceAdd, Nat.reduceLT, Nat.reduceLeDiff, Nat.reduceEqDiff, Nat.lt_add_one, Nat.zero_le, Nat.le_refl, Nat.le_zero_eq, Nat.zero_lt_succ, xldc, kbm10, kbm9, kbm8, kbm7, kbm6, kbm5, kbm4, kbm3, kbm2, kb6, kb7, kb8, kb9, kb10, kb11, kb16, kb19, kb20, kb30, kb31, kb32, kb34, kb40, kb64, kb100, kb127, kim1, ki0, ki1, ki2, ki3, ki4, ki5, ks128, ks400, ks999, ks1000, ks4010]
        rw [show nI (8 * i) + Int32.ofInt 8 = nI (8 * (i + 1)) from nI_add (8 * i) 8]
        exact ih (i := i + 1) hW ⟨_, _, _, _, _, _, _, _, _, hI.up (by omega), hm, hj, hS2, by omega, by omega⟩ (by omega) (by omega)
      · skip
        iterate 5 (refine ok_st rfl rfl ?_; simp only [okS_some, xst, xp0, xp1, xp2, xp3, xp4, xp5, xload, xstore, xget_0, xget_s, xs_0, xs_1n, xs_1i, xs_1r, xs_1u, xs_1l, xs_s, xt_0, xt_1n, xt_1i, xt_1r, xt_1u, xt_1l, xt_s, xisref, xq0, Value.category, xcat, List.map_nil, List.map_cons, List.sum_nil, List.sum_cons, List.length_cons, List.length_nil, List.getElem?_cons_zero, List.getElem?_cons_succ, xmap_s, if_true, and_self, Nat.reduceAdd, Nat.reduceLT, Nat.reduceLeDiff, Nat.reduceEqDiff, Nat.lt_add_one, Nat.zero_le, Nat.le_refl, Nat.le_zero_eq, Nat.zero_lt_succ, xldc, kbm10, kbm9, kbm8, kbm7, kbm6, kbm5, kbm4, kbm3, kbm2, kb6, kb7, kb8, kb9, kb10, kb11, kb16, kb19, kb20, kb30, kb31, kb32, kb34, kb40, kb64, kb100, kb127, kim1, ki0, ki1, ki2, ki3, ki4, ki5, ks128, ks400, ks999, ks1000, ks4010])
        try simp (disch := omega) only [nx10, nx4, nx32, nxa0, nxa1, nxa2, nxa3, nxa4, nxa5, nxa6, nxa7, nxa8, nxa9, nxa10, nxs1, nxs10, nxss, nI_add, nI_clamp, mnar0, mnar1, Nat.add_sub_cancel]
        refine l_il rfl (nIn (by omega) (by omega)) ?_
        try dsimp only [Nat.reduceAdd]
        try simp (disch := omega) only [nx10, nx4, nx32, nxa0, nxa1, nxa2, nxa3, nxa4, nxa5, nxa6, nxa7, nxa8, nxa9, nxa10, nxs1, nxs10, nxss, nI_add, nI_clamp, mnar0, mnar1, Nat.add_sub_cancel]
        iterate 4 (refine ok_st rfl rfl ?_; simp only [okS_some, xst, xp0, xp1, xp2, xp3, xp4, xp5, xload, xstore, xget_0, xget_s, xs_0, xs_1n, xs_1i, xs_1r, xs_1u, xs_1l, xs_s, xt_0, xt_1n, xt_1i, xt_1r, xt_1u, xt_1l, xt_s, xisref, xq0, Value.category, xcat, List.map_nil, List.map_cons, List.sum_nil, List.sum_cons, List.length_cons, List.length_nil, List.getElem?_cons_zero, List.getElem?_cons_succ, xmap_s, if_true, and_self, Nat.reduceAdd, Nat.reduceLT, Nat.reduceLeDiff, Nat.reduceEqDiff, Nat.lt_add_one, Nat.zero_le, Nat.le_refl, Nat.le_zero_eq, Nat.zero_lt_succ, xldc, kbm10, kbm9, kbm8, kbm7, kbm6, kbm5, kbm4, kbm3, kbm2, kb6, kb7, kb8, kb9, kb10, kb11, kb16, kb19, kb20, kb30, kb31, kb32, kb34, kb40, kb64, kb100, kb127, kim1, ki0, ki1, ki2, ki3, ki4, ki5, ks128, ks400, ks999, ks1000, ks4010])
        try simp (disch := omega) only [nx10, nx4, nx32, nxa0, nxa1, nxa2, nxa3, nxa4, nxa5, nxa6, nxa7, nxa8, nxa9, nxa10, nxs1, nxs10, nxss, nI_add, nI_clamp, mnar0, mnar1, Nat.add_sub_cancel]
        refine l_il rfl (nIn (by omega) (by omega)) ?_
        try dsimp only [Nat.reduceAdd]
        try simp (disch := omega) only [nx10, nx4, nx32, nxa0, nxa1, nxa2, nxa3, nxa4, nxa5, nxa6, nxa7, nxa8, nxa9, nxa10, nxs1, nxs10, nxss, nI_add, nI_clamp, mnar0, mnar1, Nat.add_sub_cancel]
        iterate 4 (refine ok_st rfl rfl ?_; simp only [okS_some, xst, xp0, xp1, xp2, xp3, xp4, xp5, xload, xstore, xget_0, xget_s, xs_0, xs_1n, xs_1i, xs_1r, xs_1u, xs_1l, xs_s, xt_0, xt_1n, xt_1i, xt_1r, xt_1u, xt_1l, xt_s, xisref, xq0, Value.category, xcat, List.map_nil, List.map_cons, List.sum_nil, List.sum_cons, List.length_cons, List.length_nil, List.getElem?_cons_zero, List.getElem?_cons_succ, xmap_s, if_true, and_self, Nat.reduceAdd, Nat.reduceLT, Nat.reduceLeDiff, Nat.reduceEqDiff, Nat.lt_add_one, Nat.zero_le, Nat.le_refl, Nat.le_zero_eq, Nat.zero_lt_succ, xldc, kbm10, kbm9, kbm8, kbm7, kbm6, kbm5, kbm4, kbm3, kbm2, kb6, kb7, kb8, kb9, kb10, kb11, kb16, kb19, kb20, kb30, kb31, kb32, kb34, kb40, kb64, kb100, kb127, kim1, ki0, ki1, ki2, ki3, ki4, ki5, ks128, ks400, ks999, ks1000, ks4010])
        try simp (disch := omega) only [nx10, nx4, nx32, nxa0, nxa1, nxa2, nxa3, nxa4, nxa5, nxa6, nxa7, nxa8, nxa9, nxa10, nxs1, nxs10, nxss, nI_add, nI_clamp, mnar0, mnar1, Nat.add_sub_cancel]
        refine l_il rfl (nIn (by omega) (by omega)) ?_
        try dsimp only [Nat.reduceAdd]
        try simp (disch := omega) only [nx10, nx4, nx32, nxa0, nxa1, nxa2, nxa3, nxa4, nxa5, nxa6, nxa7, nxa8, nxa9, nxa10, nxs1, nxs10, nxss, nI_add, nI_clamp, mnar0, mnar1, Nat.add_sub_cancel]
        refine ok_cm (vs := [_, _, _, _]) rfl rfl rfl rfl (Nat.le_of_ble_eq_true rfl) (Nat.le_of_ble_eq_true rfl) (by show xcl0 2 8 _ _ = true; simp [xcl0, hI.1]) (by decide) hW (sp67 hW hI (by omega)) ?_
        rintro _ h412 ⟨⟨x416, rfl⟩, hI, z417, z418⟩ k413 al414
        dsimp only [Option.toList, List.cons_append, List.nil_append, Nat.reduceAdd]
        try dsimp only at z417 z418
        have hW := k413.1
        obtain ⟨B, hm⟩ := hm.kq k413 (by decide)
        iterate 6 (refine ok_st rfl rfl ?_; simp only [okS_some, xst, xp0, xp1, xp2, xp3, xp4, xp5, xload, xstore, xget_0, xget_s, xs_0, xs_1n, xs_1i, xs_1r, xs_1u, xs_1l, xs_s, xt_0, xt_1n, xt_1i, xt_1r, xt_1u, xt_1l, xt_s, xisref, xq0, Value.category, xcat, List.map_nil, List.map_cons, List.sum_nil, List.sum_cons, List.length_cons, List.length_nil, List.getElem?_cons_zero, List.getElem?_cons_succ, xmap_s, if_true, and_self, Nat.reduceAdd, Nat.reduceLT, Nat.reduceLeDiff, Nat.reduceEqDiff, Nat.lt_add_one, Nat.zero_le, Nat.le_refl, Nat.le_zero_eq, Nat.zero_lt_succ, xldc, kbm10, kbm9, kbm8, kbm7, kbm6, kbm5, kbm4, kbm3, kbm2, kb6, kb7, kb8, kb9, kb10, kb11, kb16, kb19, kb20, kb30, kb31, kb32, kb34, kb40, kb64, kb100, kb127, kim1, ki0, ki1, ki2, ki3, ki4, ki5, ks128, ks400, ks999, ks1000, ks4010])
        try simp (disch := omega) only [nx10, nx4, nx32, nxa0, nxa1, nxa2, nxa3, nxa4, nxa5, nxa6, nxa7, nxa8, nxa9, nxa10, nxs1, nxs10, nxss, nI_add, nI_clamp, mnar0, mnar1, Nat.add_sub_cancel]
        refine l_il rfl (nIn (by omega) (by omega)) ?_
        try dsimp only [Nat.reduceAdd]
        try simp (disch := omega) only [nx10, nx4, nx32, nxa0, nxa1, nxa2, nxa3, nxa4, nxa5, nxa6, nxa7, nxa8, nxa9, nxa10, nxs1, nxs10, nxss, nI_add, nI_clamp, mnar0, mnar1, Nat.add_sub_cancel]
        iterate 4 (refine ok_st rfl rfl ?_; simp only [okS_some, xst, xp0, xp1, xp2, xp3, xp4, xp5, xload, xstore, xget_0, xget_s, xs_0, xs_1n, xs_1i, xs_1r, xs_1u, xs_1l, xs_s, xt_0, xt_1n, xt_1i, xt_1r, xt_1u, xt_1l, xt_s, xisref, xq0, Value.category, xcat, List.map_nil, List.map_cons, List.sum_nil, List.sum_cons, List.length_cons, List.length_nil, List.getElem?_cons_zero, List.getElem?_cons_succ, xmap_s, if_true, and_self, Nat.reduceAdd, Nat.reduceLT, Nat.reduceLeDiff, Nat.reduceEqDiff, Nat.lt_add_one, Nat.zero_le, Nat.le_refl, Nat.le_zero_eq, Nat.zero_lt_succ, xldc, kbm10, kbm9, kbm8, kbm7, kbm6, kbm5, kbm4, kbm3, kbm2, kb6, kb7, kb8, kb9, kb10, kb11, kb16, kb19, kb20, kb30, kb31, kb32, kb34, kb40, kb64, kb100, kb127, kim1, ki0, ki1, ki2, ki3, ki4, ki5, ks128, ks400, ks999, ks1000, ks4010])
        try simp (disch := omega) only [nx10, nx4, nx32, nxa0, nxa1, nxa2, nxa3, nxa4, nxa5, nxa6, nxa7, nxa8, nxa9, nxa10, nxs1, nxs10, nxss, nI_add, nI_clamp, mnar0, mnar1, Nat.add_sub_cancel]
        refine l_il rfl (nIn (by omega) (by omega)) ?_
        try dsimp only [Nat.reduceAdd]
        try simp (disch := omega) only [nx10, nx4, nx32, nxa0, nxa1, nxa2, nxa3, nxa4, nxa5, nxa6, nxa7, nxa8, nxa9, nxa10, nxs1, nxs10, nxss, nI_add, nI_clamp, mnar0, mnar1, Nat.add_sub_cancel]
        iterate 4 (refine ok_st rfl rfl ?_; simp only [okS_some, xst, xp0, xp1, xp2, xp3, xp4, xp5, xload, xstore, xget_0, xget_s, xs_0, xs_1n, xs_1i, xs_1r, xs_1u, xs_1l, xs_s, xt_0, xt_1n, xt_1i, xt_1r, xt_1u, xt_1l, xt_s, xisref, xq0, Value.category, xcat, List.map_nil, List.map_cons, List.sum_nil, List.sum_cons, List.length_cons, List.length_nil, List.getElem?_cons_zero, List.getElem?_cons_succ, xmap_s, if_true, and_self, Nat.reduceAdd, Nat.reduceLT, Nat.reduceLeDiff, Nat.reduceEqDiff, Nat.lt_add_one, Nat.zero_le, Nat.le_refl, Nat.le_zero_eq, Nat.zero_lt_succ, xldc, kbm10, kbm9, kbm8, kbm7, kbm6, kbm5, kbm4, kbm3, kbm2, kb6, kb7, kb8, kb9, kb10, kb11, kb16, kb19, kb20, kb30, kb31, kb32, kb34, kb40, kb64, kb100, kb127, kim1, ki0, ki1, ki2, ki3, ki4, ki5, ks128, ks400, ks999, ks1000, ks4010])
        try simp (disch := omega) only [nx10, nx4, nx32, nxa0, nxa1, nxa2, nxa3, nxa4, nxa5, nxa6, nxa7, nxa8, nxa9, nxa10, nxs1, nxs10, nxss, nI_add, nI_clamp, mnar0, mnar1, Nat.add_sub_cancel]
        refine l_il rfl (nIn (by omega) (by omega)) ?_
        try dsimp only [Nat.reduceAdd]
        try simp (disch := omega) only [nx10, nx4, nx32, nxa0, nxa1, nxa2, nxa3, nxa4, nxa5, nxa6, nxa7, nxa8, nxa9, nxa10, nxs1, nxs10, nxss, nI_add, nI_clamp, mnar0, mnar1, Nat.add_sub_cancel]
        refine ok_cm (vs := [_, _, _, _]) rfl rfl rfl rfl (Nat.le_of_ble_eq_true rfl) (Nat.le_of_ble_eq_true rfl) (by show xcl0 2 9 _ _ = true; simp [xcl0, hm.1]) (by decide) hW (sp129 hW hm hj) ?_
        rintro _ h420 ⟨⟨x424, rfl⟩, S1, A1, B1, M1, hm, hj, hs⟩ k421 al422
        dsimp only [Option.toList, List.cons_append, List.nil_append, Nat.reduceAdd]
        have hW := k421.1
        have z425 := al422 rfl
        try dsimp only at z425
        have hI := hI.kp k421 (by decide)
        have hS2 := hs.trans hS2
        iterate 3 (refine ok_st rfl rfl ?_; simp only [okS_some, xst, xp0, xp1, xp2, xp3, xp4, xp5, xload, xstore, xget_0, xget_s, xs_0, xs_1n, xs_1i, xs_1r, xs_1u, xs_1l, xs_s, xt_0, xt_1n, xt_1i, xt_1r, xt_1u, xt_1l, xt_s, xisref, xq0, Value.category, xcat, List.map_nil, List.map_cons, List.sum_nil, List.sum_cons, List.length_cons, List.length_nil, List.getElem?_cons_zero, List.getElem?_cons_succ, xmap_s, if_true, and_self, Nat.reduceAdd, Nat.reduceLT, Nat.reduceLeDiff, Nat.reduceEqDiff, Nat.lt_add_one, Nat.zero_le, Nat.le_refl, Nat.le_zero_eq, Nat.zero_lt_succ, xldc, kbm10, kbm9, kbm8, kbm7, kbm6, kbm5, kbm4, kbm3, kbm2, kb6, kb7, kb8, kb9, kb10, kb11, kb16, kb19, kb20, kb30, kb31, kb32, kb34, kb40, kb64, kb100, kb127, kim1, ki0, ki1, ki2, ki3, ki4, ki5, ks128, ks400, ks999, ks1000, ks4010])
        try simp (disch := omega) only [nx10, nx4, nx32, nxa0, nxa1, nxa2, nxa3, nxa4, nxa5, nxa6, nxa7, nxa8, nxa9, nxa10, nxs1, nxs10, nxss, nI_add, nI_clamp, mnar0, mnar1, Nat.add_sub_cancel]
        refine ok_st rfl rfl ?_
        simp only [okS_some, xst, xp0, xp1, xp2, xp3, xp4, xp5, xload, xstore, xget_0, xget_s, xs_0, xs_1n, xs_1i, xs_1r, xs_1u, xs_1l, xs_s, xt_0, xt_1n, xt_1i, xt_1r, xt_1u, xt_1l, xt_s, xisref, xq0, Value.category, xcat, List.map_nil, List.map_cons, List.sum_nil, List.sum_cons, List.length_cons, List.length_nil, List.getElem?_cons_zero, List.getElem?_cons_succ, xmap_s, if_true, and_self, Nat.reduceAdd, Nat.reduceLT, Nat.reduceLeDiff, Nat.reduceEqDiff, Nat.lt_add_one, Nat.zero_le, Nat.le_refl, Nat.le_zero_eq, Nat.zero_lt_succ, xldc, kbm10, kbm9, kbm8, kbm7, kbm6, kbm5, kbm4, kbm3, kbm2, kb6, kb7, kb8, kb9, kb10, kb11, kb16, kb19, kb20, kb30, kb31, kb32, kb34, kb40, kb64, kb100, kb127, kim1, ki0, ki1, ki2, ki3, ki4, ki5, ks128, ks400, ks999, ks1000, ks4010]
        rw [show nI (8 * i) + Int32.ofInt 8 = nI (8 * (i + 1)) from nI_add (8 * i) 8]
        exact ih (i := i + 1) hW ⟨_, _, _, _, _, _, _, _, _, hI.up (by omega), hm, hj, hS2, by omega, by omega⟩ (by omega) (by omega)
      · skip
        refine ok_st rfl rfl ?_
        simp only [okS_some, xst, xp0, xp1, xp2, xp3, xp4, xp5, xload, xstore, xget_0, xget_s, xs_0, xs_1n, xs_1i, xs_1r, xs_1u, xs_1l, xs_s, xt_0, xt_1n, xt_1i, xt_1r, xt_1u, xt_1l, xt_s, xisref, xq0, Value.category, xcat, List.map_nil, List.map_cons, List.sum_nil, List.sum_cons, List.length_cons, List.length_nil, List.getElem?_cons_zero, List.getElem?_cons_succ, xmap_s, if_true, and_self, Nat.reduceAdd, Nat.reduceLT, Nat.reduceLeDiff, Nat.reduceEqDiff, Nat.lt_add_one, Nat.zero_le, Nat.le_refl, Nat.le_zero_eq, Nat.zero_lt_succ, xldc, kbm10, kbm9, kbm8, kbm7, kbm6, kbm5, kbm4, kbm3, kbm2, kb6, kb7, kb8, kb9, kb10, kb11, kb16, kb19, kb20, kb30, kb31, kb32, kb34, kb40, kb64, kb100, kb127, kim1, ki0, ki1, ki2, ki3, ki4, ki5, ks128, ks400, ks999, ks1000, ks4010]
        try simp (disch := omega) only [nx10, nx4, nx32, nxa0, nxa1, nxa2, nxa3, nxa4, nxa5, nxa6, nxa7, nxa8, nxa9, nxa10, nxs1, nxs10, nxss, nI_add, nI_clamp, mnar0, mnar1, Nat.add_sub_cancel]
        refine ok_st rfl rfl ?_
        simp only [okS_some, xst, xp0, xp1, xp2, xp3, xp4, xp5, xload, xstore, xget_0, xget_s, xs_0, xs_1n, xs_1i, xs_1r, xs_1u, xs_1l, xs_s, xt_0, xt_1n, xt_1i, xt_1r, xt_1u, xt_1l, xt_s, xisref, xq0, Value.category, xcat, List.map_nil, List.map_cons, List.sum_nil, List.sum_cons, List.length_cons, List.length_nil, List.getElem?_cons_zero, List.getElem?_cons_succ, xmap_s, if_true, and_self, Nat.reduceAdd, Nat.reduceLT, Nat.reduceLeDiff, Nat.reduceEqDiff, Nat.lt_add_one, Nat.zero_le, Nat.le_refl, Nat.le_zero_eq, Nat.zero_lt_succ, xldc, kbm10, kbm9, kbm8, kbm7, kbm6, kbm5, kbm4, kbm3, kbm2, kb6, kb7, kb8, kb9, kb10, kb11, kb16, kb19, kb20, kb30, kb31, kb32, kb34, kb40, kb64, kb100, kb127, kim1, ki0, ki1, ki2, ki3, ki4, ki5, ks128, ks400, ks999, ks1000, ks4010]
        rw [show nI (8 * i) + Int32.ofInt 8 = nI (8 * (i + 1)) from nI_add (8 * i) 8]
        exact ih (i := i + 1) hW ⟨_, _, _, _, _, _, _, _, _, hI.up (by omega), hm, hj, hS2, by omega, by omega⟩ (by omega) (by omega)
theorem lI0 : lI 0 hD0 := by
  obtain ⟨c1, c2, c3⟩ := mC0
  have z : ∀ q i, q ∈ mQ → i < mlen q → mA0 q i = 0 := c2
  refine ⟨0, 0, 0, mS0, mA0, mB0, 0, 0, 0, cI0, c1, ⟨⟨rfl, by decide, by decide, ⟨fun s hs => z 59 s (by decide) hs, fun n hn => absurd hn (Nat.not_lt_zero n), fun n hn => absurd hn (Nat.not_lt_zero n)⟩, ⟨rfl, by decide, fun v hv => absurd hv (Nat.not_lt_zero v)⟩, rfl, by decide, fun d hd => ⟨fun _ => ⟨z 70 d (by decide) hd, z 71 d (by decide) hd⟩, 0, 0, 0, z 71 d (by decide) hd, z 72 d (by decide) hd, z 73 d (by decide) hd, by decide, by decide, by decide, fun _ => ⟨rfl, rfl⟩, fun q => ?_, fun q => ?_, fun k hk => absurd hk (Nat.not_lt_zero k), fun k hk => absurd hk (Nat.not_lt_zero k)⟩⟩, rfl⟩, rfl, by rw [hD0_1]; decide, by have := hD0_2; omega⟩
  · rw [z 70 d (by decide) hd] at q; exact absurd q (by decide)
  · rw [z 70 d (by decide) hd] at q; exact absurd q (by decide)
theorem law_holds : xLaw := fun X hX => by
  obtain ⟨n, r, h', h1, h2, h3⟩ := law_start (Q := lQ) (law_loop hX _ (i := 0) hD0_wf lI0 (by decide) (Nat.lt_succ_self _))
  exact ⟨n, h', by rw [← h2]; exact h1, h3⟩
