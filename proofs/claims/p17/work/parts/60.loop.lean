/-- what holds before each call -/
def lJ (i : Nat) (h : xH) : Prop := ∃ (td : Int32) (S : Nat → Int32) (A : Nat → Nat → Int32) (B : Nat → Nat → Int64) (M V D : Nat), cI (2 * i) td (nI V) (nI D) h ∧ mC S A B h ∧ mJ S A M V D ∧ S 2 = td ∧ h.1 ≤ 79 + 1030 * i ∧ h.2.1 ≤ 9000 + 8300 * i
set_option maxRecDepth 20000 in
set_option maxHeartbeats 8000000 in
theorem law_loop {X : Nat × (Nat → Int32)} (hX : X.1 ≤ 4096) : ∀ (k : Nat) {h : xH} {i : Nat}, xWF h → lJ i h → 8 * i ≤ 4096 → X.1 - 8 * i < k → ok X cd131 (18, [some (.retAddr 0), some (.ref 0), some (.ref 57), some (.int (nI (8 * i)))], []) h lQ := by
  intro k
  induction k with
  | zero =>
    intro h i hW hl hi hk0
    exact absurd hk0 (by omega)
  | succ k ih =>
    intro h i hW hl hi hk0
    obtain ⟨td, S, A, B, M, V, D, hI, hm, hj, hS2, z01, z02⟩ := hl
    have hV4 : V ≤ 4 := hj.1.2.2.2.2.1.2.1
    have hD10 : D ≤ 10 := hj.1.2.2.2.2.2.2.1
    have vk4 : nI V < (4 : Int32) ↔ V < 4 := by rw [show (4 : Int32) = nI 4 from rfl, nI_ltI (by omega) (by decide)]
    have dk10 : nI D < (10 : Int32) ↔ D < 10 := by rw [show (10 : Int32) = nI 10 from rfl, nI_ltI (by omega) (by decide)]
    iterate 2 (refine ok_st rfl rfl ?_; simp only [okS_some, xst, xp0, xp1, xp2, xp3, xp4, xp5, xload, xstore, xget_0, xget_s, xs_0, xs_1n, xs_1i, xs_1r, xs_1u, xs_1l, xs_s, xt_0, xt_1n, xt_1i, xt_1r, xt_1u, xt_1l, xt_s, xisref, xq0, Value.category, xcat, List.map_nil, List.map_cons, List.sum_nil, List.sum_cons, List.length_cons, List.length_nil, List.getElem?_cons_zero, List.getElem?_cons_succ, xmap_s, if_true, and_self, Nat.reduceAdd, Nat.reduceLT, Nat.reduceLeDiff, Nat.reduceEqDiff, Nat.lt_add_one, Nat.zero_le, Nat.le_refl, Nat.le_zero_eq, Nat.zero_lt_succ, xldc, kbm10, kbm9, kbm8, kbm7, kbm6, kbm5, kbm4, kbm3, kbm2, kb6, kb7, kb8, kb9, kb10, kb11, kb16, kb19, kb20, kb30, kb31, kb32, kb34, kb40, kb64, kb100, kb127, kim1, ki0, ki1, ki2, ki3, ki4, ki5, ks128, ks400, ks999, ks1000, ks4010])
    refine ok_st rfl rfl ?_
    simp only [okS_some, xst, xq3, xmap_s, Nat.reduceAdd]
    rw [show Int32.ofNat X.1 = nI X.1 from rfl]
    iterate 2 (refine ok_st rfl rfl ?_; simp only [okS_some, xst, xp0, xp1, xp2, xp3, xp4, xp5, xload, xstore, xget_0, xget_s, xs_0, xs_1n, xs_1i, xs_1r, xs_1u, xs_1l, xs_s, xt_0, xt_1n, xt_1i, xt_1r, xt_1u, xt_1l, xt_s, xisref, xq0, Value.category, xcat, List.map_nil, List.map_cons, List.sum_nil, List.sum_cons, List.length_cons, List.length_nil, List.getElem?_cons_zero, List.getElem?_cons_succ, xmap_s, if_true, and_self, Nat.reduceAdd, Nat.reduceLT, Nat.reduceLeDiff, Nat.reduceEqDiff, Nat.lt_add_one, Nat.zero_le, Nat.le_refl, Nat.le_zero_eq, Nat.zero_lt_succ, xldc, kbm10, kbm9, kbm8, kbm7, kbm6, kbm5, kbm4, kbm3, kbm2, kb6, kb7, kb8, kb9, kb10, kb11, kb16, kb19, kb20, kb30, kb31, kb32, kb34, kb40, kb64, kb100, kb127, kim1, ki0, ki1, ki2, ki3, ki4, ki5, ks128, ks400, ks999, ks1000, ks4010])
    try simp (disch := omega) only [nx10, nx4, nx32, nxa0, nxa1, nxa2, nxa3, nxa4, nxa5, nxa6, nxa7, nxa8, nxa9, nxa10, nxs1, nxs10, nxss, nI_add, nI_clamp, mnar0, mnar1, Nat.add_sub_cancel]
    refine ok_st rfl rfl ?_
    simp only [okS_some, xst, xp0, xp1, xp2, xp3, xp4, xp5, xload, xstore, xget_0, xget_s, xs_0, xs_1n, xs_1i, xs_1r, xs_1u, xs_1l, xs_s, xt_0, xt_1n, xt_1i, xt_1r, xt_1u, xt_1l, xt_s, xisref, xq0, Value.category, xcat, List.map_nil, List.map_cons, List.sum_nil, List.sum_cons, List.length_cons, List.length_nil, List.getElem?_cons_zero, List.getElem?_cons_succ, xmap_s, if_true, and_self, Nat.reduceAdd, Nat.reduceLT, Nat.reduceLeDiff, Nat.reduceEqDiff, Nat.lt_add_one, Nat.zero_le, Nat.le_refl, Nat.le_zero_eq, Nat.zero_lt_succ, xldc, kbm10, kbm9, kbm8, kbm7, kbm6, kbm5, kbm4, kbm3, kbm2, kb6, kb7, kb8, kb9, kb10, kb11, kb16, kb19, kb20, kb30, kb31, kb32, kb34, kb40, kb64, kb100, kb127, kim1, ki0, ki1, ki2, ki3, ki4, ki5, ks128, ks400, ks999, ks1000, ks4010]
    refine ok_if (fun c101 => ?_) (fun c101 => ?_)
    · simp only [xcnd, decide_eq_true_eq, decide_eq_false_iff_not, Bool.not_eq_true', Bool.not_eq_false'] at c101
      try simp (disch := omega) only [Int32.not_lt, Int32.not_le, nI_ltI, nI_leI, nI_eq, nk0e, nk1e, nk4e, nk10e, nk400e, nk0l, nk1l, nk0g, nk1g, nk0n, nk0p, lg_cmp_ge, lg_cmp_le, lg_cmp_gt, lg_cmp_lt, lg_cmp_eq, Int64.not_lt, Int64.not_le, Nat.not_lt, Nat.not_le] at c101
      refine ok_st rfl rfl ?_
      simp only [okS_some, xst, xp0, xp1, xp2, xp3, xp4, xp5, xload, xstore, xget_0, xget_s, xs_0, xs_1n, xs_1i, xs_1r, xs_1u, xs_1l, xs_s, xt_0, xt_1n, xt_1i, xt_1r, xt_1u, xt_1l, xt_s, xisref, xq0, Value.category, xcat, List.map_nil, List.map_cons, List.sum_nil, List.sum_cons, List.length_cons, List.length_nil, List.getElem?_cons_zero, List.getElem?_cons_succ, xmap_s, if_true, and_self, Nat.reduceAdd, Nat.reduceLT, Nat.reduceLeDiff, Nat.reduceEqDiff, Nat.lt_add_one, Nat.zero_le, Nat.le_refl, Nat.le_zero_eq, Nat.zero_lt_succ, xldc, kbm10, kbm9, kbm8, kbm7, kbm6, kbm5, kbm4, kbm3, kbm2, kb6, kb7, kb8, kb9, kb10, kb11, kb16, kb19, kb20, kb30, kb31, kb32, kb34, kb40, kb64, kb100, kb127, kim1, ki0, ki1, ki2, ki3, ki4, ki5, ks128, ks400, ks999, ks1000, ks4010]
      refine ok_r1 rfl rfl rfl rfl ?_
      exact ⟨rfl, by omega, by omega⟩
    · simp only [xcnd, decide_eq_true_eq, decide_eq_false_iff_not, Bool.not_eq_true', Bool.not_eq_false'] at c101
      try simp (disch := omega) only [Int32.not_lt, Int32.not_le, nI_ltI, nI_leI, nI_eq, nk0e, nk1e, nk4e, nk10e, nk400e, nk0l, nk1l, nk0g, nk1g, nk0n, nk0p, lg_cmp_ge, lg_cmp_le, lg_cmp_gt, lg_cmp_lt, lg_cmp_eq, Int64.not_lt, Int64.not_le, Nat.not_lt, Nat.not_le] at c101
      have hg := l_go hX hi c101
      iterate 2 (refine ok_st rfl rfl ?_; simp only [okS_some, xst, xp0, xp1, xp2, xp3, xp4, xp5, xload, xstore, xget_0, xget_s, xs_0, xs_1n, xs_1i, xs_1r, xs_1u, xs_1l, xs_s, xt_0, xt_1n, xt_1i, xt_1r, xt_1u, xt_1l, xt_s, xisref, xq0, Value.category, xcat, List.map_nil, List.map_cons, List.sum_nil, List.sum_cons, List.length_cons, List.length_nil, List.getElem?_cons_zero, List.getElem?_cons_succ, xmap_s, if_true, and_self, Nat.reduceAdd, Nat.reduceLT, Nat.reduceLeDiff, Nat.reduceEqDiff, Nat.lt_add_one, Nat.zero_le, Nat.le_refl, Nat.le_zero_eq, Nat.zero_lt_succ, xldc, kbm10, kbm9, kbm8, kbm7, kbm6, kbm5, kbm4, kbm3, kbm2, kb6, kb7, kb8, kb9, kb10, kb11, kb16, kb19, kb20, kb30, kb31, kb32, kb34, kb40, kb64, kb100, kb127, kim1, ki0, ki1, ki2, ki3, ki4, ki5, ks128, ks400, ks999, ks1000, ks4010])
      refine l_il rfl (nIn (by omega) (by omega)) ?_
      try dsimp only [Nat.reduceAdd]
      try simp (disch := omega) only [nx10, nx4, nx32, nxa0, nxa1, nxa2, nxa3, nxa4, nxa5, nxa6, nxa7, nxa8, nxa9, nxa10, nxs1, nxs10, nxss, nI_add, nI_clamp, mnar0, mnar1, Nat.add_sub_cancel]
      iterate 2 (refine ok_st rfl rfl ?_; simp only [okS_some, xst, xp0, xp1, xp2, xp3, xp4, xp5, xload, xstore, xget_0, xget_s, xs_0, xs_1n, xs_1i, xs_1r, xs_1u, xs_1l, xs_s, xt_0, xt_1n, xt_1i, xt_1r, xt_1u, xt_1l, xt_s, xisref, xq0, Value.category, xcat, List.map_nil, List.map_cons, List.sum_nil, List.sum_cons, List.length_cons, List.length_nil, List.getElem?_cons_zero, List.getElem?_cons_succ, xmap_s, if_true, and_self, Nat.reduceAdd, Nat.reduceLT, Nat.reduceLeDiff, Nat.reduceEqDiff, Nat.lt_add_one, Nat.zero_le, Nat.le_refl, Nat.le_zero_eq, Nat.zero_lt_succ, xldc, kbm10, kbm9, kbm8, kbm7, kbm6, kbm5, kbm4, kbm3, kbm2, kb6, kb7, kb8, kb9, kb10, kb11, kb16, kb19, kb20, kb30, kb31, kb32, kb34, kb40, kb64, kb100, kb127, kim1, ki0, ki1, ki2, ki3, ki4, ki5, ks128, ks400, ks999, ks1000, ks4010])
      try simp (disch := omega) only [nx10, nx4, nx32, nxa0, nxa1, nxa2, nxa3, nxa4, nxa5, nxa6, nxa7, nxa8, nxa9, nxa10, nxs1, nxs10, nxss, nI_add, nI_clamp, mnar0, mnar1, Nat.add_sub_cancel]
      refine ok_st rfl rfl ?_
      simp only [xst, xp6, xmap_s, okS_some]
      refine ok_sw ?_
      intro t ht
      have ht : t = 140 ∨ t = 163 ∨ t = 250 ∨ t = 337 ∨ t = 380 ∨ t = 413 ∨ t = 446 ∨ t = 469 ∨ t = 492 ∨ t = 545 ∨ t = 588 ∨ t = 621 ∨ t = 654 ∨ t = 687 ∨ t = 720 ∨ t = 763 ∨ t = 776 ∨ t = 819 ∨ t = 842 ∨ t = 865 ∨ t = 898 ∨ t = 973 ∨ t = 996 ∨ t = 1039 := by simpa using ht
      rcases ht with rfl | rfl | rfl | rfl | rfl | rfl | rfl | rfl | rfl | rfl | rfl | rfl | rfl | rfl | rfl | rfl | rfl | rfl | rfl | rfl | rfl | rfl | rfl | rfl
      · skip
        iterate 5 (refine ok_st rfl rfl ?_; simp only [okS_some, xst, xp0, xp1, xp2, xp3, xp4, xp5, xload, xstore, xget_0, xget_s, xs_0, xs_1n, xs_1i, xs_1r, xs_1u, xs_1l, xs_s, xt_0, xt_1n, xt_1i, xt_1r, xt_1u, xt_1l, xt_s, xisref, xq0, Value.category, xcat, List.map_nil, List.map_cons, List.sum_nil, List.sum_cons, List.length_cons, List.length_nil, List.getElem?_cons_zero, List.getElem?_cons_succ, xmap_s, if_true, and_self, Nat.reduceAdd, Nat.reduceLT, Nat.reduceLeDiff, Nat.reduceEqDiff, Nat.lt_add_one, Nat.zero_le, Nat.le_refl, Nat.le_zero_eq, Nat.zero_lt_succ, xldc, kbm10, kbm9, kbm8, kbm7, kbm6, kbm5, kbm4, kbm3, kbm2, kb6, kb7, kb8, kb9, kb10, kb11, kb16, kb19, kb20, kb30, kb31, kb32, kb34, kb40, kb64, kb100, kb127, kim1, ki0, ki1, ki2, ki3, ki4, ki5, ks128, ks400, ks999, ks1000, ks4010])
        try simp (disch := omega) only [nx10, nx4, nx32, nxa0, nxa1, nxa2, nxa3, nxa4, nxa5, nxa6, nxa7, nxa8, nxa9, nxa10, nxs1, nxs10, nxss, nI_add, nI_clamp, mnar0, mnar1, Nat.add_sub_cancel]
        refine l_il rfl (nIn (by omega) (by omega)) ?_
        try dsimp only [Nat.reduceAdd]
        try simp (disch := omega) only [nx10, nx4, nx32, nxa0, nxa1, nxa2, nxa3, nxa4, nxa5, nxa6, nxa7, nxa8, nxa9, nxa10, nxs1, nxs10, nxss, nI_add, nI_clamp, mnar0, mnar1, Nat.add_sub_cancel]
        refine ok_cm (vs := [_, _]) rfl rfl rfl rfl (Nat.le_of_ble_eq_true rfl) (Nat.le_of_ble_eq_true rfl) (by show xcl0 2 8 _ _ = true; simp [xcl0, hI.1]) (by decide) hW (sp45 hW hI) ?_
        rintro _ h102 ⟨⟨rfl, d1, hI⟩ | ⟨rfl, d1, d2, hI⟩, z1, z2⟩ k103 al104
        · dsimp only [Option.toList, List.cons_append, List.nil_append, Nat.reduceAdd]
          try dsimp only at z1 z2
          have hW := k103.1
          have z106 := al104 rfl
          try dsimp only at z106
          obtain ⟨B, hm⟩ := hm.kq k103 (by decide)
          iterate 6 (refine ok_st rfl rfl ?_; simp only [okS_some, xst, xp0, xp1, xp2, xp3, xp4, xp5, xload, xstore, xget_0, xget_s, xs_0, xs_1n, xs_1i, xs_1r, xs_1u, xs_1l, xs_s, xt_0, xt_1n, xt_1i, xt_1r, xt_1u, xt_1l, xt_s, xisref, xq0, Value.category, xcat, List.map_nil, List.map_cons, List.sum_nil, List.sum_cons, List.length_cons, List.length_nil, List.getElem?_cons_zero, List.getElem?_cons_succ, xmap_s, if_true, and_self, Nat.reduceAdd, Nat.reduceLT, Nat.reduceLeDiff, Nat.reduceEqDiff, Nat.lt_add_one, Nat.zero_le, Nat.le_refl, Nat.le_zero_eq, Nat.zero_lt_succ, xldc, kbm10, kbm9, kbm8, kbm7, kbm6, kbm5, kbm4, kbm3, kbm2, kb6, kb7, kb8, kb9, kb10, kb11, kb16, kb19, kb20, kb30, kb31, kb32, kb34, kb40, kb64, kb100, kb127, kim1, ki0, ki1, ki2, ki3, ki4, ki5, ks128, ks400, ks999, ks1000, ks4010])
          try simp (disch := omega) only [nx10, nx4, nx32, nxa0, nxa1, nxa2, nxa3, nxa4, nxa5, nxa6, nxa7, nxa8, nxa9, nxa10, nxs1, nxs10, nxss, nI_add, nI_clamp, mnar0, mnar1, Nat.add_sub_cancel]
          refine l_il rfl (nIn (by omega) (by omega)) ?_
          try dsimp only [Nat.reduceAdd]
          try simp (disch := omega) only [nx10, nx4, nx32, nxa0, nxa1, nxa2, nxa3, nxa4, nxa5, nxa6, nxa7, nxa8, nxa9, nxa10, nxs1, nxs10, nxss, nI_add, nI_clamp, mnar0, mnar1, Nat.add_sub_cancel]
          refine ok_cm (vs := [_, _]) rfl rfl rfl rfl (Nat.le_of_ble_eq_true rfl) (Nat.le_of_ble_eq_true rfl) (by show xcl0 2 9 _ _ = true; simp [xcl0, hm.1]) (by decide) hW (sp88 hW hm) ?_
          rintro _ h107 (⟨rfl, m1, hm⟩ | ⟨rfl, m1, m2, hm⟩) k108 al109
          · dsimp only [Option.toList, List.cons_append, List.nil_append, Nat.reduceAdd]
            have hW := k108.1
            have z111 := al109 rfl
            try dsimp only at z111
            have hI := hI.kp k108 (by decide)
            iterate 3 (refine ok_st rfl rfl ?_; simp only [okS_some, xst, xp0, xp1, xp2, xp3, xp4, xp5, xload, xstore, xget_0, xget_s, xs_0, xs_1n, xs_1i, xs_1r, xs_1u, xs_1l, xs_s, xt_0, xt_1n, xt_1i, xt_1r, xt_1u, xt_1l, xt_s, xisref, xq0, Value.category, xcat, List.map_nil, List.map_cons, List.sum_nil, List.sum_cons, List.length_cons, List.length_nil, List.getElem?_cons_zero, List.getElem?_cons_succ, xmap_s, if_true, and_self, Nat.reduceAdd, Nat.reduceLT, Nat.reduceLeDiff, Nat.reduceEqDiff, Nat.lt_add_one, Nat.zero_le, Nat.le_refl, Nat.le_zero_eq, Nat.zero_lt_succ, xldc, kbm10, kbm9, kbm8, kbm7, kbm6, kbm5, kbm4, kbm3, kbm2, kb6, kb7, kb8, kb9, kb10, kb11, kb16, kb19, kb20, kb30, kb31, kb32, kb34, kb40, kb64, kb100, kb127, kim1, ki0, ki1, ki2, ki3, ki4, ki5, ks128, ks400, ks999, ks1000, ks4010])
            try simp (disch := omega) only [nx10, nx4, nx32, nxa0, nxa1, nxa2, nxa3, nxa4, nxa5, nxa6, nxa7, nxa8, nxa9, nxa10, nxs1, nxs10, nxss, nI_add, nI_clamp, mnar0, mnar1, Nat.add_sub_cancel]
            refine ok_st rfl rfl ?_
            simp only [okS_some, xst, xp0, xp1, xp2, xp3, xp4, xp5, xload, xstore, xget_0, xget_s, xs_0, xs_1n, xs_1i, xs_1r, xs_1u, xs_1l, xs_s, xt_0, xt_1n, xt_1i, xt_1r, xt_1u, xt_1l, xt_s, xisref, xq0, Value.category, xcat, List.map_nil, List.map_cons, List.sum_nil, List.sum_cons, List.length_cons, List.length_nil, List.getElem?_cons_zero, List.getElem?_cons_succ, xmap_s, if_true, and_self, Nat.reduceAdd, Nat.reduceLT, Nat.reduceLeDiff, Nat.reduceEqDiff, Nat.lt_add_one, Nat.zero_le, Nat.le_refl, Nat.le_zero_eq, Nat.zero_lt_succ, xldc, kbm10, kbm9, kbm8, kbm7, kbm6, kbm5, kbm4, kbm3, kbm2, kb6, kb7, kb8, kb9, kb10, kb11, kb16, kb19, kb20, kb30, kb31, kb32, kb34, kb40, kb64, kb100, kb127, kim1, ki0, ki1, ki2, ki3, ki4, ki5, ks128, ks400, ks999, ks1000, ks4010]
            rw [show nI (8 * i) + Int32.ofInt 8 = nI (8 * (i + 1)) from nI_add (8 * i) 8]
            exact ih (i := i + 1) hW ⟨_, _, _, _, _, _, _, hI.up (by omega), hm, hj, hS2, by omega, by omega⟩ (by omega) (by omega)
          · dsimp only [Option.toList, List.cons_append, List.nil_append, Nat.reduceAdd]
            exfalso
            rw [hS2] at m1
            rcases d1 with q | q
            · exact m1 q
            · exact q m2
        · dsimp only [Option.toList, List.cons_append, List.nil_append, Nat.reduceAdd]
          try dsimp only at z1 z2
          have hW := k103.1
          have z112 := al104 rfl
          try dsimp only at z112
          obtain ⟨B, hm⟩ := hm.kq k103 (by decide)
          iterate 6 (refine ok_st rfl rfl ?_; simp only [okS_some, xst, xp0, xp1, xp2, xp3, xp4, xp5, xload, xstore, xget_0, xget_s, xs_0, xs_1n, xs_1i, xs_1r, xs_1u, xs_1l, xs_s, xt_0, xt_1n, xt_1i, xt_1r, xt_1u, xt_1l, xt_s, xisref, xq0, Value.category, xcat, List.map_nil, List.map_cons, List.sum_nil, List.sum_cons, List.length_cons, List.length_nil, List.getElem?_cons_zero, List.getElem?_cons_succ, xmap_s, if_true, and_self, Nat.reduceAdd, Nat.reduceLT, Nat.reduceLeDiff, Nat.reduceEqDiff, Nat.lt_add_one, Nat.zero_le, Nat.le_refl, Nat.le_zero_eq, Nat.zero_lt_succ, xldc, kbm10, kbm9, kbm8, kbm7, kbm6, kbm5, kbm4, kbm3, kbm2, kb6, kb7, kb8, kb9, kb10, kb11, kb16, kb19, kb20, kb30, kb31, kb32, kb34, kb40, kb64, kb100, kb127, kim1, ki0, ki1, ki2, ki3, ki4, ki5, ks128, ks400, ks999, ks1000, ks4010])
          try simp (disch := omega) only [nx10, nx4, nx32, nxa0, nxa1, nxa2, nxa3, nxa4, nxa5, nxa6, nxa7, nxa8, nxa9, nxa10, nxs1, nxs10, nxss, nI_add, nI_clamp, mnar0, mnar1, Nat.add_sub_cancel]
          refine l_il rfl (nIn (by omega) (by omega)) ?_
          try dsimp only [Nat.reduceAdd]
          try simp (disch := omega) only [nx10, nx4, nx32, nxa0, nxa1, nxa2, nxa3, nxa4, nxa5, nxa6, nxa7, nxa8, nxa9, nxa10, nxs1, nxs10, nxss, nI_add, nI_clamp, mnar0, mnar1, Nat.add_sub_cancel]
          refine ok_cm (vs := [_, _]) rfl rfl rfl rfl (Nat.le_of_ble_eq_true rfl) (Nat.le_of_ble_eq_true rfl) (by show xcl0 2 9 _ _ = true; simp [xcl0, hm.1]) (by decide) hW (sp88 hW hm) ?_
          rintro _ h113 (⟨rfl, m1, hm⟩ | ⟨rfl, m1, m2, hm⟩) k114 al115
          · dsimp only [Option.toList, List.cons_append, List.nil_append, Nat.reduceAdd]
            exfalso
            rw [hS2] at m1
            rcases m1 with q | q
            · exact d1 q
            · exact q d2
          · dsimp only [Option.toList, List.cons_append, List.nil_append, Nat.reduceAdd]
            have hW := k114.1
            have z117 := al115 rfl
            try dsimp only at z117
            have hI := hI.kp k114 (by decide)
            have hj := mJ_day hj m1 m2
            have hS2 := mP_s (S := S) (k := 2) (v := X.2 (8 * i + 1))
            iterate 3 (refine ok_st rfl rfl ?_; simp only [okS_some, xst, xp0, xp1, xp2, xp3, xp4, xp5, xload, xstore, xget_0, xget_s, xs_0, xs_1n, xs_1i, xs_1r, xs_1u, xs_1l, xs_s, xt_0, xt_1n, xt_1i, xt_1r, xt_1u, xt_1l, xt_s, xisref, xq0, Value.category, xcat, List.map_nil, List.map_cons, List.sum_nil, List.sum_cons, List.length_cons, List.length_nil, List.getElem?_cons_zero, List.getElem?_cons_succ, xmap_s, if_true, and_self, Nat.reduceAdd, Nat.reduceLT, Nat.reduceLeDiff, Nat.reduceEqDiff, Nat.lt_add_one, Nat.zero_le, Nat.le_refl, Nat.le_zero_eq, Nat.zero_lt_succ, xldc, kbm10, kbm9, kbm8, kbm7, kbm6, kbm5, kbm4, kbm3, kbm2, kb6, kb7, kb8, kb9, kb10, kb11, kb16, kb19, kb20, kb30, kb31, kb32, kb34, kb40, kb64, kb100, kb127, kim1, ki0, ki1, ki2, ki3, ki4, ki5, ks128, ks400, ks999, ks1000, ks4010])
            try simp (disch := omega) only [nx10, nx4, nx32, nxa0, nxa1, nxa2, nxa3, nxa4, nxa5, nxa6, nxa7, nxa8, nxa9, nxa10, nxs1, nxs10, nxss, nI_add, nI_clamp, mnar0, mnar1, Nat.add_sub_cancel]
            refine ok_st rfl rfl ?_
            simp only [okS_some, xst, xp0, xp1, xp2, xp3, xp4, xp5, xload, xstore, xget_0, xget_s, xs_0, xs_1n, xs_1i, xs_1r, xs_1u, xs_1l, xs_s, xt_0, xt_1n, xt_1i, xt_1r, xt_1u, xt_1l, xt_s, xisref, xq0, Value.category, xcat, List.map_nil, List.map_cons, List.sum_nil, List.sum_cons, List.length_cons, List.length_nil, List.getElem?_cons_zero, List.getElem?_cons_succ, xmap_s, if_true, and_self, Nat.reduceAdd, Nat.reduceLT, Nat.reduceLeDiff, Nat.reduceEqDiff, Nat.lt_add_one, Nat.zero_le, Nat.le_refl, Nat.le_zero_eq, Nat.zero_lt_succ, xldc, kbm10, kbm9, kbm8, kbm7, kbm6, kbm5, kbm4, kbm3, kbm2, kb6, kb7, kb8, kb9, kb10, kb11, kb16, kb19, kb20, kb30, kb31, kb32, kb34, kb40, kb64, kb100, kb127, kim1, ki0, ki1, ki2, ki3, ki4, ki5, ks128, ks400, ks999, ks1000, ks4010]
            rw [show nI (8 * i) + Int32.ofInt 8 = nI (8 * (i + 1)) from nI_add (8 * i) 8]
            exact ih (i := i + 1) hW ⟨_, _, _, _, _, _, _, hI.up (by omega), hm, hj, hS2, by omega, by omega⟩ (by omega) (by omega)
      · skip
        iterate 5 (refine ok_st rfl rfl ?_; simp only [okS_some, xst, xp0, xp1, xp2, xp3, xp4, xp5, xload, xstore, xget_0, xget_s, xs_0, xs_1n, xs_1i, xs_1r, xs_1u, xs_1l, xs_s, xt_0, xt_1n, xt_1i, xt_1r, xt_1u, xt_1l, xt_s, xisref, xq0, Value.category, xcat, List.map_nil, List.map_cons, List.sum_nil, List.sum_cons, List.length_cons, List.length_nil, List.getElem?_cons_zero, List.getElem?_cons_succ, xmap_s, if_true, and_self, Nat.reduceAdd, Nat.reduceLT, Nat.reduceLeDiff, Nat.reduceEqDiff, Nat.lt_add_one, Nat.zero_le, Nat.le_refl, Nat.le_zero_eq, Nat.zero_lt_succ, xldc, kbm10, kbm9, kbm8, kbm7, kbm6, kbm5, kbm4, kbm3, kbm2, kb6, kb7, kb8, kb9, kb10, kb11, kb16, kb19, kb20, kb30, kb31, kb32, kb34, kb40, kb64, kb100, kb127, kim1, ki0, ki1, ki2, ki3, ki4, ki5, ks128, ks400, ks999, ks1000, ks4010])
        try simp (disch := omega) only [nx10, nx4, nx32, nxa0, nxa1, nxa2, nxa3, nxa4, nxa5, nxa6, nxa7, nxa8, nxa9, nxa10, nxs1, nxs10, nxss, nI_add, nI_clamp, mnar0, mnar1, Nat.add_sub_cancel]
        refine l_il rfl (nIn (by omega) (by omega)) ?_
        try dsimp only [Nat.reduceAdd]
        try simp (disch := omega) only [nx10, nx4, nx32, nxa0, nxa1, nxa2, nxa3, nxa4, nxa5, nxa6, nxa7, nxa8, nxa9, nxa10, nxs1, nxs10, nxss, nI_add, nI_clamp, mnar0, mnar1, Nat.add_sub_cancel]
        iterate 4 (refine ok_st rfl rfl ?_; simp only [okS_some, xst, xp0, xp1, xp2, xp3, xp4, xp5, xload, xstore, xget_0, xget_s, xs_0, xs_1n, xs_1i, xs_1r, xs_1u, xs_1l, xs_s, xt_0, xt_1n, xt_1i, xt_1r, xt_1u, xt_1l, xt_s, xisref, xq0, Value.category, xcat, List.map_nil, List.map_cons, List.sum_nil, List.sum_cons, List.length_cons, List.length_nil, List.getElem?_cons_zero, List.getElem?_cons_succ, xmap_s, if_true, and_self, Nat.reduceAdd, Nat.reduceLT, Nat.reduceLeDiff, Nat.reduceEqDiff, Nat.lt_add_one, Nat.zero_le, Nat.le_refl, Nat.le_zero_eq, Nat.zero_lt_succ, xldc, kbm10, kbm9, kbm8, kbm7, kbm6, kbm5, kbm4, kbm3, kbm2, kb6, kb7, kb8, kb9, kb10, kb11, kb16, kb19, kb20, kb30, kb31, kb32, kb34, kb40, kb64, kb100, kb127, kim1, ki0, ki1, ki2, ki3, ki4, ki5, ks128, ks400, ks999, ks1000, ks4010])
        try simp (disch := omega) only [nx10, nx4, nx32, nxa0, nxa1, nxa2, nxa3, nxa4, nxa5, nxa6, nxa7, nxa8, nxa9, nxa10, nxs1, nxs10, nxss, nI_add, nI_clamp, mnar0, mnar1, Nat.add_sub_cancel]
        refine l_il rfl (nIn (by omega) (by omega)) ?_
        try dsimp only [Nat.reduceAdd]
        try simp (disch := omega) only [nx10, nx4, nx32, nxa0, nxa1, nxa2, nxa3, nxa4, nxa5, nxa6, nxa7, nxa8, nxa9, nxa10, nxs1, nxs10, nxss, nI_add, nI_clamp, mnar0, mnar1, Nat.add_sub_cancel]
        iterate 4 (refine ok_st rfl rfl ?_; simp only [okS_some, xst, xp0, xp1, xp2, xp3, xp4, xp5, xload, xstore, xget_0, xget_s, xs_0, xs_1n, xs_1i, xs_1r, xs_1u, xs_1l, xs_s, xt_0, xt_1n, xt_1i, xt_1r, xt_1u, xt_1l, xt_s, xisref, xq0, Value.category, xcat, List.map_nil, List.map_cons, List.sum_nil, List.sum_cons, List.length_cons, List.length_nil, List.getElem?_cons_zero, List.getElem?_cons_succ, xmap_s, if_true, and_self, Nat.reduceAdd, Nat.reduceLT, Nat.reduceLeDiff, Nat.reduceEqDiff, Nat.lt_add_one, Nat.zero_le, Nat.le_refl, Nat.le_zero_eq, Nat.zero_lt_succ, xldc, kbm10, kbm9, kbm8, kbm7, kbm6, kbm5, kbm4, kbm3, kbm2, kb6, kb7, kb8, kb9, kb10, kb11, kb16, kb19, kb20, kb30, kb31, kb32, kb34, kb40, kb64, kb100, kb127, kim1, ki0, ki1, ki2, ki3, ki4, ki5, ks128, ks400, ks999, ks1000, ks4010])
        try simp (disch := omega) only [nx10, nx4, nx32, nxa0, nxa1, nxa2, nxa3, nxa4, nxa5, nxa6, nxa7, nxa8, nxa9, nxa10, nxs1, nxs10, nxss, nI_add, nI_clamp, mnar0, mnar1, Nat.add_sub_cancel]
        refine l_il rfl (nIn (by omega) (by omega)) ?_
        try dsimp only [Nat.reduceAdd]
        try simp (disch := omega) only [nx10, nx4, nx32, nxa0, nxa1, nxa2, nxa3, nxa4, nxa5, nxa6, nxa7, nxa8, nxa9, nxa10, nxs1, nxs10, nxss, nI_add, nI_clamp, mnar0, mnar1, Nat.add_sub_cancel]
        iterate 4 (refine ok_st rfl rfl ?_; simp only [okS_some, xst, xp0, xp1, xp2, xp3, xp4, xp5, xload, xstore, xget_0, xget_s, xs_0, xs_1n, xs_1i, xs_1r, xs_1u, xs_1l, xs_s, xt_0, xt_1n, xt_1i, xt_1r, xt_1u, xt_1l, xt_s, xisref, xq0, Value.category, xcat, List.map_nil, List.map_cons, List.sum_nil, List.sum_cons, List.length_cons, List.length_nil, List.getElem?_cons_zero, List.getElem?_cons_succ, xmap_s, if_true, and_self, Nat.reduceAdd, Nat.reduceLT, Nat.reduceLeDiff, Nat.reduceEqDiff, Nat.lt_add_one, Nat.zero_le, Nat.le_refl, Nat.le_zero_eq, Nat.zero_lt_succ, xldc, kbm10, kbm9, kbm8, kbm7, kbm6, kbm5, kbm4, kbm3, kbm2, kb6, kb7, kb8, kb9, kb10, kb11, kb16, kb19, kb20, kb30, kb31, kb32, kb34, kb40, kb64, kb100, kb127, kim1, ki0, ki1, ki2, ki3, ki4, ki5, ks128, ks400, ks999, ks1000, ks4010])
        try simp (disch := omega) only [nx10, nx4, nx32, nxa0, nxa1, nxa2, nxa3, nxa4, nxa5, nxa6, nxa7, nxa8, nxa9, nxa10, nxs1, nxs10, nxss, nI_add, nI_clamp, mnar0, mnar1, Nat.add_sub_cancel]
        refine l_il rfl (nIn (by omega) (by omega)) ?_
        try dsimp only [Nat.reduceAdd]
        try simp (disch := omega) only [nx10, nx4, nx32, nxa0, nxa1, nxa2, nxa3, nxa4, nxa5, nxa6, nxa7, nxa8, nxa9, nxa10, nxs1, nxs10, nxss, nI_add, nI_clamp, mnar0, mnar1, Nat.add_sub_cancel]
        iterate 4 (refine ok_st rfl rfl ?_; simp only [okS_some, xst, xp0, xp1, xp2, xp3, xp4, xp5, xload, xstore, xget_0, xget_s, xs_0, xs_1n, xs_1i, xs_1r, xs_1u, xs_1l, xs_s, xt_0, xt_1n, xt_1i, xt_1r, xt_1u, xt_1l, xt_s, xisref, xq0, Value.category, xcat, List.map_nil, List.map_cons, List.sum_nil, List.sum_cons, List.length_cons, List.length_nil, List.getElem?_cons_zero, List.getElem?_cons_succ, xmap_s, if_true, and_self, Nat.reduceAdd, Nat.reduceLT, Nat.reduceLeDiff, Nat.reduceEqDiff, Nat.lt_add_one, Nat.zero_le, Nat.le_refl, Nat.le_zero_eq, Nat.zero_lt_succ, xldc, kbm10, kbm9, kbm8, kbm7, kbm6, kbm5, kbm4, kbm3, kbm2, kb6, kb7, kb8, kb9, kb10, kb11, kb16, kb19, kb20, kb30, kb31, kb32, kb34, kb40, kb64, kb100, kb127, kim1, ki0, ki1, ki2, ki3, ki4, ki5, ks128, ks400, ks999, ks1000, ks4010])
        try simp (disch := omega) only [nx10, nx4, nx32, nxa0, nxa1, nxa2, nxa3, nxa4, nxa5, nxa6, nxa7, nxa8, nxa9, nxa10, nxs1, nxs10, nxss, nI_add, nI_clamp, mnar0, mnar1, Nat.add_sub_cancel]
        refine l_il rfl (nIn (by omega) (by omega)) ?_
        try dsimp only [Nat.reduceAdd]
        try simp (disch := omega) only [nx10, nx4, nx32, nxa0, nxa1, nxa2, nxa3, nxa4, nxa5, nxa6, nxa7, nxa8, nxa9, nxa10, nxs1, nxs10, nxss, nI_add, nI_clamp, mnar0, mnar1, Nat.add_sub_cancel]
        iterate 4 (refine ok_st rfl rfl ?_; simp only [okS_some, xst, xp0, xp1, xp2, xp3, xp4, xp5, xload, xstore, xget_0, xget_s, xs_0, xs_1n, xs_1i, xs_1r, xs_1u, xs_1l, xs_s, xt_0, xt_1n, xt_1i, xt_1r, xt_1u, xt_1l, xt_s, xisref, xq0, Value.category, xcat, List.map_nil, List.map_cons, List.sum_nil, List.sum_cons, List.length_cons, List.length_nil, List.getElem?_cons_zero, List.getElem?_cons_succ, xmap_s, if_true, and_self, Nat.reduceAdd, Nat.reduceLT, Nat.reduceLeDiff, Nat.reduceEqDiff, Nat.lt_add_one, Nat.zero_le, Nat.le_refl, Nat.le_zero_eq, Nat.zero_lt_succ, xldc, kbm10, kbm9, kbm8, kbm7, kbm6, kbm5, kbm4, kbm3, kbm2, kb6, kb7, kb8, kb9, kb10, kb11, kb16, kb19, kb20, kb30, kb31, kb32, kb34, kb40, kb64, kb100, kb127, kim1, ki0, ki1, ki2, ki3, ki4, ki5, ks128, ks400, ks999, ks1000, ks4010])
        try simp (disch := omega) only [nx10, nx4, nx32, nxa0, nxa1, nxa2, nxa3, nxa4, nxa5, nxa6, nxa7, nxa8, nxa9, nxa10, nxs1, nxs10, nxss, nI_add, nI_clamp, mnar0, mnar1, Nat.add_sub_cancel]
        refine l_il rfl (nIn (by omega) (by omega)) ?_
        try dsimp only [Nat.reduceAdd]
        try simp (disch := omega) only [nx10, nx4, nx32, nxa0, nxa1, nxa2, nxa3, nxa4, nxa5, nxa6, nxa7, nxa8, nxa9, nxa10, nxs1, nxs10, nxss, nI_add, nI_clamp, mnar0, mnar1, Nat.add_sub_cancel]
        iterate 4 (refine ok_st rfl rfl ?_; simp only [okS_some, xst, xp0, xp1, xp2, xp3, xp4, xp5, xload, xstore, xget_0, xget_s, xs_0, xs_1n, xs_1i, xs_1r, xs_1u, xs_1l, xs_s, xt_0, xt_1n, xt_1i, xt_1r, xt_1u, xt_1l, xt_s, xisref, xq0, Value.category, xcat, List.map_nil, List.map_cons, List.sum_nil, List.sum_cons, List.length_cons, List.length_nil, List.getElem?_cons_zero, List.getElem?_cons_succ, xmap_s, if_true, and_self, Nat.reduceAdd, Nat.reduceLT, Nat.reduceLeDiff, Nat.reduceEqDiff, Nat.lt_add_one, Nat.zero_le, Nat.le_refl, Nat.le_zero_eq, Nat.zero_lt_succ, xldc, kbm10, kbm9, kbm8, kbm7, kbm6, kbm5, kbm4, kbm3, kbm2, kb6, kb7, kb8, kb9, kb10, kb11, kb16, kb19, kb20, kb30, kb31, kb32, kb34, kb40, kb64, kb100, kb127, kim1, ki0, ki1, ki2, ki3, ki4, ki5, ks128, ks400, ks999, ks1000, ks4010])
        try simp (disch := omega) only [nx10, nx4, nx32, nxa0, nxa1, nxa2, nxa3, nxa4, nxa5, nxa6, nxa7, nxa8, nxa9, nxa10, nxs1, nxs10, nxss, nI_add, nI_clamp, mnar0, mnar1, Nat.add_sub_cancel]
        refine l_il rfl (nIn (by omega) (by omega)) ?_
        try dsimp only [Nat.reduceAdd]
        try simp (disch := omega) only [nx10, nx4, nx32, nxa0, nxa1, nxa2, nxa3, nxa4, nxa5, nxa6, nxa7, nxa8, nxa9, nxa10, nxs1, nxs10, nxss, nI_add, nI_clamp, mnar0, mnar1, Nat.add_sub_cancel]
        refine ok_cm (vs := [_, _, _, _, _, _, _, _]) rfl rfl rfl rfl (Nat.le_of_ble_eq_true rfl) (Nat.le_of_ble_eq_true rfl) (by show xcl0 2 8 _ _ = true; simp [xcl0, hI.1]) (by decide) hW (sp46 hW hI (by omega)) ?_
        rintro _ h118 ⟨⟨x122, rfl⟩, hI, z123, z124⟩ k119 al120
        dsimp only [Option.toList, List.cons_append, List.nil_append, Nat.reduceAdd]
        try dsimp only at z123 z124
        have hW := k119.1
        obtain ⟨B, hm⟩ := hm.kq k119 (by decide)
        iterate 6 (refine ok_st rfl rfl ?_; simp only [okS_some, xst, xp0, xp1, xp2, xp3, xp4, xp5, xload, xstore, xget_0, xget_s, xs_0, xs_1n, xs_1i, xs_1r, xs_1u, xs_1l, xs_s, xt_0, xt_1n, xt_1i, xt_1r, xt_1u, xt_1l, xt_s, xisref, xq0, Value.category, xcat, List.map_nil, List.map_cons, List.sum_nil, List.sum_cons, List.length_cons, List.length_nil, List.getElem?_cons_zero, List.getElem?_cons_succ, xmap_s, if_true, and_self, Nat.reduceAdd, Nat.reduceLT, Nat.reduceLeDiff, Nat.reduceEqDiff, Nat.lt_add_one, Nat.zero_le, Nat.le_refl, Nat.le_zero_eq, Nat.zero_lt_succ, xldc, kbm10, kbm9, kbm8, kbm7, kbm6, kbm5, kbm4, kbm3, kbm2, kb6, kb7, kb8, kb9, kb10, kb11, kb16, kb19, kb20, kb30, kb31, kb32, kb34, kb40, kb64, kb100, kb127, kim1, ki0, ki1, ki2, ki3, ki4, ki5, ks128, ks400, ks999, ks1000, ks4010])
        try simp (disch := omega) only [nx10, nx4, nx32, nxa0, nxa1, nxa2, nxa3, nxa4, nxa5, nxa6, nxa7, nxa8, nxa9, nxa10, nxs1, nxs10, nxss, nI_add, nI_clamp, mnar0, mnar1, Nat.add_sub_cancel]
        refine l_il rfl (nIn (by omega) (by omega)) ?_
        try dsimp only [Nat.reduceAdd]
        try simp (disch := omega) only [nx10, nx4, nx32, nxa0, nxa1, nxa2, nxa3, nxa4, nxa5, nxa6, nxa7, nxa8, nxa9, nxa10, nxs1, nxs10, nxss, nI_add, nI_clamp, mnar0, mnar1, Nat.add_sub_cancel]
        iterate 4 (refine ok_st rfl rfl ?_; simp only [okS_some, xst, xp0, xp1, xp2, xp3, xp4, xp5, xload, xstore, xget_0, xget_s, xs_0, xs_1n, xs_1i, xs_1r, xs_1u, xs_1l, xs_s, xt_0, xt_1n, xt_1i, xt_1r, xt_1u, xt_1l, xt_s, xisref, xq0, Value.category, xcat, List.map_nil, List.map_cons, List.sum_nil, List.sum_cons, List.length_cons, List.length_nil, List.getElem?_cons_zero, List.getElem?_cons_succ, xmap_s, if_true, and_self, Nat.reduceAdd, Nat.reduceLT, Nat.reduceLeDiff, Nat.reduceEqDiff, Nat.lt_add_one, Nat.zero_le, Nat.le_refl, Nat.le_zero_eq, Nat.zero_lt_succ, xldc, kbm10, kbm9, kbm8, kbm7, kbm6, kbm5, kbm4, kbm3, kbm2, kb6, kb7, kb8, kb9, kb10, kb11, kb16, kb19, kb20, kb30, kb31, kb32, kb34, kb40, kb64, kb100, kb127, kim1, ki0, ki1, ki2, ki3, ki4, ki5, ks128, ks400, ks999, ks1000, ks4010])
        try simp (disch := omega) only [nx10, nx4, nx32, nxa0, nxa1, nxa2, nxa3, nxa4, nxa5, nxa6, nxa7, nxa8, nxa9, nxa10, nxs1, nxs10, nxss, nI_add, nI_clamp, mnar0, mnar1, Nat.add_sub_cancel]
        refine l_il rfl (nIn (by omega) (by omega)) ?_
        try dsimp only [Nat.reduceAdd]
        try simp (disch := omega) only [nx10, nx4, nx32, nxa0, nxa1, nxa2, nxa3, nxa4, nxa5, nxa6, nxa7, nxa8, nxa9, nxa10, nxs1, nxs10, nxss, nI_add, nI_clamp, mnar0, mnar1, Nat.add_sub_cancel]
        iterate 4 (refine ok_st rfl rfl ?_; simp only [okS_some, xst, xp0, xp1, xp2, xp3, xp4, xp5, xload, xstore, xget_0, xget_s, xs_0, xs_1n, xs_1i, xs_1r, xs_1u, xs_1l, xs_s, xt_0, xt_1n, xt_1i, xt_1r, xt_1u, xt_1l, xt_s, xisref, xq0, Value.category, xcat, List.map_nil, List.map_cons, List.sum_nil, List.sum_cons, List.length_cons, List.length_nil, List.getElem?_cons_zero, List.getElem?_cons_succ, xmap_s, if_true, and_self, Nat.reduceAdd, Nat.reduceLT, Nat.reduceLeDiff, Nat.reduceEqDiff, Nat.lt_add_one, Nat.zero_le, Nat.le_refl, Nat.le_zero_eq, Nat.zero_lt_succ, xldc, kbm10, kbm9, kbm8, kbm7, kbm6, kbm5, kbm4, kbm3, kbm2, kb6, kb7, kb8, kb9, kb10, kb11, kb16, kb19, kb20, kb30, kb31, kb32, kb34, kb40, kb64, kb100, kb127, kim1, ki0, ki1, ki2, ki3, ki4, ki5, ks128, ks400, ks999, ks1000, ks4010])
        try simp (disch := omega) only [nx10, nx4, nx32, nxa0, nxa1, nxa2, nxa3, nxa4, nxa5, nxa6, nxa7, nxa8, nxa9, nxa10, nxs1, nxs10, nxss, nI_add, nI_clamp, mnar0, mnar1, Nat.add_sub_cancel]
        refine l_il rfl (nIn (by omega) (by omega)) ?_
        try dsimp only [Nat.reduceAdd]
        try simp (disch := omega) only [nx10, nx4, nx32, nxa0, nxa1, nxa2, nxa3, nxa4, nxa5, nxa6, nxa7, nxa8, nxa9, nxa10, nxs1, nxs10, nxss, nI_add, nI_clamp, mnar0, mnar1, Nat.add_sub_cancel]
        iterate 4 (refine ok_st rfl rfl ?_; simp only [okS_some, xst, xp0, xp1, xp2, xp3, xp4, xp5, xload, xstore, xget_0, xget_s, xs_0, xs_1n, xs_1i, xs_1r, xs_1u, xs_1l, xs_s, xt_0, xt_1n, xt_1i, xt_1r, xt_1u, xt_1l, xt_s, xisref, xq0, Value.category, xcat, List.map_nil, List.map_cons, List.sum_nil, List.sum_cons, List.length_cons, List.length_nil, List.getElem?_cons_zero, List.getElem?_cons_succ, xmap_s, if_true, and_self, Nat.reduceAdd, Nat.reduceLT, Nat.reduceLeDiff, Nat.reduceEqDiff, Nat.lt_add_one, Nat.zero_le, Nat.le_refl, Nat.le_zero_eq, Nat.zero_lt_succ, xldc, kbm10, kbm9, kbm8, kbm7, kbm6, kbm5, kbm4, kbm3, kbm2, kb6, kb7, kb8, kb9, kb10, kb11, kb16, kb19, kb20, kb30, kb31, kb32, kb34, kb40, kb64, kb100, kb127, kim1, ki0, ki1, ki2, ki3, ki4, ki5, ks128, ks400, ks999, ks1000, ks4010])
        try simp (disch := omega) only [nx10, nx4, nx32, nxa0, nxa1, nxa2, nxa3, nxa4, nxa5, nxa6, nxa7, nxa8, nxa9, nxa10, nxs1, nxs10, nxss, nI_add, nI_clamp, mnar0, mnar1, Nat.add_sub_cancel]
        refine l_il rfl (nIn (by omega) (by omega)) ?_
        try dsimp only [Nat.reduceAdd]
        try simp (disch := omega) only [nx10, nx4, nx32, nxa0, nxa1, nxa2, nxa3, nxa4, nxa5, nxa6, nxa7, nxa8, nxa9, nxa10, nxs1, nxs10, nxss, nI_add, nI_clamp, mnar0, mnar1, Nat.add_sub_cancel]
        iterate 4 (refine ok_st rfl rfl ?_; simp only [okS_some, xst, xp0, xp1, xp2, xp3, xp4, xp5, xload, xstore, xget_0, xget_s, xs_0, xs_1n, xs_1i, xs_1r, xs_1u, xs_1l, xs_s, xt_0, xt_1n, xt_1i, xt_1r, xt_1u, xt_1l, xt_s, xisref, xq0, Value.category, xcat, List.map_nil, List.map_cons, List.sum_nil, List.sum_cons, List.length_cons, List.length_nil, List.getElem?_cons_zero, List.getElem?_cons_succ, xmap_s, if_true, and_self, Nat.reduceAdd, Nat.reduceLT, Nat.reduceLeDiff, Nat.reduceEqDiff, Nat.lt_add_one, Nat.zero_le, Nat.le_refl, Nat.le_zero_eq, Nat.zero_lt_succ, xldc, kbm10, kbm9, kbm8, kbm7, kbm6, kbm5, kbm4, kbm3, kbm2, kb6, kb7, kb8, kb9, kb10, kb11, kb16, kb19, kb20, kb30, kb31, kb32, kb34, kb40, kb64, kb100, kb127, kim1, ki0, ki1, ki2, ki3, ki4, ki5, ks128, ks400, ks999, ks1000, ks4010])
        try simp (disch := omega) only [nx10, nx4, nx32, nxa0, nxa1, nxa2, nxa3, nxa4, nxa5, nxa6, nxa7, nxa8, nxa9, nxa10, nxs1, nxs10, nxss, nI_add, nI_clamp, mnar0, mnar1, Nat.add_sub_cancel]
        refine l_il rfl (nIn (by omega) (by omega)) ?_
        try dsimp only [Nat.reduceAdd]
        try simp (disch := omega) only [nx10, nx4, nx32, nxa0, nxa1, nxa2, nxa3, nxa4, nxa5, nxa6, nxa7, nxa8, nxa9, nxa10, nxs1, nxs10, nxss, nI_add, nI_clamp, mnar0, mnar1, Nat.add_sub_cancel]
        iterate 4 (refine ok_st rfl rfl ?_; simp only [okS_some, xst, xp0, xp1, xp2, xp3, xp4, xp5, xload, xstore, xget_0, xget_s, xs_0, xs_1n, xs_1i, xs_1r, xs_1u, xs_1l, xs_s, xt_0, xt_1n, xt_1i, xt_1r, xt_1u, xt_1l, xt_s, xisref, xq0, Value.category, xcat, List.map_nil, List.map_cons, List.sum_nil, List.sum_cons, List.length_cons, List.length_nil, List.getElem?_cons_zero, List.getElem?_cons_succ, xmap_s, if_true, and_self, Nat.reduceAdd, Nat.reduceLT, Nat.reduceLeDiff, Nat.reduceEqDiff, Nat.lt_add_one, Nat.zero_le, Nat.le_refl, Nat.le_zero_eq, Nat.zero_lt_succ, xldc, kbm10, kbm9, kbm8, kbm7, kbm6, kbm5, kbm4, kbm3, kbm2, kb6, kb7, kb8, kb9, kb10, kb11, kb16, kb19, kb20, kb30, kb31, kb32, kb34, kb40, kb64, kb100, kb127, kim1, ki0, ki1, ki2, ki3, ki4, ki5, ks128, ks400, ks999, ks1000, ks4010])
        try simp (disch := omega) only [nx10, nx4, nx32, nxa0, nxa1, nxa2, nxa3, nxa4, nxa5, nxa6, nxa7, nxa8, nxa9, nxa10, nxs1, nxs10, nxss, nI_add, nI_clamp, mnar0, mnar1, Nat.add_sub_cancel]
        refine l_il rfl (nIn (by omega) (by omega)) ?_
        try dsimp only [Nat.reduceAdd]
        try simp (disch := omega) only [nx10, nx4, nx32, nxa0, nxa1, nxa2, nxa3, nxa4, nxa5, nxa6, nxa7, nxa8, nxa9, nxa10, nxs1, nxs10, nxss, nI_add, nI_clamp, mnar0, mnar1, Nat.add_sub_cancel]
        iterate 4 (refine ok_st rfl rfl ?_; simp only [okS_some, xst, xp0, xp1, xp2, xp3, xp4, xp5, xload, xstore, xget_0, xget_s, xs_0, xs_1n, xs_1i, xs_1r, xs_1u, xs_1l, xs_s, xt_0, xt_1n, xt_1i, xt_1r, xt_1u, xt_1l, xt_s, xisref, xq0, Value.category, xcat, List.map_nil, List.map_cons, List.sum_nil, List.sum_cons, List.length_cons, List.length_nil, List.getElem?_cons_zero, List.getElem?_cons_succ, xmap_s, if_true, and_self, Nat.reduceAdd, Nat.reduceLT, Nat.reduceLeDiff, Nat.reduceEqDiff, Nat.lt_add_one, Nat.zero_le, Nat.le_refl, Nat.le_zero_eq, Nat.zero_lt_succ, xldc, kbm10, kbm9, kbm8, kbm7, kbm6, kbm5, kbm4, kbm3, kbm2, kb6, kb7, kb8, kb9, kb10, kb11, kb16, kb19, kb20, kb30, kb31, kb32, kb34, kb40, kb64, kb100, kb127, kim1, ki0, ki1, ki2, ki3, ki4, ki5, ks128, ks400, ks999, ks1000, ks4010])
        try simp (disch := omega) only [nx10, nx4, nx32, nxa0, nxa1, nxa2, nxa3, nxa4, nxa5, nxa6, nxa7, nxa8, nxa9, nxa10, nxs1, nxs10, nxss, nI_add, nI_clamp, mnar0, mnar1, Nat.add_sub_cancel]
        refine l_il rfl (nIn (by omega) (by omega)) ?_
        try dsimp only [Nat.reduceAdd]
        try simp (disch := omega) only [nx10, nx4, nx32, nxa0, nxa1, nxa2, nxa3, nxa4, nxa5, nxa6, nxa7, nxa8, nxa9, nxa10, nxs1, nxs10, nxss, nI_add, nI_clamp, mnar0, mnar1, Nat.add_sub_cancel]
        refine ok_cm (vs := [_, _, _, _, _, _, _, _]) rfl rfl rfl rfl (Nat.le_of_ble_eq_true rfl) (Nat.le_of_ble_eq_true rfl) (by show xcl0 2 9 _ _ = true; simp [xcl0, hm.1]) (by decide) hW (sp97 hW hm hj) ?_
        rintro _ h126 ⟨⟨x130, rfl⟩, S1, A1, B1, M1, hm, hj, hs⟩ k127 al128
        dsimp only [Option.toList, List.cons_append, List.nil_append, Nat.reduceAdd]
        have hW := k127.1
        have z131 := al128 rfl
        try dsimp only at z131
        have hI := hI.kp k127 (by decide)
        have hS2 := hs.trans hS2
        iterate 3 (refine ok_st rfl rfl ?_; simp only [okS_some, xst, xp0, xp1, xp2, xp3, xp4, xp5, xload, xstore, xget_0, xget_s, xs_0, xs_1n, xs_1i, xs_1r, xs_1u, xs_1l, xs_s, xt_0, xt_1n, xt_1i, xt_1r, xt_1u, xt_1l, xt_s, xisref, xq0, Value.category, xcat, List.map_nil, List.map_cons, List.sum_nil, List.sum_cons, List.length_cons, List.length_nil, List.getElem?_cons_zero, List.getElem?_cons_succ, xmap_s, if_true, and_self, Nat.reduceAdd, Nat.reduceLT, Nat.reduceLeDiff, Nat.reduceEqDiff, Nat.lt_add_one, Nat.zero_le, Nat.le_refl, Nat.le_zero_eq, Nat.zero_lt_succ, xldc, kbm10, kbm9, kbm8, kbm7, kbm6, kbm5, kbm4, kbm3, kbm2, kb6, kb7, kb8, kb9, kb10, kb11, kb16, kb19, kb20, kb30, kb31, kb32, kb34, kb40, kb64, kb100, kb127, kim1, ki0, ki1, ki2, ki3, ki4, ki5, ks128, ks400, ks999, ks1000, ks4010])
        try simp (disch := omega) only [nx10, nx4, nx32, nxa0, nxa1, nxa2, nxa3, nxa4, nxa5, nxa6, nxa7, nxa8, nxa9, nxa10, nxs1, nxs10, nxss, nI_add, nI_clamp, mnar0, mnar1, Nat.add_sub_cancel]
        refine ok_st rfl rfl ?_
        simp only [okS_some, xst, xp0, xp1, xp2, xp3, xp4, xp5, xload, xstore, xget_0, xget_s, xs_0, xs_1n, xs_1i, xs_1r, xs_1u, xs_1l, xs_s, xt_0, xt_1n, xt_1i, xt_1r, xt_1u, xt_1l, xt_s, xisref, xq0, Value.category, xcat, List.map_nil, List.map_cons, List.sum_nil, List.sum_cons, List.length_cons, List.length_nil, List.getElem?_cons_zero, List.getElem?_cons_succ, xmap_s, if_true, and_self, Nat.reduceAdd, Nat.reduceLT, Nat.reduceLeDiff, Nat.reduceEqDiff, Nat.lt_add_one, Nat.zero_le, Nat.le_refl, Nat.le_zero_eq, Nat.zero_lt_succ, xldc, kbm10, kbm9, kbm8, kbm7, kbm6, kbm5, kbm4, kbm3, kbm2, kb6, kb7, kb8, kb9, kb10, kb11, kb16, kb19, kb20, kb30, kb31, kb32, kb34, kb40, kb64, kb100, kb127, kim1, ki0, ki1, ki2, ki3, ki4, ki5, ks128, ks400, ks999, ks1000, ks4010]
        rw [show nI (8 * i) + Int32.ofInt 8 = nI (8 * (i + 1)) from nI_add (8 * i) 8]
        exact ih (i := i + 1) hW ⟨_, _, _, _, _, _, _, hI.up (by omega), hm, hj, hS2, by omega, by omega⟩ (by omega) (by omega)
      · skip
        iterate 5 (refine ok_st rfl rfl ?_; simp only [okS_some, xst, xp0, xp1, xp2, xp3, xp4, xp5, xload, xstore, xget_0, xget_s, xs_0, xs_1n, xs_1i, xs_1r, xs_1u, xs_1l, xs_s, xt_0, xt_1n, xt_1i, xt_1r, xt_1u, xt_1l, xt_s, xisref, xq0, Value.category, xcat, List.map_nil, List.map_cons, List.sum_nil, List.sum_cons, List.length_cons, List.length_nil, List.getElem?_cons_zero, List.getElem?_cons_succ, xmap_s, if_true, and_self, Nat.reduceAdd, Nat.reduceLT, Nat.reduceLeDiff, Nat.reduceEqDiff, Nat.lt_add_one, Nat.zero_le, Nat.le_refl, Nat.le_zero_eq, Nat.zero_lt_succ, xldc, kbm10, kbm9, kbm8, kbm7, kbm6, kbm5, kbm4, kbm3, kbm2, kb6, kb7, kb8, kb9, kb10, kb11, kb16, kb19, kb20, kb30, kb31, kb32, kb34, kb40, kb64, kb100, kb127, kim1, ki0, ki1, ki2, ki3, ki4, ki5, ks128, ks400, ks999, ks1000, ks4010])
        try simp (disch := omega) only [nx10, nx4, nx32, nxa0, nxa1, nxa2, nxa3, nxa4, nxa5, nxa6, nxa7, nxa8, nxa9, nxa10, nxs1, nxs10, nxss, nI_add, nI_clamp, mnar0, mnar1, Nat.add_sub_cancel]
        refine l_il rfl (nIn (by omega) (by omega)) ?_
        try dsimp only [Nat.reduceAdd]
        try simp (disch := omega) only [nx10, nx4, nx32, nxa0, nxa1, nxa2, nxa3, nxa4, nxa5, nxa6, nxa7, nxa8, nxa9, nxa10, nxs1, nxs10, nxss, nI_add, nI_clamp, mnar0, mnar1, Nat.add_sub_cancel]
        iterate 4 (refine ok_st rfl rfl ?_; simp only [okS_some, xst, xp0, xp1, xp2, xp3, xp4, xp5, xload, xstore, xget_0, xget_s, xs_0, xs_1n, xs_1i, xs_1r, xs_1u, xs_1l, xs_s, xt_0, xt_1n, xt_1i, xt_1r, xt_1u, xt_1l, xt_s, xisref, xq0, Value.category, xcat, List.map_nil, List.map_cons, List.sum_nil, List.sum_cons, List.length_cons, List.length_nil, List.getElem?_cons_zero, List.getElem?_cons_succ, xmap_s, if_true, and_self, Nat.reduceAdd, Nat.reduceLT, Nat.reduceLeDiff, Nat.reduceEqDiff, Nat.lt_add_one, Nat.zero_le, Nat.le_refl, Nat.le_zero_eq, Nat.zero_lt_succ, xldc, kbm10, kbm9, kbm8, kbm7, kbm6, kbm5, kbm4, kbm3, kbm2, kb6, kb7, kb8, kb9, kb10, kb11, kb16, kb19, kb20, kb30, kb31, kb32, kb34, kb40, kb64, kb100, kb127, kim1, ki0, ki1, ki2, ki3, ki4, ki5, ks128, ks400, ks999, ks1000, ks4010])
        try simp (disch := omega) only [nx10, nx4, nx32, nxa0, nxa1, nxa2, nxa3, nxa4, nxa5, nxa6, nxa7, nxa8, nxa9, nxa10, nxs1, nxs10, nxss, nI_add, nI_clamp, mnar0, mnar1, Nat.add_sub_cancel]
        refine l_il rfl (nIn (by omega) (by omega)) ?_
        try dsimp only [Nat.reduceAdd]
        try simp (disch := omega) only [nx10, nx4, nx32, nxa0, nxa1, nxa2, nxa3, nxa4, nxa5, nxa6, nxa7, nxa8, nxa9, nxa10, nxs1, nxs10, nxss, nI_add, nI_clamp, mnar0, mnar1, Nat.add_sub_cancel]
        iterate 4 (refine ok_st rfl rfl ?_; simp only [okS_some, xst, xp0, xp1, xp2, xp3, xp4, xp5, xload, xstore, xget_0, xget_s, xs_0, xs_1n, xs_1i, xs_1r, xs_1u, xs_1l, xs_s, xt_0, xt_1n, xt_1i, xt_1r, xt_1u, xt_1l, xt_s, xisref, xq0, Value.category, xcat, List.map_nil, List.map_cons, List.sum_nil, List.sum_cons, List.length_cons, List.length_nil, List.getElem?_cons_zero, List.getElem?_cons_succ, xmap_s, if_true, and_self, Nat.reduceAdd, Nat.reduceLT, Nat.reduceLeDiff, Nat.reduceEqDiff, Nat.lt_add_one, Nat.zero_le, Nat.le_refl, Nat.le_zero_eq, Nat.zero_lt_succ, xldc, kbm10, kbm9, kbm8, kbm7, kbm6, kbm5, kbm4, kbm3, kbm2, kb6, kb7, kb8, kb9, kb10, kb11, kb16, kb19, kb20, kb30, kb31, kb32, kb34, kb40, kb64, kb100, kb127, kim1, ki0, ki1, ki2, ki3, ki4, ki5, ks128, ks400, ks999, ks1000, ks4010])
        try simp (disch := omega) only [nx10, nx4, nx32, nxa0, nxa1, nxa2, nxa3, nxa4, nxa5, nxa6, nxa7, nxa8, nxa9, nxa10, nxs1, nxs10, nxss, nI_add, nI_clamp, mnar0, mnar1, Nat.add_sub_cancel]
        refine l_il rfl (nIn (by omega) (by omega)) ?_
        try dsimp only [Nat.reduceAdd]
        try simp (disch := omega) only [nx10, nx4, nx32, nxa0, nxa1, nxa2, nxa3, nxa4, nxa5, nxa6, nxa7, nxa8, nxa9, nxa10, nxs1, nxs10, nxss, nI_add, nI_clamp, mnar0, mnar1, Nat.add_sub_cancel]
        iterate 4 (refine ok_st rfl rfl ?_; simp only [okS_some, xst, xp0, xp1, xp2, xp3, xp4, xp5, xload, xstore, xget_0, xget_s, xs_0, xs_1n, xs_1i, xs_1r, xs_1u, xs_1l, xs_s, xt_0, xt_1n, xt_1i, xt_1r, xt_1u, xt_1l, xt_s, xisref, xq0, Value.category, xcat, List.map_nil, List.map_cons, List.sum_nil, List.sum_cons, List.length_cons, List.length_nil, List.getElem?_cons_zero, List.getElem?_cons_succ, xmap_s, if_true, and_self, Nat.reduceAdd, Nat.reduceLT, Nat.reduceLeDiff, Nat.reduceEqDiff, Nat.lt_add_one, Nat.zero_le, Nat.le_refl, Nat.le_zero_eq, Nat.zero_lt_succ, xldc, kbm10, kbm9, kbm8, kbm7, kbm6, kbm5, kbm4, kbm3, kbm2, kb6, kb7, kb8, kb9, kb10, kb11, kb16, kb19, kb20, kb30, kb31, kb32, kb34, kb40, kb64, kb100, kb127, kim1, ki0, ki1, ki2, ki3, ki4, ki5, ks128, ks400, ks999, ks1000, ks4010])
        try simp (disch := omega) only [nx10, nx4, nx32, nxa0, nxa1, nxa2, nxa3, nxa4, nxa5, nxa6, nxa7, nxa8, nxa9, nxa10, nxs1, nxs10, nxss, nI_add, nI_clamp, mnar0, mnar1, Nat.add_sub_cancel]
        refine l_il rfl (nIn (by omega) (by omega)) ?_
        try dsimp only [Nat.reduceAdd]
        try simp (disch := omega) only [nx10, nx4, nx32, nxa0, nxa1, nxa2, nxa3, nxa4, nxa5, nxa6, nxa7, nxa8, nxa9, nxa10, nxs1, nxs10, nxss, nI_add, nI_clamp, mnar0, mnar1, Nat.add_sub_cancel]
        iterate 4 (refine ok_st rfl rfl ?_; simp only [okS_some, xst, xp0, xp1, xp2, xp3, xp4, xp5, xload, xstore, xget_0, xget_s, xs_0, xs_1n, xs_1i, xs_1r, xs_1u, xs_1l, xs_s, xt_0, xt_1n, xt_1i, xt_1r, xt_1u, xt_1l, xt_s, xisref, xq0, Value.category, xcat, List.map_nil, List.map_cons, List.sum_nil, List.sum_cons, List.length_cons, List.length_nil, List.getElem?_cons_zero, List.getElem?_cons_succ, xmap_s, if_true, and_self, Nat.reduceAdd, Nat.reduceLT, Nat.reduceLeDiff, Nat.reduceEqDiff, Nat.lt_add_one, Nat.zero_le, Nat.le_refl, Nat.le_zero_eq, Nat.zero_lt_succ, xldc, kbm10, kbm9, kbm8, kbm7, kbm6, kbm5, kbm4, kbm3, kbm2, kb6, kb7, kb8, kb9, kb10, kb11, kb16, kb19, kb20, kb30, kb31, kb32, kb34, kb40, kb64, kb100, kb127, kim1, ki0, ki1, ki2, ki3, ki4, ki5, ks128, ks400, ks999, ks1000, ks4010])
        try simp (disch := omega) only [nx10, nx4, nx32, nxa0, nxa1, nxa2, nxa3, nxa4, nxa5, nxa6, nxa7, nxa8, nxa9, nxa10, nxs1, nxs10, nxss, nI_add, nI_clamp, mnar0, mnar1, Nat.add_sub_cancel]
        refine l_il rfl (nIn (by omega) (by omega)) ?_
        try dsimp only [Nat.reduceAdd]
        try simp (disch := omega) only [nx10, nx4, nx32, nxa0, nxa1, nxa2, nxa3, nxa4, nxa5, nxa6, nxa7, nxa8, nxa9, nxa10, nxs1, nxs10, nxss, nI_add, nI_clamp, mnar0, mnar1, Nat.add_sub_cancel]
        iterate 4 (refine ok_st rfl rfl ?_; simp only [okS_some, xst, xp0, xp1, xp2, xp3, xp4, xp5, xload, xstore, xget_0, xget_s, xs_0, xs_1n, xs_1i, xs_1r, xs_1u, xs_1l, xs_s, xt_0, xt_1n, xt_1i, xt_1r, xt_1u, xt_1l, xt_s, xisref, xq0, Value.category, xcat, List.map_nil, List.map_cons, List.sum_nil, List.sum_cons, List.length_cons, List.length_nil, List.getElem?_cons_zero, List.getElem?_cons_succ, xmap_s, if_true, and_self, Nat.reduceAdd, Nat.reduceLT, Nat.reduceLeDiff, Nat.reduceEqDiff, Nat.lt_add_one, Nat.zero_le, Nat.le_refl, Nat.le_zero_eq, Nat.zero_lt_succ, xldc, kbm10, kbm9, kbm8, kbm7, kbm6, kbm5, kbm4, kbm3, kbm2, kb6, kb7, kb8, kb9, kb10, kb11, kb16, kb19, kb20, kb30, kb31, kb32, kb34, kb40, kb64, kb100, kb127, kim1, ki0, ki1, ki2, ki3, ki4, ki5, ks128, ks400, ks999, ks1000, ks4010])
        try simp (disch := omega) only [nx10, nx4, nx32, nxa0, nxa1, nxa2, nxa3, nxa4, nxa5, nxa6, nxa7, nxa8, nxa9, nxa10, nxs1, nxs10, nxss, nI_add, nI_clamp, mnar0, mnar1, Nat.add_sub_cancel]
        refine l_il rfl (nIn (by omega) (by omega)) ?_
        try dsimp only [Nat.reduceAdd]
        try simp (disch := omega) only [nx10, nx4, nx32, nxa0, nxa1, nxa2, nxa3, nxa4, nxa5, nxa6, nxa7, nxa8, nxa9, nxa10, nxs1, nxs10, nxss, nI_add, nI_clamp, mnar0, mnar1, Nat.add_sub_cancel]
        iterate 4 (refine ok_st rfl rfl ?_; simp only [okS_some, xst, xp0, xp1, xp2, xp3, xp4, xp5, xload, xstore, xget_0, xget_s, xs_0, xs_1n, xs_1i, xs_1r, xs_1u, xs_1l, xs_s, xt_0, xt_1n, xt_1i, xt_1r, xt_1u, xt_1l, xt_s, xisref, xq0, Value.category, xcat, List.map_nil, List.map_cons, List.sum_nil, List.sum_cons, List.length_cons, List.length_nil, List.getElem?_cons_zero, List.getElem?_cons_succ, xmap_s, if_true, and_self, Nat.reduceAdd, Nat.reduceLT, Nat.reduceLeDiff, Nat.reduceEqDiff, Nat.lt_add_one, Nat.zero_le, Nat.le_refl, Nat.le_zero_eq, Nat.zero_lt_succ, xldc, kbm10, kbm9, kbm8, kbm7, kbm6, kbm5, kbm4, kbm3, kbm2, kb6, kb7, kb8, kb9, kb10, kb11, kb16, kb19, kb20, kb30, kb31, kb32, kb34, kb40, kb64, kb100, kb127, kim1, ki0, ki1, ki2, ki3, ki4, ki5, ks128, ks400, ks999, ks1000, ks4010])
        try simp (disch := omega) only [nx10, nx4, nx32, nxa0, nxa1, nxa2, nxa3, nxa4, nxa5, nxa6, nxa7, nxa8, nxa9, nxa10, nxs1, nxs10, nxss, nI_add, nI_clamp, mnar0, mnar1, Nat.add_sub_cancel]
        refine l_il rfl (nIn (by omega) (by omega)) ?_
        try dsimp only [Nat.reduceAdd]
        try simp (disch := omega) only [nx10, nx4, nx32, nxa0, nxa1, nxa2, nxa3, nxa4, nxa5, nxa6, nxa7, nxa8, nxa9, nxa10, nxs1, nxs10, nxss, nI_add, nI_clamp, mnar0, mnar1, Nat.add_sub_cancel]
        refine ok_cm (vs := [_, _, _, _, _, _, _, _]) rfl rfl rfl rfl (Nat.le_of_ble_eq_true rfl) (Nat.le_of_ble_eq_true rfl) (by show xcl0 2 8 _ _ = true; simp [xcl0, hI.1]) (by decide) hW (sp47 hW hI (by omega)) ?_
        rintro _ h132 ⟨⟨x136, rfl⟩, hI, z137, z138⟩ k133 al134
        dsimp only [Option.toList, List.cons_append, List.nil_append, Nat.reduceAdd]
        try dsimp only at z137 z138
        have hW := k133.1
        obtain ⟨B, hm⟩ := hm.kq k133 (by decide)
        iterate 6 (refine ok_st rfl rfl ?_; simp only [okS_some, xst, xp0, xp1, xp2, xp3, xp4, xp5, xload, xstore, xget_0, xget_s, xs_0, xs_1n, xs_1i, xs_1r, xs_1u, xs_1l, xs_s, xt_0, xt_1n, xt_1i, xt_1r, xt_1u, xt_1l, xt_s, xisref, xq0, Value.category, xcat, List.map_nil, List.map_cons, List.sum_nil, List.sum_cons, List.length_cons, List.length_nil, List.getElem?_cons_zero, List.getElem?_cons_succ, xmap_s, if_true, and_self, Nat.reduceAdd, Nat.reduceLT, Nat.reduceLeDiff, Nat.reduceEqDiff, Nat.lt_add_one, Nat.zero_le, Nat.le_refl, Nat.le_zero_eq, Nat.zero_lt_succ, xldc, kbm10, kbm9, kbm8, kbm7, kbm6, kbm5, kbm4, kbm3, kbm2, kb6, kb7, kb8, kb9, kb10, kb11, kb16, kb19, kb20, kb30, kb31, kb32, kb34, kb40, kb64, kb100, kb127, kim1, ki0, ki1, ki2, ki3, ki4, ki5, ks128, ks400, ks999, ks1000, ks4010])
        try simp (disch := omega) only [nx10, nx4, nx32, nxa0, nxa1, nxa2, nxa3, nxa4, nxa5, nxa6, nxa7, nxa8, nxa9, nxa10, nxs1, nxs10, nxss, nI_add, nI_clamp, mnar0, mnar1, Nat.add_sub_cancel]
        refine l_il rfl (nIn (by omega) (by omega)) ?_
        try dsimp only [Nat.reduceAdd]
        try simp (disch := omega) only [nx10, nx4, nx32, nxa0, nxa1, nxa2, nxa3, nxa4, nxa5, nxa6, nxa7, nxa8, nxa9, nxa10, nxs1, nxs10, nxss, nI_add, nI_clamp, mnar0, mnar1, Nat.add_sub_cancel]
        iterate 4 (refine ok_st rfl rfl ?_; simp only [okS_some, xst, xp0, xp1, xp2, xp3, xp4, xp5, xload, xstore, xget_0, xget_s, xs_0, xs_1n, xs_1i, xs_1r, xs_1u, xs_1l, xs_s, xt_0, xt_1n, xt_1i, xt_1r, xt_1u, xt_1l, xt_s, xisref, xq0, Value.category, xcat, List.map_nil, List.map_cons, List.sum_nil, List.sum_cons, List.length_cons, List.length_nil, List.getElem?_cons_zero, List.getElem?_cons_succ, xmap_s, if_true, and_self, Nat.reduceAdd, Nat.reduceLT, Nat.reduceLeDiff, Nat.reduceEqDiff, Nat.lt_add_one, Nat.zero_le, Nat.le_refl, Nat.le_zero_eq, Nat.zero_lt_succ, xldc, kbm10, kbm9, kbm8, kbm7, kbm6, kbm5, kbm4, kbm3, kbm2, kb6, kb7, kb8, kb9, kb10, kb11, kb16, kb19, kb20, kb30, kb31, kb32, kb34, kb40, kb64, kb100, kb127, kim1, ki0, ki1, ki2, ki3, ki4, ki5, ks128, ks400, ks999, ks1000, ks4010])
        try simp (disch := omega) only [nx10, nx4, nx32, nxa0, nxa1, nxa2, nxa3, nxa4, nxa5, nxa6, nxa7, nxa8, nxa9, nxa10, nxs1, nxs10, nxss, nI_add, nI_clamp, mnar0, mnar1, Nat.add_sub_cancel]
        refine l_il rfl (nIn (by omega) (by omega)) ?_
        try dsimp only [Nat.reduceAdd]
        try simp (disch := omega) only [nx10, nx4, nx32, nxa0, nxa1, nxa2, nxa3, nxa4, nxa5, nxa6, nxa7, nxa8, nxa9, nxa10, nxs1, nxs10, nxss, nI_add, nI_clamp, mnar0, mnar1, Nat.add_sub_cancel]
        iterate 4 (refine ok_st rfl rfl ?_; simp only [okS_some, xst, xp0, xp1, xp2, xp3, xp4, xp5, xload, xstore, xget_0, xget_s, xs_0, xs_1n, xs_1i, xs_1r, xs_1u, xs_1l, xs_s, xt_0, xt_1n, xt_1i, xt_1r, xt_1u, xt_1l, xt_s, xisref, xq0, Value.category, xcat, List.map_nil, List.map_cons, List.sum_nil, List.sum_cons, List.length_cons, List.length_nil, List.getElem?_cons_zero, List.getElem?_cons_succ, xmap_s, if_true, and_self, Nat.reduceAdd, Nat.reduceLT, Nat.reduceLeDiff, Nat.reduceEqDiff, Nat.lt_add_one, Nat.zero_le, Nat.le_refl, Nat.le_zero_eq, Nat.zero_lt_succ, xldc, kbm10, kbm9, kbm8, kbm7, kbm6, kbm5, kbm4, kbm3, kbm2, kb6, kb7, kb8, kb9, kb10, kb11, kb16, kb19, kb20, kb30, kb31, kb32, kb34, kb40, kb64, kb100, kb127, kim1, ki0, ki1, ki2, ki3, ki4, ki5, ks128, ks400, ks999, ks1000, ks4010])
        try simp (disch := omega) only [nx10, nx4, nx32, nxa0, nxa1, nxa2, nxa3, nxa4, nxa5, nxa6, nxa7, nxa8, nxa9, nxa10, nxs1, nxs10, nxss, nI_add, nI_clamp, mnar0, mnar1, Nat.add_sub_cancel]
        refine l_il rfl (nIn (by omega) (by omega)) ?_
        try dsimp only [Nat.reduceAdd]
        try simp (disch := omega) only [nx10, nx4, nx32, nxa0, nxa1, nxa2, nxa3, nxa4, nxa5, nxa6, nxa7, nxa8, nxa9, nxa10, nxs1, nxs10, nxss, nI_add, nI_clamp, mnar0, mnar1, Nat.add_sub_cancel]
        iterate 4 (refine ok_st rfl rfl ?_; simp only [okS_some, xst, xp0, xp1, xp2, xp3, xp4, xp5, xload, xstore, xget_0, xget_s, xs_0, xs_1n, xs_1i, xs_1r, xs_1u, xs_1l, xs_s, xt_0, xt_1n, xt_1i, xt_1r, xt_1u, xt_1l, xt_s, xisref, xq0, Value.category, xcat, List.map_nil, List.map_cons, List.sum_nil, List.sum_cons, List.length_cons, List.length_nil, List.getElem?_cons_zero, List.getElem?_cons_succ, xmap_s, if_true, and_self, Nat.reduceAdd, Nat.reduceLT, Nat.reduceLeDiff, Nat.reduceEqDiff, Nat.lt_add_one, Nat.zero_le, Nat.le_refl, Nat.le_zero_eq, Nat.zero_lt_succ, xldc, kbm10, kbm9, kbm8, kbm7, kbm6, kbm5, kbm4, kbm3, kbm2, kb6, kb7, kb8, kb9, kb10, kb11, kb16, kb19, kb20, kb30, kb31, kb32, kb34, kb40, kb64, kb100, kb127, kim1, ki0, ki1, ki2, ki3, ki4, ki5, ks128, ks400, ks999, ks1000, ks4010])
        try simp (disch := omega) only [nx10, nx4, nx32, nxa0, nxa1, nxa2, nxa3, nxa4, nxa5, nxa6, nxa7, nxa8, nxa9, nxa10, nxs1, nxs10, nxss, nI_add, nI_clamp, mnar0, mnar1, Nat.add_sub_cancel]
        refine l_il rfl (nIn (by omega) (by omega)) ?_
        try dsimp only [Nat.reduceAdd]
        try simp (disch := omega) only [nx10, nx4, nx32, nxa0, nxa1, nxa2, nxa3, nxa4, nxa5, nxa6, nxa7, nxa8, nxa9, nxa10, nxs1, nxs10, nxss, nI_add, nI_clamp, mnar0, mnar1, Nat.add_sub_cancel]
        iterate 4 (refine ok_st rfl rfl ?_; simp only [okS_some, xst, xp0, xp1, xp2, xp3, xp4, xp5, xload, xstore, xget_0, xget_s, xs_0, xs_1n, xs_1i, xs_1r, xs_1u, xs_1l, xs_s, xt_0, xt_1n, xt_1i, xt_1r, xt_1u, xt_1l, xt_s, xisref, xq0, Value.category, xcat, List.map_nil, List.map_cons, List.sum_nil, List.sum_cons, List.length_cons, List.length_nil, List.getElem?_cons_zero, List.getElem?_cons_succ, xmap_s, if_true, and_self, Nat.reduceAdd, Nat.reduceLT, Nat.reduceLeDiff, Nat.reduceEqDiff, Nat.lt_add_one, Nat.zero_le, Nat.le_refl, Nat.le_zero_eq, Nat.zero_lt_succ, xldc, kbm10, kbm9, kbm8, kbm7, kbm6, kbm5, kbm4, kbm3, kbm2, kb6, kb7, kb8, kb9, kb10, kb11, kb16, kb19, kb20, kb30, kb31, kb32, kb34, kb40, kb64, kb100, kb127, kim1, ki0, ki1, ki2, ki3, ki4, ki5, ks128, ks400, ks999, ks1000, ks4010])
        try simp (disch := omega) only [nx10, nx4, nx32, nxa0, nxa1, nxa2, nxa3, nxa4, nxa5, nxa6, nxa7, nxa8, nxa9, nxa10, nxs1, nxs10, nxss, nI_add, nI_clamp, mnar0, mnar1, Nat.add_sub_cancel]
        refine l_il rfl (nIn (by omega) (by omega)) ?_
        try dsimp only [Nat.reduceAdd]
        try simp (disch := omega) only [nx10, nx4, nx32, nxa0, nxa1, nxa2, nxa3, nxa4, nxa5, nxa6, nxa7, nxa8, nxa9, nxa10, nxs1, nxs10, nxss, nI_add, nI_clamp, mnar0, mnar1, Nat.add_sub_cancel]
        iterate 4 (refine ok_st rfl rfl ?_; simp only [okS_some, xst, xp0, xp1, xp2, xp3, xp4, xp5, xload, xstore, xget_0, xget_s, xs_0, xs_1n, xs_1i, xs_1r, xs_1u, xs_1l, xs_s, xt_0, xt_1n, xt_1i, xt_1r, xt_1u, xt_1l, xt_s, xisref, xq0, Value.category, xcat, List.map_nil, List.map_cons, List.sum_nil, List.sum_cons, List.length_cons, List.length_nil, List.getElem?_cons_zero, List.getElem?_cons_succ, xmap_s, if_true, and_self, Nat.reduceAdd, Nat.reduceLT, Nat.reduceLeDiff, Nat.reduceEqDiff, Nat.lt_add_one, Nat.zero_le, Nat.le_refl, Nat.le_zero_eq, Nat.zero_lt_succ, xldc, kbm10, kbm9, kbm8, kbm7, kbm6, kbm5, kbm4, kbm3, kbm2, kb6, kb7, kb8, kb9, kb10, kb11, kb16, kb19, kb20, kb30, kb31, kb32, kb34, kb40, kb64, kb100, kb127, kim1, ki0, ki1, ki2, ki3, ki4, ki5, ks128, ks400, ks999, ks1000, ks4010])
        try simp (disch := omega) only [nx10, nx4, nx32, nxa0, nxa1, nxa2, nxa3, nxa4, nxa5, nxa6, nxa7, nxa8, nxa9, nxa10, nxs1, nxs10, nxss, nI_add, nI_clamp, mnar0, mnar1, Nat.add_sub_cancel]
        refine l_il rfl (nIn (by omega) (by omega)) ?_
        try dsimp only [Nat.reduceAdd]
        try simp (disch := omega) only [nx10, nx4, nx32, nxa0, nxa1, nxa2, nxa3, nxa4, nxa5, nxa6, nxa7, nxa8, nxa9, nxa10, nxs1, nxs10, nxss, nI_add, nI_clamp, mnar0, mnar1, Nat.add_sub_cancel]
        iterate 4 (refine ok_st rfl rfl ?_; simp only [okS_some, xst, xp0, xp1, xp2, xp3, xp4, xp5, xload, xstore, xget_0, xget_s, xs_0, xs_1n, xs_1i, xs_1r, xs_1u, xs_1l, xs_s, xt_0, xt_1n, xt_1i, xt_1r, xt_1u, xt_1l, xt_s, xisref, xq0, Value.category, xcat, List.map_nil, List.map_cons, List.sum_nil, List.sum_cons, List.length_cons, List.length_nil, List.getElem?_cons_zero, List.getElem?_cons_succ, xmap_s, if_true, and_self, Nat.reduceAdd, Nat.reduceLT, Nat.reduceLeDiff, Nat.reduceEqDiff, Nat.lt_add_one, Nat.zero_le, Nat.le_refl, Nat.le_zero_eq, Nat.zero_lt_succ, xldc, kbm10, kbm9, kbm8, kbm7, kbm6, kbm5, kbm4, kbm3, kbm2, kb6, kb7, kb8, kb9, kb10, kb11, kb16, kb19, kb20, kb30, kb31, kb32, kb34, kb40, kb64, kb100, kb127, kim1, ki0, ki1, ki2, ki3, ki4, ki5, ks128, ks400, ks999, ks1000, ks4010])
        try simp (disch := omega) only [nx10, nx4, nx32, nxa0, nxa1, nxa2, nxa3, nxa4, nxa5, nxa6, nxa7, nxa8, nxa9, nxa10, nxs1, nxs10, nxss, nI_add, nI_clamp, mnar0, mnar1, Nat.add_sub_cancel]
        refine l_il rfl (nIn (by omega) (by omega)) ?_
        try dsimp only [Nat.reduceAdd]
        try simp (disch := omega) only [nx10, nx4, nx32, nxa0, nxa1, nxa2, nxa3, nxa4, nxa5, nxa6, nxa7, nxa8, nxa9, nxa10, nxs1, nxs10, nxss, nI_add, nI_clamp, mnar0, mnar1, Nat.add_sub_cancel]
        refine ok_cm (vs := [_, _, _, _, _, _, _, _]) rfl rfl rfl rfl (Nat.le_of_ble_eq_true rfl) (Nat.le_of_ble_eq_true rfl) (by show xcl0 2 9 _ _ = true; simp [xcl0, hm.1]) (by decide) hW (sp98 hW hm hj) ?_
        rintro _ h140 ⟨⟨x144, rfl⟩, S1, A1, B1, M1, hm, hj, hs⟩ k141 al142
        dsimp only [Option.toList, List.cons_append, List.nil_append, Nat.reduceAdd]
        have hW := k141.1
        have z145 := al142 rfl
        try dsimp only at z145
        have hI := hI.kp k141 (by decide)
        have hS2 := hs.trans hS2
        iterate 3 (refine ok_st rfl rfl ?_; simp only [okS_some, xst, xp0, xp1, xp2, xp3, xp4, xp5, xload, xstore, xget_0, xget_s, xs_0, xs_1n, xs_1i, xs_1r, xs_1u, xs_1l, xs_s, xt_0, xt_1n, xt_1i, xt_1r, xt_1u, xt_1l, xt_s, xisref, xq0, Value.category, xcat, List.map_nil, List.map_cons, List.sum_nil, List.sum_cons, List.length_cons, List.length_nil, List.getElem?_cons_zero, List.getElem?_cons_succ, xmap_s, if_true, and_self, Nat.reduceAdd, Nat.reduceLT, Nat.reduceLeDiff, Nat.reduceEqDiff, Nat.lt_add_one, Nat.zero_le, Nat.le_refl, Nat.le_zero_eq, Nat.zero_lt_succ, xldc, kbm10, kbm9, kbm8, kbm7, kbm6, kbm5, kbm4, kbm3, kbm2, kb6, kb7, kb8, kb9, kb10, kb11, kb16, kb19, kb20, kb30, kb31, kb32, kb34, kb40, kb64, kb100, kb127, kim1, ki0, ki1, ki2, ki3, ki4, ki5, ks128, ks400, ks999, ks1000, ks4010])
        try simp (disch := omega) only [nx10, nx4, nx32, nxa0, nxa1, nxa2, nxa3, nxa4, nxa5, nxa6, nxa7, nxa8, nxa9, nxa10, nxs1, nxs10, nxss, nI_add, nI_clamp, mnar0, mnar1, Nat.add_sub_cancel]
        refine ok_st rfl rfl ?_
        simp only [okS_some, xst, xp0, xp1, xp2, xp3, xp4, xp5, xload, xstore, xget_0, xget_s, xs_0, xs_1n, xs_1i, xs_1r, xs_1u, xs_1l, xs_s, xt_0, xt_1n, xt_1i, xt_1r, xt_1u, xt_1l, xt_s, xisref, xq0, Value.category, xcat, List.map_nil, List.map_cons, List.sum_nil, List.sum_cons, List.length_cons, List.length_nil, List.getElem?_cons_zero, List.getElem?_cons_succ, xmap_s, if_true, and_self, Nat.reduceAdd, Nat.reduceLT, Nat.reduceLeDiff, Nat.reduceEqDiff, Nat.lt_add_one, Nat.zero_le, Nat.le_refl, Nat.le_zero_eq, Nat.zero_lt_succ, xldc, kbm10, kbm9, kbm8, kbm7, kbm6, kbm5, kbm4, kbm3, kbm2, kb6, kb7, kb8, kb9, kb10, kb11, kb16, kb19, kb20, kb30, kb31, kb32, kb34, kb40, kb64, kb100, kb127, kim1, ki0, ki1, ki2, ki3, ki4, ki5, ks128, ks400, ks999, ks1000, ks4010]
        rw [show nI (8 * i) + Int32.ofInt 8 = nI (8 * (i + 1)) from nI_add (8 * i) 8]
        exact ih (i := i + 1) hW ⟨_, _, _, _, _, _, _, hI.up (by omega), hm, hj, hS2, by omega, by omega⟩ (by omega) (by omega)
      · skip
        iterate 5 (refine ok_st rfl rfl ?_; simp only [okS_some, xst, xp0, xp1, xp2, xp3, xp4, xp5, xload, xstore, xget_0, xget_s, xs_0, xs_1n, xs_1i, xs_1r, xs_1u, xs_1l, xs_s, xt_0, xt_1n, xt_1i, xt_1r, xt_1u, xt_1l, xt_s, xisref, xq0, Value.category, xcat, List.map_nil, List.map_cons, List.sum_nil, List.sum_cons, List.length_cons, List.length_nil, List.getElem?_cons_zero, List.getElem?_cons_succ, xmap_s, if_true, and_self, Nat.reduceAdd, Nat.reduceLT, Nat.reduceLeDiff, Nat.reduceEqDiff, Nat.lt_add_one, Nat.zero_le, Nat.le_refl, Nat.le_zero_eq, Nat.zero_lt_succ, xldc, kbm10, kbm9, kbm8, kbm7, kbm6, kbm5, kbm4, kbm3, kbm2, kb6, kb7, kb8, kb9, kb10, kb11, kb16, kb19, kb20, kb30, kb31, kb32, kb34, kb40, kb64, kb100, kb127, kim1, ki0, ki1, ki2, ki3, ki4, ki5, ks128, ks400, ks999, ks1000, ks4010])
        try simp (disch := omega) only [nx10, nx4, nx32, nxa0, nxa1, nxa2, nxa3, nxa4, nxa5, nxa6, nxa7, nxa8, nxa9, nxa10, nxs1, nxs10, nxss, nI_add, nI_clamp, mnar0, mnar1, Nat.add_sub_cancel]
        refine l_il rfl (nIn (by omega) (by omega)) ?_
        try dsimp only [Nat.reduceAdd]
        try simp (disch := omega) only [nx10, nx4, nx32, nxa0, nxa1, nxa2, nxa3, nxa4, nxa5, nxa6, nxa7, nxa8, nxa9, nxa10, nxs1, nxs10, nxss, nI_add, nI_clamp, mnar0, mnar1, Nat.add_sub_cancel]
        iterate 4 (refine ok_st rfl rfl ?_; simp only [okS_some, xst, xp0, xp1, xp2, xp3, xp4, xp5, xload, xstore, xget_0, xget_s, xs_0, xs_1n, xs_1i, xs_1r, xs_1u, xs_1l, xs_s, xt_0, xt_1n, xt_1i, xt_1r, xt_1u, xt_1l, xt_s, xisref, xq0, Value.category, xcat, List.map_nil, List.map_cons, List.sum_nil, List.sum_cons, List.length_cons, List.length_nil, List.getElem?_cons_zero, List.getElem?_cons_succ, xmap_s, if_true, and_self, Nat.reduceAdd, Nat.reduceLT, Nat.reduceLeDiff, Nat.reduceEqDiff, Nat.lt_add_one, Nat.zero_le, Nat.le_refl, Nat.le_zero_eq, Nat.zero_lt_succ, xldc, kbm10, kbm9, kbm8, kbm7, kbm6, kbm5, kbm4, kbm3, kbm2, kb6, kb7, kb8, kb9, kb10, kb11, kb16, kb19, kb20, kb30, kb31, kb32, kb34, kb40, kb64, kb100, kb127, kim1, ki0, ki1, ki2, ki3, ki4, ki5, ks128, ks400, ks999, ks1000, ks4010])
        try simp (disch := omega) only [nx10, nx4, nx32, nxa0, nxa1, nxa2, nxa3, nxa4, nxa5, nxa6, nxa7, nxa8, nxa9, nxa10, nxs1, nxs10, nxss, nI_add, nI_clamp, mnar0, mnar1, Nat.add_sub_cancel]
        refine l_il rfl (nIn (by omega) (by omega)) ?_
        try dsimp only [Nat.reduceAdd]
        try simp (disch := omega) only [nx10, nx4, nx32, nxa0, nxa1, nxa2, nxa3, nxa4, nxa5, nxa6, nxa7, nxa8, nxa9, nxa10, nxs1, nxs10, nxss, nI_add, nI_clamp, mnar0, mnar1, Nat.add_sub_cancel]
        iterate 4 (refine ok_st rfl rfl ?_; simp only [okS_some, xst, xp0, xp1, xp2, xp3, xp4, xp5, xload, xstore, xget_0, xget_s, xs_0, xs_1n, xs_1i, xs_1r, xs_1u, xs_1l, xs_s, xt_0, xt_1n, xt_1i, xt_1r, xt_1u, xt_1l, xt_s, xisref, xq0, Value.category, xcat, List.map_nil, List.map_cons, List.sum_nil, List.sum_cons, List.length_cons, List.length_nil, List.getElem?_cons_zero, List.getElem?_cons_succ, xmap_s, if_true, and_self, Nat.reduceAdd, Nat.reduceLT, Nat.reduceLeDiff, Nat.reduceEqDiff, Nat.lt_add_one, Nat.zero_le, Nat.le_refl, Nat.le_zero_eq, Nat.zero_lt_succ, xldc, kbm10, kbm9, kbm8, kbm7, kbm6, kbm5, kbm4, kbm3, kbm2, kb6, kb7, kb8, kb9, kb10, kb11, kb16, kb19, kb20, kb30, kb31, kb32, kb34, kb40, kb64, kb100, kb127, kim1, ki0, ki1, ki2, ki3, ki4, ki5, ks128, ks400, ks999, ks1000, ks4010])
        try simp (disch := omega) only [nx10, nx4, nx32, nxa0, nxa1, nxa2, nxa3, nxa4, nxa5, nxa6, nxa7, nxa8, nxa9, nxa10, nxs1, nxs10, nxss, nI_add, nI_clamp, mnar0, mnar1, Nat.add_sub_cancel]
        refine l_il rfl (nIn (by omega) (by omega)) ?_
        try dsimp only [Nat.reduceAdd]
        try simp (disch := omega) only [nx10, nx4, nx32, nxa0, nxa1, nxa2, nxa3, nxa4, nxa5, nxa6, nxa7, nxa8, nxa9, nxa10, nxs1, nxs10, nxss, nI_add, nI_clamp, mnar0, mnar1, Nat.add_sub_cancel]
        refine ok_cm (vs := [_, _, _, _]) rfl rfl rfl rfl (Nat.le_of_ble_eq_true rfl) (Nat.le_of_ble_eq_true rfl) (by show xcl0 2 8 _ _ = true; simp [xcl0, hI.1]) (by decide) hW (sp48 hW hI (by omega)) ?_
        rintro _ h146 ⟨⟨x150, rfl⟩, hI, z151, z152⟩ k147 al148
        dsimp only [Option.toList, List.cons_append, List.nil_append, Nat.reduceAdd]
        try dsimp only at z151 z152
        have hW := k147.1
        obtain ⟨B, hm⟩ := hm.kq k147 (by decide)
        iterate 6 (refine ok_st rfl rfl ?_; simp only [okS_some, xst, xp0, xp1, xp2, xp3, xp4, xp5, xload, xstore, xget_0, xget_s, xs_0, xs_1n, xs_1i, xs_1r, xs_1u, xs_1l, xs_s, xt_0, xt_1n, xt_1i, xt_1r, xt_1u, xt_1l, xt_s, xisref, xq0, Value.category, xcat, List.map_nil, List.map_cons, List.sum_nil, List.sum_cons, List.length_cons, List.length_nil, List.getElem?_cons_zero, List.getElem?_cons_succ, xmap_s, if_true, and_self, Nat.reduceAdd, Nat.reduceLT, Nat.reduceLeDiff, Nat.reduceEqDiff, Nat.lt_add_one, Nat.zero_le, Nat.le_refl, Nat.le_zero_eq, Nat.zero_lt_succ, xldc, kbm10, kbm9, kbm8, kbm7, kbm6, kbm5, kbm4, kbm3, kbm2, kb6, kb7, kb8, kb9, kb10, kb11, kb16, kb19, kb20, kb30, kb31, kb32, kb34, kb40, kb64, kb100, kb127, kim1, ki0, ki1, ki2, ki3, ki4, ki5, ks128, ks400, ks999, ks1000, ks4010])
        try simp (disch := omega) only [nx10, nx4, nx32, nxa0, nxa1, nxa2, nxa3, nxa4, nxa5, nxa6, nxa7, nxa8, nxa9, nxa10, nxs1, nxs10, nxss, nI_add, nI_clamp, mnar0, mnar1, Nat.add_sub_cancel]
        refine l_il rfl (nIn (by omega) (by omega)) ?_
        try dsimp only [Nat.reduceAdd]
        try simp (disch := omega) only [nx10, nx4, nx32, nxa0, nxa1, nxa2, nxa3, nxa4, nxa5, nxa6, nxa7, nxa8, nxa9, nxa10, nxs1, nxs10, nxss, nI_add, nI_clamp, mnar0, mnar1, Nat.add_sub_cancel]
        iterate 4 (refine ok_st rfl rfl ?_; simp only [okS_some, xst, xp0, xp1, xp2, xp3, xp4, xp5, xload, xstore, xget_0, xget_s, xs_0, xs_1n, xs_1i, xs_1r, xs_1u, xs_1l, xs_s, xt_0, xt_1n, xt_1i, xt_1r, xt_1u, xt_1l, xt_s, xisref, xq0, Value.category, xcat, List.map_nil, List.map_cons, List.sum_nil, List.sum_cons, List.length_cons, List.length_nil, List.getElem?_cons_zero, List.getElem?_cons_succ, xmap_s, if_true, and_self, Nat.reduceAdd, Nat.reduceLT, Nat.reduceLeDiff, Nat.reduceEqDiff, Nat.lt_add_one, Nat.zero_le, Nat.le_refl, Nat.le_zero_eq, Nat.zero_lt_succ, xldc, kbm10, kbm9, kbm8, kbm7, kbm6, kbm5, kbm4, kbm3, kbm2, kb6, kb7, kb8, kb9, kb10, kb11, kb16, kb19, kb20, kb30, kb31, kb32, kb34, kb40, kb64, kb100, kb127, kim1, ki0, ki1, ki2, ki3, ki4, ki5, ks128, ks400, ks999, ks1000, ks4010])
        try simp (disch := omega) only [nx10, nx4, nx32, nxa0, nxa1, nxa2, nxa3, nxa4, nxa5, nxa6, nxa7, nxa8, nxa9, nxa10, nxs1, nxs10, nxss, nI_add, nI_clamp, mnar0, mnar1, Nat.add_sub_cancel]
        refine l_il rfl (nIn (by omega) (by omega)) ?_
        try dsimp only [Nat.reduceAdd]
        try simp (disch := omega) only [nx10, nx4, nx32, nxa0, nxa1, nxa2, nxa3, nxa4, nxa5, nxa6, nxa7, nxa8, nxa9, nxa10, nxs1, nxs10, nxss, nI_add, nI_clamp, mnar0, mnar1, Nat.add_sub_cancel]
        iterate 4 (refine ok_st rfl rfl ?_; simp only [okS_some, xst, xp0, xp1, xp2, xp3, xp4, xp5, xload, xstore, xget_0, xget_s, xs_0, xs_1n, xs_1i, xs_1r, xs_1u, xs_1l, xs_s, xt_0, xt_1n, xt_1i, xt_1r, xt_1u, xt_1l, xt_s, xisref, xq0, Value.category, xcat, List.map_nil, List.map_cons, List.sum_nil, List.sum_cons, List.length_cons, List.length_nil, List.getElem?_cons_zero, List.getElem?_cons_succ, xmap_s, if_true, and_self, Nat.reduceAdd, Nat.reduceLT, Nat.reduceLeDiff, Nat.reduceEqDiff, Nat.lt_add_one, Nat.zero_le, Nat.le_refl, Nat.le_zero_eq, Nat.zero_lt_succ, xldc, kbm10, kbm9, kbm8, kbm7, kbm6, kbm5, kbm4, kbm3, kbm2, kb6, kb7, kb8, kb9, kb10, kb11, kb16, kb19, kb20, kb30, kb31, kb32, kb34, kb40, kb64, kb100, kb127, kim1, ki0, ki1, ki2, ki3, ki4, ki5, ks128, ks400, ks999, ks1000, ks4010])
        try simp (disch := omega) only [nx10, nx4, nx32, nxa0, nxa1, nxa2, nxa3, nxa4, nxa5, nxa6, nxa7, nxa8, nxa9, nxa10, nxs1, nxs10, nxss, nI_add, nI_clamp, mnar0, mnar1, Nat.add_sub_cancel]
        refine l_il rfl (nIn (by omega) (by omega)) ?_
        try dsimp only [Nat.reduceAdd]
        try simp (disch := omega) only [nx10, nx4, nx32, nxa0, nxa1, nxa2, nxa3, nxa4, nxa5, nxa6, nxa7, nxa8, nxa9, nxa10, nxs1, nxs10, nxss, nI_add, nI_clamp, mnar0, mnar1, Nat.add_sub_cancel]
        refine ok_cm (vs := [_, _, _, _]) rfl rfl rfl rfl (Nat.le_of_ble_eq_true rfl) (Nat.le_of_ble_eq_true rfl) (by show xcl0 2 9 _ _ = true; simp [xcl0, hm.1]) (by decide) hW (sp99 hW hm hj) ?_
        rintro _ h154 ⟨⟨x158, rfl⟩, S1, A1, B1, M1, hm, hj, hs⟩ k155 al156
        dsimp only [Option.toList, List.cons_append, List.nil_append, Nat.reduceAdd]
        have hW := k155.1
        have z159 := al156 rfl
        try dsimp only at z159
        have hI := hI.kp k155 (by decide)
        have hS2 := hs.trans hS2
        iterate 3 (refine ok_st rfl rfl ?_; simp only [okS_some, xst, xp0, xp1, xp2, xp3, xp4, xp5, xload, xstore, xget_0, xget_s, xs_0, xs_1n, xs_1i, xs_1r, xs_1u, xs_1l, xs_s, xt_0, xt_1n, xt_1i, xt_1r, xt_1u, xt_1l, xt_s, xisref, xq0, Value.category, xcat, List.map_nil, List.map_cons, List.sum_nil, List.sum_cons, List.length_cons, List.length_nil, List.getElem?_cons_zero, List.getElem?_cons_succ, xmap_s, if_true, and_self, Nat.reduceAdd, Nat.reduceLT, Nat.reduceLeDiff, Nat.reduceEqDiff, Nat.lt_add_one, Nat.zero_le, Nat.le_refl, Nat.le_zero_eq, Nat.zero_lt_succ, xldc, kbm10, kbm9, kbm8, kbm7, kbm6, kbm5, kbm4, kbm3, kbm2, kb6, kb7, kb8, kb9, kb10, kb11, kb16, kb19, kb20, kb30, kb31, kb32, kb34, kb40, kb64, kb100, kb127, kim1, ki0, ki1, ki2, ki3, ki4, ki5, ks128, ks400, ks999, ks1000, ks4010])
        try simp (disch := omega) only [nx10, nx4, nx32, nxa0, nxa1, nxa2, nxa3, nxa4, nxa5, nxa6, nxa7, nxa8, nxa9, nxa10, nxs1, nxs10, nxss, nI_add, nI_clamp, mnar0, mnar1, Nat.add_sub_cancel]
        refine ok_st rfl rfl ?_
        simp only [okS_some, xst, xp0, xp1, xp2, xp3, xp4, xp5, xload, xstore, xget_0, xget_s, xs_0, xs_1n, xs_1i, xs_1r, xs_1u, xs_1l, xs_s, xt_0, xt_1n, xt_1i, xt_1r, xt_1u, xt_1l, xt_s, xisref, xq0, Value.category, xcat, List.map_nil, List.map_cons, List.sum_nil, List.sum_cons, List.length_cons, List.length_nil, List.getElem?_cons_zero, List.getElem?_cons_succ, xmap_s, if_true, and_self, Nat.reduceAdd, Nat.reduceLT, Nat.reduceLeDiff, Nat.reduceEqDiff, Nat.lt_add_one, Nat.zero_le, Nat.le_refl, Nat.le_zero_eq, Nat.zero_lt_succ, xldc, kbm10, kbm9, kbm8, kbm7, kbm6, kbm5, kbm4, kbm3, kbm2, kb6, kb7, kb8, kb9, kb10, kb11, kb16, kb19, kb20, kb30, kb31, kb32, kb34, kb40, kb64, kb100, kb127, kim1, ki0, ki1, ki2, ki3, ki4, ki5, ks128, ks400, ks999, ks1000, ks4010]
        rw [show nI (8 * i) + Int32.ofInt 8 = nI (8 * (i + 1)) from nI_add (8 * i) 8]
        exact ih (i := i + 1) hW ⟨_, _, _, _, _, _, _, hI.up (by omega), hm, hj, hS2, by omega, by omega⟩ (by omega) (by omega)
      · skip
        iterate 5 (refine ok_st rfl rfl ?_; simp only [okS_some, xst, xp0, xp1, xp2, xp3, xp4, xp5, xload, xstore, xget_0, xget_s, xs_0, xs_1n, xs_1i, xs_1r, xs_1u, xs_1l, xs_s, xt_0, xt_1n, xt_1i, xt_1r, xt_1u, xt_1l, xt_s, xisref, xq0, Value.category, xcat, List.map_nil, List.map_cons, List.sum_nil, List.sum_cons, List.length_cons, List.length_nil, List.getElem?_cons_zero, List.getElem?_cons_succ, xmap_s, if_true, and_self, Nat.reduceAdd, Nat.reduceLT, Nat.reduceLeDiff, Nat.reduceEqDiff, Nat.lt_add_one, Nat.zero_le, Nat.le_refl, Nat.le_zero_eq, Nat.zero_lt_succ, xldc, kbm10, kbm9, kbm8, kbm7, kbm6, kbm5, kbm4, kbm3, kbm2, kb6, kb7, kb8, kb9, kb10, kb11, kb16, kb19, kb20, kb30, kb31, kb32, kb34, kb40, kb64, kb100, kb127, kim1, ki0, ki1, ki2, ki3, ki4, ki5, ks128, ks400, ks999, ks1000, ks4010])
        try simp (disch := omega) only [nx10, nx4, nx32, nxa0, nxa1, nxa2, nxa3, nxa4, nxa5, nxa6, nxa7, nxa8, nxa9, nxa10, nxs1, nxs10, nxss, nI_add, nI_clamp, mnar0, mnar1, Nat.add_sub_cancel]
        refine l_il rfl (nIn (by omega) (by omega)) ?_
        try dsimp only [Nat.reduceAdd]
        try simp (disch := omega) only [nx10, nx4, nx32, nxa0, nxa1, nxa2, nxa3, nxa4, nxa5, nxa6, nxa7, nxa8, nxa9, nxa10, nxs1, nxs10, nxss, nI_add, nI_clamp, mnar0, mnar1, Nat.add_sub_cancel]
        iterate 4 (refine ok_st rfl rfl ?_; simp only [okS_some, xst, xp0, xp1, xp2, xp3, xp4, xp5, xload, xstore, xget_0, xget_s, xs_0, xs_1n, xs_1i, xs_1r, xs_1u, xs_1l, xs_s, xt_0, xt_1n, xt_1i, xt_1r, xt_1u, xt_1l, xt_s, xisref, xq0, Value.category, xcat, List.map_nil, List.map_cons, List.sum_nil, List.sum_cons, List.length_cons, List.length_nil, List.getElem?_cons_zero, List.getElem?_cons_succ, xmap_s, if_true, and_self, Nat.reduceAdd, Nat.reduceLT, Nat.reduceLeDiff, Nat.reduceEqDiff, Nat.lt_add_one, Nat.zero_le, Nat.le_refl, Nat.le_zero_eq, Nat.zero_lt_succ, xldc, kbm10, kbm9, kbm8, kbm7, kbm6, kbm5, kbm4, kbm3, kbm2, kb6, kb7, kb8, kb9, kb10, kb11, kb16, kb19, kb20, kb30, kb31, kb32, kb34, kb40, kb64, kb100, kb127, kim1, ki0, ki1, ki2, ki3, ki4, ki5, ks128, ks400, ks999, ks1000, ks4010])
        try simp (disch := omega) only [nx10, nx4, nx32, nxa0, nxa1, nxa2, nxa3, nxa4, nxa5, nxa6, nxa7, nxa8, nxa9, nxa10, nxs1, nxs10, nxss, nI_add, nI_clamp, mnar0, mnar1, Nat.add_sub_cancel]
        refine l_il rfl (nIn (by omega) (by omega)) ?_
        try dsimp only [Nat.reduceAdd]
        try simp (disch := omega) only [nx10, nx4, nx32, nxa0, nxa1, nxa2, nxa3, nxa4, nxa5, nxa6, nxa7, nxa8, nxa9, nxa10, nxs1, nxs10, nxss, nI_add, nI_clamp, mnar0, mnar1, Nat.add_sub_cancel]
        refine ok_cm (vs := [_, _, _]) rfl rfl rfl rfl (Nat.le_of_ble_eq_true rfl) (Nat.le_of_ble_eq_true rfl) (by show xcl0 2 8 _ _ = true; simp [xcl0, hI.1]) (by decide) hW (sp49 hW hI) ?_
        rintro _ h160 ⟨x164, rfl⟩ k161 al162
        dsimp only [Option.toList, List.cons_append, List.nil_append, Nat.reduceAdd]
        have hW := k161.1
        have z167 := al162 rfl
        try dsimp only at z167
        obtain ⟨B, hm⟩ := hm.kq k161 (by decide)
        have hI := hI.kp k161 (by decide)
        iterate 6 (refine ok_st rfl rfl ?_; simp only [okS_some, xst, xp0, xp1, xp2, xp3, xp4, xp5, xload, xstore, xget_0, xget_s, xs_0, xs_1n, xs_1i, xs_1r, xs_1u, xs_1l, xs_s, xt_0, xt_1n, xt_1i, xt_1r, xt_1u, xt_1l, xt_s, xisref, xq0, Value.category, xcat, List.map_nil, List.map_cons, List.sum_nil, List.sum_cons, List.length_cons, List.length_nil, List.getElem?_cons_zero, List.getElem?_cons_succ, xmap_s, if_true, and_self, Nat.reduceAdd, Nat.reduceLT, Nat.reduceLeDiff, Nat.reduceEqDiff, Nat.lt_add_one, Nat.zero_le, Nat.le_refl, Nat.le_zero_eq, Nat.zero_lt_succ, xldc, kbm10, kbm9, kbm8, kbm7, kbm6, kbm5, kbm4, kbm3, kbm2, kb6, kb7, kb8, kb9, kb10, kb11, kb16, kb19, kb20, kb30, kb31, kb32, kb34, kb40, kb64, kb100, kb127, kim1, ki0, ki1, ki2, ki3, ki4, ki5, ks128, ks400, ks999, ks1000, ks4010])
        try simp (disch := omega) only [nx10, nx4, nx32, nxa0, nxa1, nxa2, nxa3, nxa4, nxa5, nxa6, nxa7, nxa8, nxa9, nxa10, nxs1, nxs10, nxss, nI_add, nI_clamp, mnar0, mnar1, Nat.add_sub_cancel]
        refine l_il rfl (nIn (by omega) (by omega)) ?_
        try dsimp only [Nat.reduceAdd]
        try simp (disch := omega) only [nx10, nx4, nx32, nxa0, nxa1, nxa2, nxa3, nxa4, nxa5, nxa6, nxa7, nxa8, nxa9, nxa10, nxs1, nxs10, nxss, nI_add, nI_clamp, mnar0, mnar1, Nat.add_sub_cancel]
        iterate 4 (refine ok_st rfl rfl ?_; simp only [okS_some, xst, xp0, xp1, xp2, xp3, xp4, xp5, xload, xstore, xget_0, xget_s, xs_0, xs_1n, xs_1i, xs_1r, xs_1u, xs_1l, xs_s, xt_0, xt_1n, xt_1i, xt_1r, xt_1u, xt_1l, xt_s, xisref, xq0, Value.category, xcat, List.map_nil, List.map_cons, List.sum_nil, List.sum_cons, List.length_cons, List.length_nil, List.getElem?_cons_zero, List.getElem?_cons_succ, xmap_s, if_true, and_self, Nat.reduceAdd, Nat.reduceLT, Nat.reduceLeDiff, Nat.reduceEqDiff, Nat.lt_add_one, Nat.zero_le, Nat.le_refl, Nat.le_zero_eq, Nat.zero_lt_succ, xldc, kbm10, kbm9, kbm8, kbm7, kbm6, kbm5, kbm4, kbm3, kbm2, kb6, kb7, kb8, kb9, kb10, kb11, kb16, kb19, kb20, kb30, kb31, kb32, kb34, kb40, kb64, kb100, kb127, kim1, ki0, ki1, ki2, ki3, ki4, ki5, ks128, ks400, ks999, ks1000, ks4010])
        try simp (disch := omega) only [nx10, nx4, nx32, nxa0, nxa1, nxa2, nxa3, nxa4, nxa5, nxa6, nxa7, nxa8, nxa9, nxa10, nxs1, nxs10, nxss, nI_add, nI_clamp, mnar0, mnar1, Nat.add_sub_cancel]
        refine l_il rfl (nIn (by omega) (by omega)) ?_
        try dsimp only [Nat.reduceAdd]
        try simp (disch := omega) only [nx10, nx4, nx32, nxa0, nxa1, nxa2, nxa3, nxa4, nxa5, nxa6, nxa7, nxa8, nxa9, nxa10, nxs1, nxs10, nxss, nI_add, nI_clamp, mnar0, mnar1, Nat.add_sub_cancel]
        refine ok_cm (vs := [_, _, _]) rfl rfl rfl rfl (Nat.le_of_ble_eq_true rfl) (Nat.le_of_ble_eq_true rfl) (by show xcl0 2 9 _ _ = true; simp [xcl0, hm.1]) (by decide) hW (sp101 hW hm hj) ?_
        rintro _ h168 ⟨⟨x172, rfl⟩, S1, A1, B1, M1, hm, hj, hs⟩ k169 al170
        dsimp only [Option.toList, List.cons_append, List.nil_append, Nat.reduceAdd]
        have hW := k169.1
        have z173 := al170 rfl
        try dsimp only at z173
        have hI := hI.kp k169 (by decide)
        have hS2 := hs.trans hS2
        iterate 3 (refine ok_st rfl rfl ?_; simp only [okS_some, xst, xp0, xp1, xp2, xp3, xp4, xp5, xload, xstore, xget_0, xget_s, xs_0, xs_1n, xs_1i, xs_1r, xs_1u, xs_1l, xs_s, xt_0, xt_1n, xt_1i, xt_1r, xt_1u, xt_1l, xt_s, xisref, xq0, Value.category, xcat, List.map_nil, List.map_cons, List.sum_nil, List.sum_cons, List.length_cons, List.length_nil, List.getElem?_cons_zero, List.getElem?_cons_succ, xmap_s, if_true, and_self, Nat.reduceAdd, Nat.reduceLT, Nat.reduceLeDiff, Nat.reduceEqDiff, Nat.lt_add_one, Nat.zero_le, Nat.le_refl, Nat.le_zero_eq, Nat.zero_lt_succ, xldc, kbm10, kbm9, kbm8, kbm7, kbm6, kbm5, kbm4, kbm3, kbm2, kb6, kb7, kb8, kb9, kb10, kb11, kb16, kb19, kb20, kb30, kb31, kb32, kb34, kb40, kb64, kb100, kb127, kim1, ki0, ki1, ki2, ki3, ki4, ki5, ks128, ks400, ks999, ks1000, ks4010])
        try simp (disch := omega) only [nx10, nx4, nx32, nxa0, nxa1, nxa2, nxa3, nxa4, nxa5, nxa6, nxa7, nxa8, nxa9, nxa10, nxs1, nxs10, nxss, nI_add, nI_clamp, mnar0, mnar1, Nat.add_sub_cancel]
        refine ok_st rfl rfl ?_
        simp only [okS_some, xst, xp0, xp1, xp2, xp3, xp4, xp5, xload, xstore, xget_0, xget_s, xs_0, xs_1n, xs_1i, xs_1r, xs_1u, xs_1l, xs_s, xt_0, xt_1n, xt_1i, xt_1r, xt_1u, xt_1l, xt_s, xisref, xq0, Value.category, xcat, List.map_nil, List.map_cons, List.sum_nil, List.sum_cons, List.length_cons, List.length_nil, List.getElem?_cons_zero, List.getElem?_cons_succ, xmap_s, if_true, and_self, Nat.reduceAdd, Nat.reduceLT, Nat.reduceLeDiff, Nat.reduceEqDiff, Nat.lt_add_one, Nat.zero_le, Nat.le_refl, Nat.le_zero_eq, Nat.zero_lt_succ, xldc, kbm10, kbm9, kbm8, kbm7, kbm6, kbm5, kbm4, kbm3, kbm2, kb6, kb7, kb8, kb9, kb10, kb11, kb16, kb19, kb20, kb30, kb31, kb32, kb34, kb40, kb64, kb100, kb127, kim1, ki0, ki1, ki2, ki3, ki4, ki5, ks128, ks400, ks999, ks1000, ks4010]
        rw [show nI (8 * i) + Int32.ofInt 8 = nI (8 * (i + 1)) from nI_add (8 * i) 8]
        exact ih (i := i + 1) hW ⟨_, _, _, _, _, _, _, hI.up (by omega), hm, hj, hS2, by omega, by omega⟩ (by omega) (by omega)
      · skip
        iterate 5 (refine ok_st rfl rfl ?_; simp only [okS_some, xst, xp0, xp1, xp2, xp3, xp4, xp5, xload, xstore, xget_0, xget_s, xs_0, xs_1n, xs_1i, xs_1r, xs_1u, xs_1l, xs_s, xt_0, xt_1n, xt_1i, xt_1r, xt_1u, xt_1l, xt_s, xisref, xq0, Value.category, xcat, List.map_nil, List.map_cons, List.sum_nil, List.sum_cons, List.length_cons, List.length_nil, List.getElem?_cons_zero, List.getElem?_cons_succ, xmap_s, if_true, and_self, Nat.reduceAdd, Nat.reduceLT, Nat.reduceLeDiff, Nat.reduceEqDiff, Nat.lt_add_one, Nat.zero_le, Nat.le_refl, Nat.le_zero_eq, Nat.zero_lt_succ, xldc, kbm10, kbm9, kbm8, kbm7, kbm6, kbm5, kbm4, kbm3, kbm2, kb6, kb7, kb8, kb9, kb10, kb11, kb16, kb19, kb20, kb30, kb31, kb32, kb34, kb40, kb64, kb100, kb127, kim1, ki0, ki1, ki2, ki3, ki4, ki5, ks128, ks400, ks999, ks1000, ks4010])
        try simp (disch := omega) only [nx10, nx4, nx32, nxa0, nxa1, nxa2, nxa3, nxa4, nxa5, nxa6, nxa7, nxa8, nxa9, nxa10, nxs1, nxs10, nxss, nI_add, nI_clamp, mnar0, mnar1, Nat.add_sub_cancel]
        refine l_il rfl (nIn (by omega) (by omega)) ?_
        try dsimp only [Nat.reduceAdd]
        try simp (disch := omega) only [nx10, nx4, nx32, nxa0, nxa1, nxa2, nxa3, nxa4, nxa5, nxa6, nxa7, nxa8, nxa9, nxa10, nxs1, nxs10, nxss, nI_add, nI_clamp, mnar0, mnar1, Nat.add_sub_cancel]
        iterate 4 (refine ok_st rfl rfl ?_; simp only [okS_some, xst, xp0, xp1, xp2, xp3, xp4, xp5, xload, xstore, xget_0, xget_s, xs_0, xs_1n, xs_1i, xs_1r, xs_1u, xs_1l, xs_s, xt_0, xt_1n, xt_1i, xt_1r, xt_1u, xt_1l, xt_s, xisref, xq0, Value.category, xcat, List.map_nil, List.map_cons, List.sum_nil, List.sum_cons, List.length_cons, List.length_nil, List.getElem?_cons_zero, List.getElem?_cons_succ, xmap_s, if_true, and_self, Nat.reduceAdd, Nat.reduceLT, Nat.reduceLeDiff, Nat.reduceEqDiff, Nat.lt_add_one, Nat.zero_le, Nat.le_refl, Nat.le_zero_eq, Nat.zero_lt_succ, xldc, kbm10, kbm9, kbm8, kbm7, kbm6, kbm5, kbm4, kbm3, kbm2, kb6, kb7, kb8, kb9, kb10, kb11, kb16, kb19, kb20, kb30, kb31, kb32, kb34, kb40, kb64, kb100, kb127, kim1, ki0, ki1, ki2, ki3, ki4, ki5, ks128, ks400, ks999, ks1000, ks4010])
        try simp (disch := omega) only [nx10, nx4, nx32, nxa0, nxa1, nxa2, nxa3, nxa4, nxa5, nxa6, nxa7, nxa8, nxa9, nxa10, nxs1, nxs10, nxss, nI_add, nI_clamp, mnar0, mnar1, Nat.add_sub_cancel]
        refine l_il rfl (nIn (by omega) (by omega)) ?_
        try dsimp only [Nat.reduceAdd]
        try simp (disch := omega) only [nx10, nx4, nx32, nxa0, nxa1, nxa2, nxa3, nxa4, nxa5, nxa6, nxa7, nxa8, nxa9, nxa10, nxs1, nxs10, nxss, nI_add, nI_clamp, mnar0, mnar1, Nat.add_sub_cancel]
        refine ok_cm (vs := [_, _, _]) rfl rfl rfl rfl (Nat.le_of_ble_eq_true rfl) (Nat.le_of_ble_eq_true rfl) (by show xcl0 2 8 _ _ = true; simp [xcl0, hI.1]) (by decide) hW (sp50 hW hI) ?_
        rintro _ h174 ⟨x178, rfl⟩ k175 al176
        dsimp only [Option.toList, List.cons_append, List.nil_append, Nat.reduceAdd]
        have hW := k175.1
        have z181 := al176 rfl
        try dsimp only at z181
        obtain ⟨B, hm⟩ := hm.kq k175 (by decide)
        have hI := hI.kp k175 (by decide)
        iterate 6 (refine ok_st rfl rfl ?_; simp only [okS_some, xst, xp0, xp1, xp2, xp3, xp4, xp5, xload, xstore, xget_0, xget_s, xs_0, xs_1n, xs_1i, xs_1r, xs_1u, xs_1l, xs_s, xt_0, xt_1n, xt_1i, xt_1r, xt_1u, xt_1l, xt_s, xisref, xq0, Value.category, xcat, List.map_nil, List.map_cons, List.sum_nil, List.sum_cons, List.length_cons, List.length_nil, List.getElem?_cons_zero, List.getElem?_cons_succ, xmap_s, if_true, and_self, Nat.reduceAdd, Nat.reduceLT, Nat.reduceLeDiff, Nat.reduceEqDiff, Nat.lt_add_one, Nat.zero_le, Nat.le_refl, Nat.le_zero_eq, Nat.zero_lt_succ, xldc, kbm10, kbm9, kbm8, kbm7, kbm6, kbm5, kbm4, kbm3, kbm2, kb6, kb7, kb8, kb9, kb10, kb11, kb16, kb19, kb20, kb30, kb31, kb32, kb34, kb40, kb64, kb100, kb127, kim1, ki0, ki1, ki2, ki3, ki4, ki5, ks128, ks400, ks999, ks1000, ks4010])
        try simp (disch := omega) only [nx10, nx4, nx32, nxa0, nxa1, nxa2, nxa3, nxa4, nxa5, nxa6, nxa7, nxa8, nxa9, nxa10, nxs1, nxs10, nxss, nI_add, nI_clamp, mnar0, mnar1, Nat.add_sub_cancel]
        refine l_il rfl (nIn (by omega) (by omega)) ?_
        try dsimp only [Nat.reduceAdd]
        try simp (disch := omega) only [nx10, nx4, nx32, nxa0, nxa1, nxa2, nxa3, nxa4, nxa5, nxa6, nxa7, nxa8, nxa9, nxa10, nxs1, nxs10, nxss, nI_add, nI_clamp, mnar0, mnar1, Nat.add_sub_cancel]
        iterate 4 (refine ok_st rfl rfl ?_; simp only [okS_some, xst, xp0, xp1, xp2, xp3, xp4, xp5, xload, xstore, xget_0, xget_s, xs_0, xs_1n, xs_1i, xs_1r, xs_1u, xs_1l, xs_s, xt_0, xt_1n, xt_1i, xt_1r, xt_1u, xt_1l, xt_s, xisref, xq0, Value.category, xcat, List.map_nil, List.map_cons, List.sum_nil, List.sum_cons, List.length_cons, List.length_nil, List.getElem?_cons_zero, List.getElem?_cons_succ, xmap_s, if_true, and_self, Nat.reduceAdd, Nat.reduceLT, Nat.reduceLeDiff, Nat.reduceEqDiff, Nat.lt_add_one, Nat.zero_le, Nat.le_refl, Nat.le_zero_eq, Nat.zero_lt_succ, xldc, kbm10, kbm9, kbm8, kbm7, kbm6, kbm5, kbm4, kbm3, kbm2, kb6, kb7, kb8, kb9, kb10, kb11, kb16, kb19, kb20, kb30, kb31, kb32, kb34, kb40, kb64, kb100, kb127, kim1, ki0, ki1, ki2, ki3, ki4, ki5, ks128, ks400, ks999, ks1000, ks4010])
        try simp (disch := omega) only [nx10, nx4, nx32, nxa0, nxa1, nxa2, nxa3, nxa4, nxa5, nxa6, nxa7, nxa8, nxa9, nxa10, nxs1, nxs10, nxss, nI_add, nI_clamp, mnar0, mnar1, Nat.add_sub_cancel]
        refine l_il rfl (nIn (by omega) (by omega)) ?_
        try dsimp only [Nat.reduceAdd]
        try simp (disch := omega) only [nx10, nx4, nx32, nxa0, nxa1, nxa2, nxa3, nxa4, nxa5, nxa6, nxa7, nxa8, nxa9, nxa10, nxs1, nxs10, nxss, nI_add, nI_clamp, mnar0, mnar1, Nat.add_sub_cancel]
        refine ok_cm (vs := [_, _, _]) rfl rfl rfl rfl (Nat.le_of_ble_eq_true rfl) (Nat.le_of_ble_eq_true rfl) (by show xcl0 2 9 _ _ = true; simp [xcl0, hm.1]) (by decide) hW (sp102J hW hm hj) ?_
        rintro _ h182 ⟨x186, rfl⟩ k183 al184
        dsimp only [Option.toList, List.cons_append, List.nil_append, Nat.reduceAdd]
        have hW := k183.1
        have z187 := al184 rfl
        try dsimp only at z187
        have hI := hI.kp k183 (by decide)
        have hm := hm.kp k183 rfl
        iterate 3 (refine ok_st rfl rfl ?_; simp only [okS_some, xst, xp0, xp1, xp2, xp3, xp4, xp5, xload, xstore, xget_0, xget_s, xs_0, xs_1n, xs_1i, xs_1r, xs_1u, xs_1l, xs_s, xt_0, xt_1n, xt_1i, xt_1r, xt_1u, xt_1l, xt_s, xisref, xq0, Value.category, xcat, List.map_nil, List.map_cons, List.sum_nil, List.sum_cons, List.length_cons, List.length_nil, List.getElem?_cons_zero, List.getElem?_cons_succ, xmap_s, if_true, and_self, Nat.reduceAdd, Nat.reduceLT, Nat.reduceLeDiff, Nat.reduceEqDiff, Nat.lt_add_one, Nat.zero_le, Nat.le_refl, Nat.le_zero_eq, Nat.zero_lt_succ, xldc, kbm10, kbm9, kbm8, kbm7, kbm6, kbm5, kbm4, kbm3, kbm2, kb6, kb7, kb8, kb9, kb10, kb11, kb16, kb19, kb20, kb30, kb31, kb32, kb34, kb40, kb64, kb100, kb127, kim1, ki0, ki1, ki2, ki3, ki4, ki5, ks128, ks400, ks999, ks1000, ks4010])
        try simp (disch := omega) only [nx10, nx4, nx32, nxa0, nxa1, nxa2, nxa3, nxa4, nxa5, nxa6, nxa7, nxa8, nxa9, nxa10, nxs1, nxs10, nxss, nI_add, nI_clamp, mnar0, mnar1, Nat.add_sub_cancel]
        refine ok_st rfl rfl ?_
        simp only [okS_some, xst, xp0, xp1, xp2, xp3, xp4, xp5, xload, xstore, xget_0, xget_s, xs_0, xs_1n, xs_1i, xs_1r, xs_1u, xs_1l, xs_s, xt_0, xt_1n, xt_1i, xt_1r, xt_1u, xt_1l, xt_s, xisref, xq0, Value.category, xcat, List.map_nil, List.map_cons, List.sum_nil, List.sum_cons, List.length_cons, List.length_nil, List.getElem?_cons_zero, List.getElem?_cons_succ, xmap_s, if_true, and_self, Nat.reduceAdd, Nat.reduceLT, Nat.reduceLeDiff, Nat.reduceEqDiff, Nat.lt_add_one, Nat.zero_le, Nat.le_refl, Nat.le_zero_eq, Nat.zero_lt_succ, xldc, kbm10, kbm9, kbm8, kbm7, kbm6, kbm5, kbm4, kbm3, kbm2, kb6, kb7, kb8, kb9, kb10, kb11, kb16, kb19, kb20, kb30, kb31, kb32, kb34, kb40, kb64, kb100, kb127, kim1, ki0, ki1, ki2, ki3, ki4, ki5, ks128, ks400, ks999, ks1000, ks4010]
        rw [show nI (8 * i) + Int32.ofInt 8 = nI (8 * (i + 1)) from nI_add (8 * i) 8]
        exact ih (i := i + 1) hW ⟨_, _, _, _, _, _, _, hI.up (by omega), hm, hj, hS2, by omega, by omega⟩ (by omega) (by omega)
      · skip
        iterate 5 (refine ok_st rfl rfl ?_; simp only [okS_some, xst, xp0, xp1, xp2, xp3, xp4, xp5, xload, xstore, xget_0, xget_s, xs_0, xs_1n, xs_1i, xs_1r, xs_1u, xs_1l, xs_s, xt_0, xt_1n, xt_1i, xt_1r, xt_1u, xt_1l, xt_s, xisref, xq0, Value.category, xcat, List.map_nil, List.map_cons, List.sum_nil, List.sum_cons, List.length_cons, List.length_nil, List.getElem?_cons_zero, List.getElem?_cons_succ, xmap_s, if_true, and_self, Nat.reduceAdd, Nat.reduceLT, Nat.reduceLeDiff, Nat.reduceEqDiff, Nat.lt_add_one, Nat.zero_le, Nat.le_refl, Nat.le_zero_eq, Nat.zero_lt_succ, xldc, kbm10, kbm9, kbm8, kbm7, kbm6, kbm5, kbm4, kbm3, kbm2, kb6, kb7, kb8, kb9, kb10, kb11, kb16, kb19, kb20, kb30, kb31, kb32, kb34, kb40, kb64, kb100, kb127, kim1, ki0, ki1, ki2, ki3, ki4, ki5, ks128, ks400, ks999, ks1000, ks4010])
        try simp (disch := omega) only [nx10, nx4, nx32, nxa0, nxa1, nxa2, nxa3, nxa4, nxa5, nxa6, nxa7, nxa8, nxa9, nxa10, nxs1, nxs10, nxss, nI_add, nI_clamp, mnar0, mnar1, Nat.add_sub_cancel]
        refine l_il rfl (nIn (by omega) (by omega)) ?_
        try dsimp only [Nat.reduceAdd]
        try simp (disch := omega) only [nx10, nx4, nx32, nxa0, nxa1, nxa2, nxa3, nxa4, nxa5, nxa6, nxa7, nxa8, nxa9, nxa10, nxs1, nxs10, nxss, nI_add, nI_clamp, mnar0, mnar1, Nat.add_sub_cancel]
        refine ok_cm (vs := [_, _]) rfl rfl rfl rfl (Nat.le_of_ble_eq_true rfl) (Nat.le_of_ble_eq_true rfl) (by show xcl0 2 8 _ _ = true; simp [xcl0, hI.1]) (by decide) hW (sp51 hW hI) ?_
        rintro _ h188 ⟨x192, rfl⟩ k189 al190
        dsimp only [Option.toList, List.cons_append, List.nil_append, Nat.reduceAdd]
        have hW := k189.1
        have z195 := al190 rfl
        try dsimp only at z195
        obtain ⟨B, hm⟩ := hm.kq k189 (by decide)
        have hI := hI.kp k189 (by decide)
        iterate 6 (refine ok_st rfl rfl ?_; simp only [okS_some, xst, xp0, xp1, xp2, xp3, xp4, xp5, xload, xstore, xget_0, xget_s, xs_0, xs_1n, xs_1i, xs_1r, xs_1u, xs_1l, xs_s, xt_0, xt_1n, xt_1i, xt_1r, xt_1u, xt_1l, xt_s, xisref, xq0, Value.category, xcat, List.map_nil, List.map_cons, List.sum_nil, List.sum_cons, List.length_cons, List.length_nil, List.getElem?_cons_zero, List.getElem?_cons_succ, xmap_s, if_true, and_self, Nat.reduceAdd, Nat.reduceLT, Nat.reduceLeDiff, Nat.reduceEqDiff, Nat.lt_add_one, Nat.zero_le, Nat.le_refl, Nat.le_zero_eq, Nat.zero_lt_succ, xldc, kbm10, kbm9, kbm8, kbm7, kbm6, kbm5, kbm4, kbm3, kbm2, kb6, kb7, kb8, kb9, kb10, kb11, kb16, kb19, kb20, kb30, kb31, kb32, kb34, kb40, kb64, kb100, kb127, kim1, ki0, ki1, ki2, ki3, ki4, ki5, ks128, ks400, ks999, ks1000, ks4010])
        try simp (disch := omega) only [nx10, nx4, nx32, nxa0, nxa1, nxa2, nxa3, nxa4, nxa5, nxa6, nxa7, nxa8, nxa9, nxa10, nxs1, nxs10, nxss, nI_add, nI_clamp, mnar0, mnar1, Nat.add_sub_cancel]
        refine l_il rfl (nIn (by omega) (by omega)) ?_
        try dsimp only [Nat.reduceAdd]
        try simp (disch := omega) only [nx10, nx4, nx32, nxa0, nxa1, nxa2, nxa3, nxa4, nxa5, nxa6, nxa7, nxa8, nxa9, nxa10, nxs1, nxs10, nxss, nI_add, nI_clamp, mnar0, mnar1, Nat.add_sub_cancel]
        refine ok_cm (vs := [_, _]) rfl rfl rfl rfl (Nat.le_of_ble_eq_true rfl) (Nat.le_of_ble_eq_true rfl) (by show xcl0 2 9 _ _ = true; simp [xcl0, hm.1]) (by decide) hW (sp103J hW hm hj) ?_
        rintro _ h196 ⟨⟨x200, rfl⟩, S1, A1, B1, M1, hm, hj, hs⟩ k197 al198
        dsimp only [Option.toList, List.cons_append, List.nil_append, Nat.reduceAdd]
        have hW := k197.1
        have z201 := al198 rfl
        try dsimp only at z201
        have hI := hI.kp k197 (by decide)
        have hS2 := hs.trans hS2
        iterate 3 (refine ok_st rfl rfl ?_; simp only [okS_some, xst, xp0, xp1, xp2, xp3, xp4, xp5, xload, xstore, xget_0, xget_s, xs_0, xs_1n, xs_1i, xs_1r, xs_1u, xs_1l, xs_s, xt_0, xt_1n, xt_1i, xt_1r, xt_1u, xt_1l, xt_s, xisref, xq0, Value.category, xcat, List.map_nil, List.map_cons, List.sum_nil, List.sum_cons, List.length_cons, List.length_nil, List.getElem?_cons_zero, List.getElem?_cons_succ, xmap_s, if_true, and_self, Nat.reduceAdd, Nat.reduceLT, Nat.reduceLeDiff, Nat.reduceEqDiff, Nat.lt_add_one, Nat.zero_le, Nat.le_refl, Nat.le_zero_eq, Nat.zero_lt_succ, xldc, kbm10, kbm9, kbm8, kbm7, kbm6, kbm5, kbm4, kbm3, kbm2, kb6, kb7, kb8, kb9, kb10, kb11, kb16, kb19, kb20, kb30, kb31, kb32, kb34, kb40, kb64, kb100, kb127, kim1, ki0, ki1, ki2, ki3, ki4, ki5, ks128, ks400, ks999, ks1000, ks4010])
        try simp (disch := omega) only [nx10, nx4, nx32, nxa0, nxa1, nxa2, nxa3, nxa4, nxa5, nxa6, nxa7, nxa8, nxa9, nxa10, nxs1, nxs10, nxss, nI_add, nI_clamp, mnar0, mnar1, Nat.add_sub_cancel]
        refine ok_st rfl rfl ?_
        simp only [okS_some, xst, xp0, xp1, xp2, xp3, xp4, xp5, xload, xstore, xget_0, xget_s, xs_0, xs_1n, xs_1i, xs_1r, xs_1u, xs_1l, xs_s, xt_0, xt_1n, xt_1i, xt_1r, xt_1u, xt_1l, xt_s, xisref, xq0, Value.category, xcat, List.map_nil, List.map_cons, List.sum_nil, List.sum_cons, List.length_cons, List.length_nil, List.getElem?_cons_zero, List.getElem?_cons_succ, xmap_s, if_true, and_self, Nat.reduceAdd, Nat.reduceLT, Nat.reduceLeDiff, Nat.reduceEqDiff, Nat.lt_add_one, Nat.zero_le, Nat.le_refl, Nat.le_zero_eq, Nat.zero_lt_succ, xldc, kbm10, kbm9, kbm8, kbm7, kbm6, kbm5, kbm4, kbm3, kbm2, kb6, kb7, kb8, kb9, kb10, kb11, kb16, kb19, kb20, kb30, kb31, kb32, kb34, kb40, kb64, kb100, kb127, kim1, ki0, ki1, ki2, ki3, ki4, ki5, ks128, ks400, ks999, ks1000, ks4010]
        rw [show nI (8 * i) + Int32.ofInt 8 = nI (8 * (i + 1)) from nI_add (8 * i) 8]
        exact ih (i := i + 1) hW ⟨_, _, _, _, _, _, _, hI.up (by omega), hm, hj, hS2, by omega, by omega⟩ (by omega) (by omega)
      · skip
        iterate 5 (refine ok_st rfl rfl ?_; simp only [okS_some, xst, xp0, xp1, xp2, xp3, xp4, xp5, xload, xstore, xget_0, xget_s, xs_0, xs_1n, xs_1i, xs_1r, xs_1u, xs_1l, xs_s, xt_0, xt_1n, xt_1i, xt_1r, xt_1u, xt_1l, xt_s, xisref, xq0, Value.category, xcat, List.map_nil, List.map_cons, List.sum_nil, List.sum_cons, List.length_cons, List.length_nil, List.getElem?_cons_zero, List.getElem?_cons_succ, xmap_s, if_true, and_self, Nat.reduceAdd, Nat.reduceLT, Nat.reduceLeDiff, Nat.reduceEqDiff, Nat.lt_add_one, Nat.zero_le, Nat.le_refl, Nat.le_zero_eq, Nat.zero_lt_succ, xldc, kbm10, kbm9, kbm8, kbm7, kbm6, kbm5, kbm4, kbm3, kbm2, kb6, kb7, kb8, kb9, kb10, kb11, kb16, kb19, kb20, kb30, kb31, kb32, kb34, kb40, kb64, kb100, kb127, kim1, ki0, ki1, ki2, ki3, ki4, ki5, ks128, ks400, ks999, ks1000, ks4010])
        try simp (disch := omega) only [nx10, nx4, nx32, nxa0, nxa1, nxa2, nxa3, nxa4, nxa5, nxa6, nxa7, nxa8, nxa9, nxa10, nxs1, nxs10, nxss, nI_add, nI_clamp, mnar0, mnar1, Nat.add_sub_cancel]
        refine l_il rfl (nIn (by omega) (by omega)) ?_
        try dsimp only [Nat.reduceAdd]
        try simp (disch := omega) only [nx10, nx4, nx32, nxa0, nxa1, nxa2, nxa3, nxa4, nxa5, nxa6, nxa7, nxa8, nxa9, nxa10, nxs1, nxs10, nxss, nI_add, nI_clamp, mnar0, mnar1, Nat.add_sub_cancel]
        refine ok_cm (vs := [_, _]) rfl rfl rfl rfl (Nat.le_of_ble_eq_true rfl) (Nat.le_of_ble_eq_true rfl) (by show xcl0 2 8 _ _ = true; simp [xcl0, hI.1]) (by decide) hW (sp52 hW hI) ?_
        rintro _ h202 ⟨x206, rfl⟩ k203 al204
        dsimp only [Option.toList, List.cons_append, List.nil_append, Nat.reduceAdd]
        have hW := k203.1
        have z209 := al204 rfl
        try dsimp only at z209
        obtain ⟨B, hm⟩ := hm.kq k203 (by decide)
        have hI := hI.kp k203 (by decide)
        iterate 6 (refine ok_st rfl rfl ?_; simp only [okS_some, xst, xp0, xp1, xp2, xp3, xp4, xp5, xload, xstore, xget_0, xget_s, xs_0, xs_1n, xs_1i, xs_1r, xs_1u, xs_1l, xs_s, xt_0, xt_1n, xt_1i, xt_1r, xt_1u, xt_1l, xt_s, xisref, xq0, Value.category, xcat, List.map_nil, List.map_cons, List.sum_nil, List.sum_cons, List.length_cons, List.length_nil, List.getElem?_cons_zero, List.getElem?_cons_succ, xmap_s, if_true, and_self, Nat.reduceAdd, Nat.reduceLT, Nat.reduceLeDiff, Nat.reduceEqDiff, Nat.lt_add_one, Nat.zero_le, Nat.le_refl, Nat.le_zero_eq, Nat.zero_lt_succ, xldc, kbm10, kbm9, kbm8, kbm7, kbm6, kbm5, kbm4, kbm3, kbm2, kb6, kb7, kb8, kb9, kb10, kb11, kb16, kb19, kb20, kb30, kb31, kb32, kb34, kb40, kb64, kb100, kb127, kim1, ki0, ki1, ki2, ki3, ki4, ki5, ks128, ks400, ks999, ks1000, ks4010])
        try simp (disch := omega) only [nx10, nx4, nx32, nxa0, nxa1, nxa2, nxa3, nxa4, nxa5, nxa6, nxa7, nxa8, nxa9, nxa10, nxs1, nxs10, nxss, nI_add, nI_clamp, mnar0, mnar1, Nat.add_sub_cancel]
        refine l_il rfl (nIn (by omega) (by omega)) ?_
        try dsimp only [Nat.reduceAdd]
        try simp (disch := omega) only [nx10, nx4, nx32, nxa0, nxa1, nxa2, nxa3, nxa4, nxa5, nxa6, nxa7, nxa8, nxa9, nxa10, nxs1, nxs10, nxss, nI_add, nI_clamp, mnar0, mnar1, Nat.add_sub_cancel]
        refine ok_cm (vs := [_, _]) rfl rfl rfl rfl (Nat.le_of_ble_eq_true rfl) (Nat.le_of_ble_eq_true rfl) (by show xcl0 2 9 _ _ = true; simp [xcl0, hm.1]) (by decide) hW (sp104 hW hm hj) ?_
        rintro _ h210 ⟨⟨x214, rfl⟩, S1, A1, B1, M1, hm, hj, hs⟩ k211 al212
        dsimp only [Option.toList, List.cons_append, List.nil_append, Nat.reduceAdd]
        have hW := k211.1
        have z215 := al212 rfl
        try dsimp only at z215
        have hI := hI.kp k211 (by decide)
        have hS2 := hs.trans hS2
        iterate 3 (refine ok_st rfl rfl ?_; simp only [okS_some, xst, xp0, xp1, xp2, xp3, xp4, xp5, xload, xstore, xget_0, xget_s, xs_0, xs_1n, xs_1i, xs_1r, xs_1u, xs_1l, xs_s, xt_0, xt_1n, xt_1i, xt_1r, xt_1u, xt_1l, xt_s, xisref, xq0, Value.category, xcat, List.map_nil, List.map_cons, List.sum_nil, List.sum_cons, List.length_cons, List.length_nil, List.getElem?_cons_zero, List.getElem?_cons_succ, xmap_s, if_true, and_self, Nat.reduceAdd, Nat.reduceLT, Nat.reduceLeDiff, Nat.reduceEqDiff, Nat.lt_add_one, Nat.zero_le, Nat.le_refl, Nat.le_zero_eq, Nat.zero_lt_succ, xldc, kbm10, kbm9, kbm8, kbm7, kbm6, kbm5, kbm4, kbm3, kbm2, kb6, kb7, kb8, kb9, kb10, kb11, kb16, kb19, kb20, kb30, kb31, kb32, kb34, kb40, kb64, kb100, kb127, kim1, ki0, ki1, ki2, ki3, ki4, ki5, ks128, ks400, ks999, ks1000, ks4010])
        try simp (disch := omega) only [nx10, nx4, nx32, nxa0, nxa1, nxa2, nxa3, nxa4, nxa5, nxa6, nxa7, nxa8, nxa9, nxa10, nxs1, nxs10, nxss, nI_add, nI_clamp, mnar0, mnar1, Nat.add_sub_cancel]
        refine ok_st rfl rfl ?_
        simp only [okS_some, xst, xp0, xp1, xp2, xp3, xp4, xp5, xload, xstore, xget_0, xget_s, xs_0, xs_1n, xs_1i, xs_1r, xs_1u, xs_1l, xs_s, xt_0, xt_1n, xt_1i, xt_1r, xt_1u, xt_1l, xt_s, xisref, xq0, Value.category, xcat, List.map_nil, List.map_cons, List.sum_nil, List.sum_cons, List.length_cons, List.length_nil, List.getElem?_cons_zero, List.getElem?_cons_succ, xmap_s, if_true, and_self, Nat.reduceAdd, Nat.reduceLT, Nat.reduceLeDiff, Nat.reduceEqDiff, Nat.lt_add_one, Nat.zero_le, Nat.le_refl, Nat.le_zero_eq, Nat.zero_lt_succ, xldc, kbm10, kbm9, kbm8, kbm7, kbm6, kbm5, kbm4, kbm3, kbm2, kb6, kb7, kb8, kb9, kb10, kb11, kb16, kb19, kb20, kb30, kb31, kb32, kb34, kb40, kb64, kb100, kb127, kim1, ki0, ki1, ki2, ki3, ki4, ki5, ks128, ks400, ks999, ks1000, ks4010]
        rw [show nI (8 * i) + Int32.ofInt 8 = nI (8 * (i + 1)) from nI_add (8 * i) 8]
        exact ih (i := i + 1) hW ⟨_, _, _, _, _, _, _, hI.up (by omega), hm, hj, hS2, by omega, by omega⟩ (by omega) (by omega)
      · skip
        iterate 5 (refine ok_st rfl rfl ?_; simp only [okS_some, xst, xp0, xp1, xp2, xp3, xp4, xp5, xload, xstore, xget_0, xget_s, xs_0, xs_1n, xs_1i, xs_1r, xs_1u, xs_1l, xs_s, xt_0, xt_1n, xt_1i, xt_1r, xt_1u, xt_1l, xt_s, xisref, xq0, Value.category, xcat, List.map_nil, List.map_cons, List.sum_nil, List.sum_cons, List.length_cons, List.length_nil, List.getElem?_cons_zero, List.getElem?_cons_succ, xmap_s, if_true, and_self, Nat.reduceAdd, Nat.reduceLT, Nat.reduceLeDiff, Nat.reduceEqDiff, Nat.lt_add_one, Nat.zero_le, Nat.le_refl, Nat.le_zero_eq, Nat.zero_lt_succ, xldc, kbm10, kbm9, kbm8, kbm7, kbm6, kbm5, kbm4, kbm3, kbm2, kb6, kb7, kb8, kb9, kb10, kb11, kb16, kb19, kb20, kb30, kb31, kb32, kb34, kb40, kb64, kb100, kb127, kim1, ki0, ki1, ki2, ki3, ki4, ki5, ks128, ks400, ks999, ks1000, ks4010])
        try simp (disch := omega) only [nx10, nx4, nx32, nxa0, nxa1, nxa2, nxa3, nxa4, nxa5, nxa6, nxa7, nxa8, nxa9, nxa10, nxs1, nxs10, nxss, nI_add, nI_clamp, mnar0, mnar1, Nat.add_sub_cancel]
        refine l_il rfl (nIn (by omega) (by omega)) ?_
        try dsimp only [Nat.reduceAdd]
        try simp (disch := omega) only [nx10, nx4, nx32, nxa0, nxa1, nxa2, nxa3, nxa4, nxa5, nxa6, nxa7, nxa8, nxa9, nxa10, nxs1, nxs10, nxss, nI_add, nI_clamp, mnar0, mnar1, Nat.add_sub_cancel]
        iterate 4 (refine ok_st rfl rfl ?_; simp only [okS_some, xst, xp0, xp1, xp2, xp3, xp4, xp5, xload, xstore, xget_0, xget_s, xs_0, xs_1n, xs_1i, xs_1r, xs_1u, xs_1l, xs_s, xt_0, xt_1n, xt_1i, xt_1r, xt_1u, xt_1l, xt_s, xisref, xq0, Value.category, xcat, List.map_nil, List.map_cons, List.sum_nil, List.sum_cons, List.length_cons, List.length_nil, List.getElem?_cons_zero, List.getElem?_cons_succ, xmap_s, if_true, and_self, Nat.reduceAdd, Nat.reduceLT, Nat.reduceLeDiff, Nat.reduceEqDiff, Nat.lt_add_one, Nat.zero_le, Nat.le_refl, Nat.le_zero_eq, Nat.zero_lt_succ, xldc, kbm10, kbm9, kbm8, kbm7, kbm6, kbm5, kbm4, kbm3, kbm2, kb6, kb7, kb8, kb9, kb10, kb11, kb16, kb19, kb20, kb30, kb31, kb32, kb34, kb40, kb64, kb100, kb127, kim1, ki0, ki1, ki2, ki3, ki4, ki5, ks128, ks400, ks999, ks1000, ks4010])
        try simp (disch := omega) only [nx10, nx4, nx32, nxa0, nxa1, nxa2, nxa3, nxa4, nxa5, nxa6, nxa7, nxa8, nxa9, nxa10, nxs1, nxs10, nxss, nI_add, nI_clamp, mnar0, mnar1, Nat.add_sub_cancel]
        refine l_il rfl (nIn (by omega) (by omega)) ?_
        try dsimp only [Nat.reduceAdd]
        try simp (disch := omega) only [nx10, nx4, nx32, nxa0, nxa1, nxa2, nxa3, nxa4, nxa5, nxa6, nxa7, nxa8, nxa9, nxa10, nxs1, nxs10, nxss, nI_add, nI_clamp, mnar0, mnar1, Nat.add_sub_cancel]
        iterate 4 (refine ok_st rfl rfl ?_; simp only [okS_some, xst, xp0, xp1, xp2, xp3, xp4, xp5, xload, xstore, xget_0, xget_s, xs_0, xs_1n, xs_1i, xs_1r, xs_1u, xs_1l, xs_s, xt_0, xt_1n, xt_1i, xt_1r, xt_1u, xt_1l, xt_s, xisref, xq0, Value.category, xcat, List.map_nil, List.map_cons, List.sum_nil, List.sum_cons, List.length_cons, List.length_nil, List.getElem?_cons_zero, List.getElem?_cons_succ, xmap_s, if_true, and_self, Nat.reduceAdd, Nat.reduceLT, Nat.reduceLeDiff, Nat.reduceEqDiff, Nat.lt_add_one, Nat.zero_le, Nat.le_refl, Nat.le_zero_eq, Nat.zero_lt_succ, xldc, kbm10, kbm9, kbm8, kbm7, kbm6, kbm5, kbm4, kbm3, kbm2, kb6, kb7, kb8, kb9, kb10, kb11, kb16, kb19, kb20, kb30, kb31, kb32, kb34, kb40, kb64, kb100, kb127, kim1, ki0, ki1, ki2, ki3, ki4, ki5, ks128, ks400, ks999, ks1000, ks4010])
        try simp (disch := omega) only [nx10, nx4, nx32, nxa0, nxa1, nxa2, nxa3, nxa4, nxa5, nxa6, nxa7, nxa8, nxa9, nxa10, nxs1, nxs10, nxss, nI_add, nI_clamp, mnar0, mnar1, Nat.add_sub_cancel]
        refine l_il rfl (nIn (by omega) (by omega)) ?_
        try dsimp only [Nat.reduceAdd]
        try simp (disch := omega) only [nx10, nx4, nx32, nxa0, nxa1, nxa2, nxa3, nxa4, nxa5, nxa6, nxa7, nxa8, nxa9, nxa10, nxs1, nxs10, nxss, nI_add, nI_clamp, mnar0, mnar1, Nat.add_sub_cancel]
        iterate 4 (refine ok_st rfl rfl ?_; simp only [okS_some, xst, xp0, xp1, xp2, xp3, xp4, xp5, xload, xstore, xget_0, xget_s, xs_0, xs_1n, xs_1i, xs_1r, xs_1u, xs_1l, xs_s, xt_0, xt_1n, xt_1i, xt_1r, xt_1u, xt_1l, xt_s, xisref, xq0, Value.category, xcat, List.map_nil, List.map_cons, List.sum_nil, List.sum_cons, List.length_cons, List.length_nil, List.getElem?_cons_zero, List.getElem?_cons_succ, xmap_s, if_true, and_self, Nat.reduceAdd, Nat.reduceLT, Nat.reduceLeDiff, Nat.reduceEqDiff, Nat.lt_add_one, Nat.zero_le, Nat.le_refl, Nat.le_zero_eq, Nat.zero_lt_succ, xldc, kbm10, kbm9, kbm8, kbm7, kbm6, kbm5, kbm4, kbm3, kbm2, kb6, kb7, kb8, kb9, kb10, kb11, kb16, kb19, kb20, kb30, kb31, kb32, kb34, kb40, kb64, kb100, kb127, kim1, ki0, ki1, ki2, ki3, ki4, ki5, ks128, ks400, ks999, ks1000, ks4010])
        try simp (disch := omega) only [nx10, nx4, nx32, nxa0, nxa1, nxa2, nxa3, nxa4, nxa5, nxa6, nxa7, nxa8, nxa9, nxa10, nxs1, nxs10, nxss, nI_add, nI_clamp, mnar0, mnar1, Nat.add_sub_cancel]
        refine l_il rfl (nIn (by omega) (by omega)) ?_
        try dsimp only [Nat.reduceAdd]
        try simp (disch := omega) only [nx10, nx4, nx32, nxa0, nxa1, nxa2, nxa3, nxa4, nxa5, nxa6, nxa7, nxa8, nxa9, nxa10, nxs1, nxs10, nxss, nI_add, nI_clamp, mnar0, mnar1, Nat.add_sub_cancel]
        refine ok_cm (vs := [_, _, _, _, _]) rfl rfl rfl rfl (Nat.le_of_ble_eq_true rfl) (Nat.le_of_ble_eq_true rfl) (by show xcl0 2 8 _ _ = true; simp [xcl0, hI.1]) (by decide) hW (sp53 hW hI) ?_
        rintro _ h216 ⟨x220, rfl⟩ k217 al218
        dsimp only [Option.toList, List.cons_append, List.nil_append, Nat.reduceAdd]
        have hW := k217.1
        have z223 := al218 rfl
        try dsimp only at z223
        obtain ⟨B, hm⟩ := hm.kq k217 (by decide)
        have hI := hI.kp k217 (by decide)
        iterate 6 (refine ok_st rfl rfl ?_; simp only [okS_some, xst, xp0, xp1, xp2, xp3, xp4, xp5, xload, xstore, xget_0, xget_s, xs_0, xs_1n, xs_1i, xs_1r, xs_1u, xs_1l, xs_s, xt_0, xt_1n, xt_1i, xt_1r, xt_1u, xt_1l, xt_s, xisref, xq0, Value.category, xcat, List.map_nil, List.map_cons, List.sum_nil, List.sum_cons, List.length_cons, List.length_nil, List.getElem?_cons_zero, List.getElem?_cons_succ, xmap_s, if_true, and_self, Nat.reduceAdd, Nat.reduceLT, Nat.reduceLeDiff, Nat.reduceEqDiff, Nat.lt_add_one, Nat.zero_le, Nat.le_refl, Nat.le_zero_eq, Nat.zero_lt_succ, xldc, kbm10, kbm9, kbm8, kbm7, kbm6, kbm5, kbm4, kbm3, kbm2, kb6, kb7, kb8, kb9, kb10, kb11, kb16, kb19, kb20, kb30, kb31, kb32, kb34, kb40, kb64, kb100, kb127, kim1, ki0, ki1, ki2, ki3, ki4, ki5, ks128, ks400, ks999, ks1000, ks4010])
        try simp (disch := omega) only [nx10, nx4, nx32, nxa0, nxa1, nxa2, nxa3, nxa4, nxa5, nxa6, nxa7, nxa8, nxa9, nxa10, nxs1, nxs10, nxss, nI_add, nI_clamp, mnar0, mnar1, Nat.add_sub_cancel]
        refine l_il rfl (nIn (by omega) (by omega)) ?_
        try dsimp only [Nat.reduceAdd]
        try simp (disch := omega) only [nx10, nx4, nx32, nxa0, nxa1, nxa2, nxa3, nxa4, nxa5, nxa6, nxa7, nxa8, nxa9, nxa10, nxs1, nxs10, nxss, nI_add, nI_clamp, mnar0, mnar1, Nat.add_sub_cancel]
        iterate 4 (refine ok_st rfl rfl ?_; simp only [okS_some, xst, xp0, xp1, xp2, xp3, xp4, xp5, xload, xstore, xget_0, xget_s, xs_0, xs_1n, xs_1i, xs_1r, xs_1u, xs_1l, xs_s, xt_0, xt_1n, xt_1i, xt_1r, xt_1u, xt_1l, xt_s, xisref, xq0, Value.category, xcat, List.map_nil, List.map_cons, List.sum_nil, List.sum_cons, List.length_cons, List.length_nil, List.getElem?_cons_zero, List.getElem?_cons_succ, xmap_s, if_true, and_self, Nat.reduceAdd, Nat.reduceLT, Nat.reduceLeDiff, Nat.reduceEqDiff, Nat.lt_add_one, Nat.zero_le, Nat.le_refl, Nat.le_zero_eq, Nat.zero_lt_succ, xldc, kbm10, kbm9, kbm8, kbm7, kbm6, kbm5, kbm4, kbm3, kbm2, kb6, kb7, kb8, kb9, kb10, kb11, kb16, kb19, kb20, kb30, kb31, kb32, kb34, kb40, kb64, kb100, kb127, kim1, ki0, ki1, ki2, ki3, ki4, ki5, ks128, ks400, ks999, ks1000, ks4010])
        try simp (disch := omega) only [nx10, nx4, nx32, nxa0, nxa1, nxa2, nxa3, nxa4, nxa5, nxa6, nxa7, nxa8, nxa9, nxa10, nxs1, nxs10, nxss, nI_add, nI_clamp, mnar0, mnar1, Nat.add_sub_cancel]
        refine l_il rfl (nIn (by omega) (by omega)) ?_
        try dsimp only [Nat.reduceAdd]
        try simp (disch := omega) only [nx10, nx4, nx32, nxa0, nxa1, nxa2, nxa3, nxa4, nxa5, nxa6, nxa7, nxa8, nxa9, nxa10, nxs1, nxs10, nxss, nI_add, nI_clamp, mnar0, mnar1, Nat.add_sub_cancel]
        iterate 4 (refine ok_st rfl rfl ?_; simp only [okS_some, xst, xp0, xp1, xp2, xp3, xp4, xp5, xload, xstore, xget_0, xget_s, xs_0, xs_1n, xs_1i, xs_1r, xs_1u, xs_1l, xs_s, xt_0, xt_1n, xt_1i, xt_1r, xt_1u, xt_1l, xt_s, xisref, xq0, Value.category, xcat, List.map_nil, List.map_cons, List.sum_nil, List.sum_cons, List.length_cons, List.length_nil, List.getElem?_cons_zero, List.getElem?_cons_succ, xmap_s, if_true, and_self, Nat.reduceAdd, Nat.reduceLT, Nat.reduceLeDiff, Nat.reduceEqDiff, Nat.lt_add_one, Nat.zero_le, Nat.le_refl, Nat.le_zero_eq, Nat.zero_lt_succ, xldc, kbm10, kbm9, kbm8, kbm7, kbm6, kbm5, kbm4, kbm3, kbm2, kb6, kb7, kb8, kb9, kb10, kb11, kb16, kb19, kb20, kb30, kb31, kb32, kb34, kb40, kb64, kb100, kb127, kim1, ki0, ki1, ki2, ki3, ki4, ki5, ks128, ks400, ks999, ks1000, ks4010])
        try simp (disch := omega) only [nx10, nx4, nx32, nxa0, nxa1, nxa2, nxa3, nxa4, nxa5, nxa6, nxa7, nxa8, nxa9, nxa10, nxs1, nxs10, nxss, nI_add, nI_clamp, mnar0, mnar1, Nat.add_sub_cancel]
        refine l_il rfl (nIn (by omega) (by omega)) ?_
        try dsimp only [Nat.reduceAdd]
        try simp (disch := omega) only [nx10, nx4, nx32, nxa0, nxa1, nxa2, nxa3, nxa4, nxa5, nxa6, nxa7, nxa8, nxa9, nxa10, nxs1, nxs10, nxss, nI_add, nI_clamp, mnar0, mnar1, Nat.add_sub_cancel]
        iterate 4 (refine ok_st rfl rfl ?_; simp only [okS_some, xst, xp0, xp1, xp2, xp3, xp4, xp5, xload, xstore, xget_0, xget_s, xs_0, xs_1n, xs_1i, xs_1r, xs_1u, xs_1l, xs_s, xt_0, xt_1n, xt_1i, xt_1r, xt_1u, xt_1l, xt_s, xisref, xq0, Value.category, xcat, List.map_nil, List.map_cons, List.sum_nil, List.sum_cons, List.length_cons, List.length_nil, List.getElem?_cons_zero, List.getElem?_cons_succ, xmap_s, if_true, and_self, Nat.reduceAdd, Nat.reduceLT, Nat.reduceLeDiff, Nat.reduceEqDiff, Nat.lt_add_one, Nat.zero_le, Nat.le_refl, Nat.le_zero_eq, Nat.zero_lt_succ, xldc, kbm10, kbm9, kbm8, kbm7, kbm6, kbm5, kbm4, kbm3, kbm2, kb6, kb7, kb8, kb9, kb10, kb11, kb16, kb19, kb20, kb30, kb31, kb32, kb34, kb40, kb64, kb100, kb127, kim1, ki0, ki1, ki2, ki3, ki4, ki5, ks128, ks400, ks999, ks1000, ks4010])
        try simp (disch := omega) only [nx10, nx4, nx32, nxa0, nxa1, nxa2, nxa3, nxa4, nxa5, nxa6, nxa7, nxa8, nxa9, nxa10, nxs1, nxs10, nxss, nI_add, nI_clamp, mnar0, mnar1, Nat.add_sub_cancel]
        refine l_il rfl (nIn (by omega) (by omega)) ?_
        try dsimp only [Nat.reduceAdd]
        try simp (disch := omega) only [nx10, nx4, nx32, nxa0, nxa1, nxa2, nxa3, nxa4, nxa5, nxa6, nxa7, nxa8, nxa9, nxa10, nxs1, nxs10, nxss, nI_add, nI_clamp, mnar0, mnar1, Nat.add_sub_cancel]
        refine ok_cm (vs := [_, _, _, _, _]) rfl rfl rfl rfl (Nat.le_of_ble_eq_true rfl) (Nat.le_of_ble_eq_true rfl) (by show xcl0 2 9 _ _ = true; simp [xcl0, hm.1]) (by decide) hW (sp106 hW hm hj) ?_
        rintro _ h224 ⟨⟨x228, rfl⟩, S1, A1, B1, M1, hm, hj, hs⟩ k225 al226
        dsimp only [Option.toList, List.cons_append, List.nil_append, Nat.reduceAdd]
        have hW := k225.1
        have z229 := al226 rfl
        try dsimp only at z229
        have hI := hI.kp k225 (by decide)
        have hS2 := hs.trans hS2
        iterate 3 (refine ok_st rfl rfl ?_; simp only [okS_some, xst, xp0, xp1, xp2, xp3, xp4, xp5, xload, xstore, xget_0, xget_s, xs_0, xs_1n, xs_1i, xs_1r, xs_1u, xs_1l, xs_s, xt_0, xt_1n, xt_1i, xt_1r, xt_1u, xt_1l, xt_s, xisref, xq0, Value.category, xcat, List.map_nil, List.map_cons, List.sum_nil, List.sum_cons, List.length_cons, List.length_nil, List.getElem?_cons_zero, List.getElem?_cons_succ, xmap_s, if_true, and_self, Nat.reduceAdd, Nat.reduceLT, Nat.reduceLeDiff, Nat.reduceEqDiff, Nat.lt_add_one, Nat.zero_le, Nat.le_refl, Nat.le_zero_eq, Nat.zero_lt_succ, xldc, kbm10, kbm9, kbm8, kbm7, kbm6, kbm5, kbm4, kbm3, kbm2, kb6, kb7, kb8, kb9, kb10, kb11, kb16, kb19, kb20, kb30, kb31, kb32, kb34, kb40, kb64, kb100, kb127, kim1, ki0, ki1, ki2, ki3, ki4, ki5, ks128, ks400, ks999, ks1000, ks4010])
        try simp (disch := omega) only [nx10, nx4, nx32, nxa0, nxa1, nxa2, nxa3, nxa4, nxa5, nxa6, nxa7, nxa8, nxa9, nxa10, nxs1, nxs10, nxss, nI_add, nI_clamp, mnar0, mnar1, Nat.add_sub_cancel]
        refine ok_st rfl rfl ?_
        simp only [okS_some, xst, xp0, xp1, xp2, xp3, xp4, xp5, xload, xstore, xget_0, xget_s, xs_0, xs_1n, xs_1i, xs_1r, xs_1u, xs_1l, xs_s, xt_0, xt_1n, xt_1i, xt_1r, xt_1u, xt_1l, xt_s, xisref, xq0, Value.category, xcat, List.map_nil, List.map_cons, List.sum_nil, List.sum_cons, List.length_cons, List.length_nil, List.getElem?_cons_zero, List.getElem?_cons_succ, xmap_s, if_true, and_self, Nat.reduceAdd, Nat.reduceLT, Nat.reduceLeDiff, Nat.reduceEqDiff, Nat.lt_add_one, Nat.zero_le, Nat.le_refl, Nat.le_zero_eq, Nat.zero_lt_succ, xldc, kbm10, kbm9, kbm8, kbm7, kbm6, kbm5, kbm4, kbm3, kbm2, kb6, kb7, kb8, kb9, kb10, kb11, kb16, kb19, kb20, kb30, kb31, kb32, kb34, kb40, kb64, kb100, kb127, kim1, ki0, ki1, ki2, ki3, ki4, ki5, ks128, ks400, ks999, ks1000, ks4010]
        rw [show nI (8 * i) + Int32.ofInt 8 = nI (8 * (i + 1)) from nI_add (8 * i) 8]
        exact ih (i := i + 1) hW ⟨_, _, _, _, _, _, _, hI.up (by omega), hm, hj, hS2, by omega, by omega⟩ (by omega) (by omega)
      · skip
        iterate 5 (refine ok_st rfl rfl ?_; simp only [okS_some, xst, xp0, xp1, xp2, xp3, xp4, xp5, xload, xstore, xget_0, xget_s, xs_0, xs_1n, xs_1i, xs_1r, xs_1u, xs_1l, xs_s, xt_0, xt_1n, xt_1i, xt_1r, xt_1u, xt_1l, xt_s, xisref, xq0, Value.category, xcat, List.map_nil, List.map_cons, List.sum_nil, List.sum_cons, List.length_cons, List.length_nil, List.getElem?_cons_zero, List.getElem?_cons_succ, xmap_s, if_true, and_self, Nat.reduceAdd, Nat.reduceLT, Nat.reduceLeDiff, Nat.reduceEqDiff, Nat.lt_add_one, Nat.zero_le, Nat.le_refl, Nat.le_zero_eq, Nat.zero_lt_succ, xldc, kbm10, kbm9, kbm8, kbm7, kbm6, kbm5, kbm4, kbm3, kbm2, kb6, kb7, kb8, kb9, kb10, kb11, kb16, kb19, kb20, kb30, kb31, kb32, kb34, kb40, kb64, kb100, kb127, kim1, ki0, ki1, ki2, ki3, ki4, ki5, ks128, ks400, ks999, ks1000, ks4010])
        try simp (disch := omega) only [nx10, nx4, nx32, nxa0, nxa1, nxa2, nxa3, nxa4, nxa5, nxa6, nxa7, nxa8, nxa9, nxa10, nxs1, nxs10, nxss, nI_add, nI_clamp, mnar0, mnar1, Nat.add_sub_cancel]
        refine l_il rfl (nIn (by omega) (by omega)) ?_
        try dsimp only [Nat.reduceAdd]
        try simp (disch := omega) only [nx10, nx4, nx32, nxa0, nxa1, nxa2, nxa3, nxa4, nxa5, nxa6, nxa7, nxa8, nxa9, nxa10, nxs1, nxs10, nxss, nI_add, nI_clamp, mnar0, mnar1, Nat.add_sub_cancel]
        iterate 4 (refine ok_st rfl rfl ?_; simp only [okS_some, xst, xp0, xp1, xp2, xp3, xp4, xp5, xload, xstore, xget_0, xget_s, xs_0, xs_1n, xs_1i, xs_1r, xs_1u, xs_1l, xs_s, xt_0, xt_1n, xt_1i, xt_1r, xt_1u, xt_1l, xt_s, xisref, xq0, Value.category, xcat, List.map_nil, List.map_cons, List.sum_nil, List.sum_cons, List.length_cons, List.length_nil, List.getElem?_cons_zero, List.getElem?_cons_succ, xmap_s, if_true, and_self, Nat.reduceAdd, Nat.reduceLT, Nat.reduceLeDiff, Nat.reduceEqDiff, Nat.lt_add_one, Nat.zero_le, Nat.le_refl, Nat.le_zero_eq, Nat.zero_lt_succ, xldc, kbm10, kbm9, kbm8, kbm7, kbm6, kbm5, kbm4, kbm3, kbm2, kb6, kb7, kb8, kb9, kb10, kb11, kb16, kb19, kb20, kb30, kb31, kb32, kb34, kb40, kb64, kb100, kb127, kim1, ki0, ki1, ki2, ki3, ki4, ki5, ks128, ks400, ks999, ks1000, ks4010])
        try simp (disch := omega) only [nx10, nx4, nx32, nxa0, nxa1, nxa2, nxa3, nxa4, nxa5, nxa6, nxa7, nxa8, nxa9, nxa10, nxs1, nxs10, nxss, nI_add, nI_clamp, mnar0, mnar1, Nat.add_sub_cancel]
        refine l_il rfl (nIn (by omega) (by omega)) ?_
        try dsimp only [Nat.reduceAdd]
        try simp (disch := omega) only [nx10, nx4, nx32, nxa0, nxa1, nxa2, nxa3, nxa4, nxa5, nxa6, nxa7, nxa8, nxa9, nxa10, nxs1, nxs10, nxss, nI_add, nI_clamp, mnar0, mnar1, Nat.add_sub_cancel]
        iterate 4 (refine ok_st rfl rfl ?_; simp only [okS_some, xst, xp0, xp1, xp2, xp3, xp4, xp5, xload, xstore, xget_0, xget_s, xs_0, xs_1n, xs_1i, xs_1r, xs_1u, xs_1l, xs_s, xt_0, xt_1n, xt_1i, xt_1r, xt_1u, xt_1l, xt_s, xisref, xq0, Value.category, xcat, List.map_nil, List.map_cons, List.sum_nil, List.sum_cons, List.length_cons, List.length_nil, List.getElem?_cons_zero, List.getElem?_cons_succ, xmap_s, if_true, and_self, Nat.reduceAdd, Nat.reduceLT, Nat.reduceLeDiff, Nat.reduceEqDiff, Nat.lt_add_one, Nat.zero_le, Nat.le_refl, Nat.le_zero_eq, Nat.zero_lt_succ, xldc, kbm10, kbm9, kbm8, kbm7, kbm6, kbm5, kbm4, kbm3, kbm2, kb6, kb7, kb8, kb9, kb10, kb11, kb16, kb19, kb20, kb30, kb31, kb32, kb34, kb40, kb64, kb100, kb127, kim1, ki0, ki1, ki2, ki3, ki4, ki5, ks128, ks400, ks999, ks1000, ks4010])
        try simp (disch := omega) only [nx10, nx4, nx32, nxa0, nxa1, nxa2, nxa3, nxa4, nxa5, nxa6, nxa7, nxa8, nxa9, nxa10, nxs1, nxs10, nxss, nI_add, nI_clamp, mnar0, mnar1, Nat.add_sub_cancel]
        refine l_il rfl (nIn (by omega) (by omega)) ?_
        try dsimp only [Nat.reduceAdd]
        try simp (disch := omega) only [nx10, nx4, nx32, nxa0, nxa1, nxa2, nxa3, nxa4, nxa5, nxa6, nxa7, nxa8, nxa9, nxa10, nxs1, nxs10, nxss, nI_add, nI_clamp, mnar0, mnar1, Nat.add_sub_cancel]
        refine ok_cm (vs := [_, _, _, _]) rfl rfl rfl rfl (Nat.le_of_ble_eq_true rfl) (Nat.le_of_ble_eq_true rfl) (by show xcl0 2 8 _ _ = true; simp [xcl0, hI.1]) (by decide) hW (sp54 hW hI) ?_
        rintro _ h230 ⟨x234, rfl⟩ k231 al232
        dsimp only [Option.toList, List.cons_append, List.nil_append, Nat.reduceAdd]
        have hW := k231.1
        have z237 := al232 rfl
        try dsimp only at z237
        obtain ⟨B, hm⟩ := hm.kq k231 (by decide)
        have hI := hI.kp k231 (by decide)
        iterate 6 (refine ok_st rfl rfl ?_; simp only [okS_some, xst, xp0, xp1, xp2, xp3, xp4, xp5, xload, xstore, xget_0, xget_s, xs_0, xs_1n, xs_1i, xs_1r, xs_1u, xs_1l, xs_s, xt_0, xt_1n, xt_1i, xt_1r, xt_1u, xt_1l, xt_s, xisref, xq0, Value.category, xcat, List.map_nil, List.map_cons, List.sum_nil, List.sum_cons, List.length_cons, List.length_nil, List.getElem?_cons_zero, List.getElem?_cons_succ, xmap_s, if_true, and_self, Nat.reduceAdd, Nat.reduceLT, Nat.reduceLeDiff, Nat.reduceEqDiff, Nat.lt_add_one, Nat.zero_le, Nat.le_refl, Nat.le_zero_eq, Nat.zero_lt_succ, xldc, kbm10, kbm9, kbm8, kbm7, kbm6, kbm5, kbm4, kbm3, kbm2, kb6, kb7, kb8, kb9, kb10, kb11, kb16, kb19, kb20, kb30, kb31, kb32, kb34, kb40, kb64, kb100, kb127, kim1, ki0, ki1, ki2, ki3, ki4, ki5, ks128, ks400, ks999, ks1000, ks4010])
        try simp (disch := omega) only [nx10, nx4, nx32, nxa0, nxa1, nxa2, nxa3, nxa4, nxa5, nxa6, nxa7, nxa8, nxa9, nxa10, nxs1, nxs10, nxss, nI_add, nI_clamp, mnar0, mnar1, Nat.add_sub_cancel]
        refine l_il rfl (nIn (by omega) (by omega)) ?_
        try dsimp only [Nat.reduceAdd]
        try simp (disch := omega) only [nx10, nx4, nx32, nxa0, nxa1, nxa2, nxa3, nxa4, nxa5, nxa6, nxa7, nxa8, nxa9, nxa10, nxs1, nxs10, nxss, nI_add, nI_clamp, mnar0, mnar1, Nat.add_sub_cancel]
        iterate 4 (refine ok_st rfl rfl ?_; simp only [okS_some, xst, xp0, xp1, xp2, xp3, xp4, xp5, xload, xstore, xget_0, xget_s, xs_0, xs_1n, xs_1i, xs_1r, xs_1u, xs_1l, xs_s, xt_0, xt_1n, xt_1i, xt_1r, xt_1u, xt_1l, xt_s, xisref, xq0, Value.category, xcat, List.map_nil, List.map_cons, List.sum_nil, List.sum_cons, List.length_cons, List.length_nil, List.getElem?_cons_zero, List.getElem?_cons_succ, xmap_s, if_true, and_self, Nat.reduceAdd, Nat.reduceLT, Nat.reduceLeDiff, Nat.reduceEqDiff, Nat.lt_add_one, Nat.zero_le, Nat.le_refl, Nat.le_zero_eq, Nat.zero_lt_succ, xldc, kbm10, kbm9, kbm8, kbm7, kbm6, kbm5, kbm4, kbm3, kbm2, kb6, kb7, kb8, kb9, kb10, kb11, kb16, kb19, kb20, kb30, kb31, kb32, kb34, kb40, kb64, kb100, kb127, kim1, ki0, ki1, ki2, ki3, ki4, ki5, ks128, ks400, ks999, ks1000, ks4010])
        try simp (disch := omega) only [nx10, nx4, nx32, nxa0, nxa1, nxa2, nxa3, nxa4, nxa5, nxa6, nxa7, nxa8, nxa9, nxa10, nxs1, nxs10, nxss, nI_add, nI_clamp, mnar0, mnar1, Nat.add_sub_cancel]
        refine l_il rfl (nIn (by omega) (by omega)) ?_
        try dsimp only [Nat.reduceAdd]
        try simp (disch := omega) only [nx10, nx4, nx32, nxa0, nxa1, nxa2, nxa3, nxa4, nxa5, nxa6, nxa7, nxa8, nxa9, nxa10, nxs1, nxs10, nxss, nI_add, nI_clamp, mnar0, mnar1, Nat.add_sub_cancel]
        iterate 4 (refine ok_st rfl rfl ?_; simp only [okS_some, xst, xp0, xp1, xp2, xp3, xp4, xp5, xload, xstore, xget_0, xget_s, xs_0, xs_1n, xs_1i, xs_1r, xs_1u, xs_1l, xs_s, xt_0, xt_1n, xt_1i, xt_1r, xt_1u, xt_1l, xt_s, xisref, xq0, Value.category, xcat, List.map_nil, List.map_cons, List.sum_nil, List.sum_cons, List.length_cons, List.length_nil, List.getElem?_cons_zero, List.getElem?_cons_succ, xmap_s, if_true, and_self, Nat.reduceAdd, Nat.reduceLT, Nat.reduceLeDiff, Nat.reduceEqDiff, Nat.lt_add_one, Nat.zero_le, Nat.le_refl, Nat.le_zero_eq, Nat.zero_lt_succ, xldc, kbm10, kbm9, kbm8, kbm7, kbm6, kbm5, kbm4, kbm3, kbm2, kb6, kb7, kb8, kb9, kb10, kb11, kb16, kb19, kb20, kb30, kb31, kb32, kb34, kb40, kb64, kb100, kb127, kim1, ki0, ki1, ki2, ki3, ki4, ki5, ks128, ks400, ks999, ks1000, ks4010])
        try simp (disch := omega) only [nx10, nx4, nx32, nxa0, nxa1, nxa2, nxa3, nxa4, nxa5, nxa6, nxa7, nxa8, nxa9, nxa10, nxs1, nxs10, nxss, nI_add, nI_clamp, mnar0, mnar1, Nat.add_sub_cancel]
        refine l_il rfl (nIn (by omega) (by omega)) ?_
        try dsimp only [Nat.reduceAdd]
        try simp (disch := omega) only [nx10, nx4, nx32, nxa0, nxa1, nxa2, nxa3, nxa4, nxa5, nxa6, nxa7, nxa8, nxa9, nxa10, nxs1, nxs10, nxss, nI_add, nI_clamp, mnar0, mnar1, Nat.add_sub_cancel]
        refine ok_cm (vs := [_, _, _, _]) rfl rfl rfl rfl (Nat.le_of_ble_eq_true rfl) (Nat.le_of_ble_eq_true rfl) (by show xcl0 2 9 _ _ = true; simp [xcl0, hm.1]) (by decide) hW (sp107 hW hm hj) ?_
        rintro _ h238 ⟨⟨x242, rfl⟩, S1, A1, B1, M1, hm, hj, hs⟩ k239 al240
        dsimp only [Option.toList, List.cons_append, List.nil_append, Nat.reduceAdd]
        have hW := k239.1
        have z243 := al240 rfl
        try dsimp only at z243
        have hI := hI.kp k239 (by decide)
        have hS2 := hs.trans hS2
        iterate 3 (refine ok_st rfl rfl ?_; simp only [okS_some, xst, xp0, xp1, xp2, xp3, xp4, xp5, xload, xstore, xget_0, xget_s, xs_0, xs_1n, xs_1i, xs_1r, xs_1u, xs_1l, xs_s, xt_0, xt_1n, xt_1i, xt_1r, xt_1u, xt_1l, xt_s, xisref, xq0, Value.category, xcat, List.map_nil, List.map_cons, List.sum_nil, List.sum_cons, List.length_cons, List.length_nil, List.getElem?_cons_zero, List.getElem?_cons_succ, xmap_s, if_true, and_self, Nat.reduceAdd, Nat.reduceLT, Nat.reduceLeDiff, Nat.reduceEqDiff, Nat.lt_add_one, Nat.zero_le, Nat.le_refl, Nat.le_zero_eq, Nat.zero_lt_succ, xldc, kbm10, kbm9, kbm8, kbm7, kbm6, kbm5, kbm4, kbm3, kbm2, kb6, kb7, kb8, kb9, kb10, kb11, kb16, kb19, kb20, kb30, kb31, kb32, kb34, kb40, kb64, kb100, kb127, kim1, ki0, ki1, ki2, ki3, ki4, ki5, ks128, ks400, ks999, ks1000, ks4010])
        try simp (disch := omega) only [nx10, nx4, nx32, nxa0, nxa1, nxa2, nxa3, nxa4, nxa5, nxa6, nxa7, nxa8, nxa9, nxa10, nxs1, nxs10, nxss, nI_add, nI_clamp, mnar0, mnar1, Nat.add_sub_cancel]
        refine ok_st rfl rfl ?_
        simp only [okS_some, xst, xp0, xp1, xp2, xp3, xp4, xp5, xload, xstore, xget_0, xget_s, xs_0, xs_1n, xs_1i, xs_1r, xs_1u, xs_1l, xs_s, xt_0, xt_1n, xt_1i, xt_1r, xt_1u, xt_1l, xt_s, xisref, xq0, Value.category, xcat, List.map_nil, List.map_cons, List.sum_nil, List.sum_cons, List.length_cons, List.length_nil, List.getElem?_cons_zero, List.getElem?_cons_succ, xmap_s, if_true, and_self, Nat.reduceAdd, Nat.reduceLT, Nat.reduceLeDiff, Nat.reduceEqDiff, Nat.lt_add_one, Nat.zero_le, Nat.le_refl, Nat.le_zero_eq, Nat.zero_lt_succ, xldc, kbm10, kbm9, kbm8, kbm7, kbm6, kbm5, kbm4, kbm3, kbm2, kb6, kb7, kb8, kb9, kb10, kb11, kb16, kb19, kb20, kb30, kb31, kb32, kb34, kb40, kb64, kb100, kb127, kim1, ki0, ki1, ki2, ki3, ki4, ki5, ks128, ks400, ks999, ks1000, ks4010]
        rw [show nI (8 * i) + Int32.ofInt 8 = nI (8 * (i + 1)) from nI_add (8 * i) 8]
        exact ih (i := i + 1) hW ⟨_, _, _, _, _, _, _, hI.up (by omega), hm, hj, hS2, by omega, by omega⟩ (by omega) (by omega)
      · skip
        iterate 5 (refine ok_st rfl rfl ?_; simp only [okS_some, xst, xp0, xp1, xp2, xp3, xp4, xp5, xload, xstore, xget_0, xget_s, xs_0, xs_1n, xs_1i, xs_1r, xs_1u, xs_1l, xs_s, xt_0, xt_1n, xt_1i, xt_1r, xt_1u, xt_1l, xt_s, xisref, xq0, Value.category, xcat, List.map_nil, List.map_cons, List.sum_nil, List.sum_cons, List.length_cons, List.length_nil, List.getElem?_cons_zero, List.getElem?_cons_succ, xmap_s, if_true, and_self, Nat.reduceAdd, Nat.reduceLT, Nat.reduceLeDiff, Nat.reduceEqDiff, Nat.lt_add_one, Nat.zero_le, Nat.le_refl, Nat.le_zero_eq, Nat.zero_lt_succ, xldc, kbm10, kbm9, kbm8, kbm7, kbm6, kbm5, kbm4, kbm3, kbm2, kb6, kb7, kb8, kb9, kb10, kb11, kb16, kb19, kb20, kb30, kb31, kb32, kb34, kb40, kb64, kb100, kb127, kim1, ki0, ki1, ki2, ki3, ki4, ki5, ks128, ks400, ks999, ks1000, ks4010])
        try simp (disch := omega) only [nx10, nx4, nx32, nxa0, nxa1, nxa2, nxa3, nxa4, nxa5, nxa6, nxa7, nxa8, nxa9, nxa10, nxs1, nxs10, nxss, nI_add, nI_clamp, mnar0, mnar1, Nat.add_sub_cancel]
        refine l_il rfl (nIn (by omega) (by omega)) ?_
        try dsimp only [Nat.reduceAdd]
        try simp (disch := omega) only [nx10, nx4, nx32, nxa0, nxa1, nxa2, nxa3, nxa4, nxa5, nxa6, nxa7, nxa8, nxa9, nxa10, nxs1, nxs10, nxss, nI_add, nI_clamp, mnar0, mnar1, Nat.add_sub_cancel]
        iterate 4 (refine ok_st rfl rfl ?_; simp only [okS_some, xst, xp0, xp1, xp2, xp3, xp4, xp5, xload, xstore, xget_0, xget_s, xs_0, xs_1n, xs_1i, xs_1r, xs_1u, xs_1l, xs_s, xt_0, xt_1n, xt_1i, xt_1r, xt_1u, xt_1l, xt_s, xisref, xq0, Value.category, xcat, List.map_nil, List.map_cons, List.sum_nil, List.sum_cons, List.length_cons, List.length_nil, List.getElem?_cons_zero, List.getElem?_cons_succ, xmap_s, if_true, and_self, Nat.reduceAdd, Nat.reduceLT, Nat.reduceLeDiff, Nat.reduceEqDiff, Nat.lt_add_one, Nat.zero_le, Nat.le_refl, Nat.le_zero_eq, Nat.zero_lt_succ, xldc, kbm10, kbm9, kbm8, kbm7, kbm6, kbm5, kbm4, kbm3, kbm2, kb6, kb7, kb8, kb9, kb10, kb11, kb16, kb19, kb20, kb30, kb31, kb32, kb34, kb40, kb64, kb100, kb127, kim1, ki0, ki1, ki2, ki3, ki4, ki5, ks128, ks400, ks999, ks1000, ks4010])
        try simp (disch := omega) only [nx10, nx4, nx32, nxa0, nxa1, nxa2, nxa3, nxa4, nxa5, nxa6, nxa7, nxa8, nxa9, nxa10, nxs1, nxs10, nxss, nI_add, nI_clamp, mnar0, mnar1, Nat.add_sub_cancel]
        refine l_il rfl (nIn (by omega) (by omega)) ?_
        try dsimp only [Nat.reduceAdd]
        try simp (disch := omega) only [nx10, nx4, nx32, nxa0, nxa1, nxa2, nxa3, nxa4, nxa5, nxa6, nxa7, nxa8, nxa9, nxa10, nxs1, nxs10, nxss, nI_add, nI_clamp, mnar0, mnar1, Nat.add_sub_cancel]
        refine ok_cm (vs := [_, _, _]) rfl rfl rfl rfl (Nat.le_of_ble_eq_true rfl) (Nat.le_of_ble_eq_true rfl) (by show xcl0 2 8 _ _ = true; simp [xcl0, hI.1]) (by decide) hW (ex55 hW hI) ?_
        rintro _ h244 ⟨⟨rfl, hI, n1⟩ | ⟨rfl, hI, n2, n3, n4⟩, z1, z2⟩ k245 al246
        · dsimp only [Option.toList, List.cons_append, List.nil_append, Nat.reduceAdd]
          try dsimp only at z1 z2
          have hW := k245.1
          obtain ⟨B, hm⟩ := hm.kq k245 (by decide)
          iterate 6 (refine ok_st rfl rfl ?_; simp only [okS_some, xst, xp0, xp1, xp2, xp3, xp4, xp5, xload, xstore, xget_0, xget_s, xs_0, xs_1n, xs_1i, xs_1r, xs_1u, xs_1l, xs_s, xt_0, xt_1n, xt_1i, xt_1r, xt_1u, xt_1l, xt_s, xisref, xq0, Value.category, xcat, List.map_nil, List.map_cons, List.sum_nil, List.sum_cons, List.length_cons, List.length_nil, List.getElem?_cons_zero, List.getElem?_cons_succ, xmap_s, if_true, and_self, Nat.reduceAdd, Nat.reduceLT, Nat.reduceLeDiff, Nat.reduceEqDiff, Nat.lt_add_one, Nat.zero_le, Nat.le_refl, Nat.le_zero_eq, Nat.zero_lt_succ, xldc, kbm10, kbm9, kbm8, kbm7, kbm6, kbm5, kbm4, kbm3, kbm2, kb6, kb7, kb8, kb9, kb10, kb11, kb16, kb19, kb20, kb30, kb31, kb32, kb34, kb40, kb64, kb100, kb127, kim1, ki0, ki1, ki2, ki3, ki4, ki5, ks128, ks400, ks999, ks1000, ks4010])
          try simp (disch := omega) only [nx10, nx4, nx32, nxa0, nxa1, nxa2, nxa3, nxa4, nxa5, nxa6, nxa7, nxa8, nxa9, nxa10, nxs1, nxs10, nxss, nI_add, nI_clamp, mnar0, mnar1, Nat.add_sub_cancel]
          refine l_il rfl (nIn (by omega) (by omega)) ?_
          try dsimp only [Nat.reduceAdd]
          try simp (disch := omega) only [nx10, nx4, nx32, nxa0, nxa1, nxa2, nxa3, nxa4, nxa5, nxa6, nxa7, nxa8, nxa9, nxa10, nxs1, nxs10, nxss, nI_add, nI_clamp, mnar0, mnar1, Nat.add_sub_cancel]
          iterate 4 (refine ok_st rfl rfl ?_; simp only [okS_some, xst, xp0, xp1, xp2, xp3, xp4, xp5, xload, xstore, xget_0, xget_s, xs_0, xs_1n, xs_1i, xs_1r, xs_1u, xs_1l, xs_s, xt_0, xt_1n, xt_1i, xt_1r, xt_1u, xt_1l, xt_s, xisref, xq0, Value.category, xcat, List.map_nil, List.map_cons, List.sum_nil, List.sum_cons, List.length_cons, List.length_nil, List.getElem?_cons_zero, List.getElem?_cons_succ, xmap_s, if_true, and_self, Nat.reduceAdd, Nat.reduceLT, Nat.reduceLeDiff, Nat.reduceEqDiff, Nat.lt_add_one, Nat.zero_le, Nat.le_refl, Nat.le_zero_eq, Nat.zero_lt_succ, xldc, kbm10, kbm9, kbm8, kbm7, kbm6, kbm5, kbm4, kbm3, kbm2, kb6, kb7, kb8, kb9, kb10, kb11, kb16, kb19, kb20, kb30, kb31, kb32, kb34, kb40, kb64, kb100, kb127, kim1, ki0, ki1, ki2, ki3, ki4, ki5, ks128, ks400, ks999, ks1000, ks4010])
          try simp (disch := omega) only [nx10, nx4, nx32, nxa0, nxa1, nxa2, nxa3, nxa4, nxa5, nxa6, nxa7, nxa8, nxa9, nxa10, nxs1, nxs10, nxss, nI_add, nI_clamp, mnar0, mnar1, Nat.add_sub_cancel]
          refine l_il rfl (nIn (by omega) (by omega)) ?_
          try dsimp only [Nat.reduceAdd]
          try simp (disch := omega) only [nx10, nx4, nx32, nxa0, nxa1, nxa2, nxa3, nxa4, nxa5, nxa6, nxa7, nxa8, nxa9, nxa10, nxs1, nxs10, nxss, nI_add, nI_clamp, mnar0, mnar1, Nat.add_sub_cancel]
          refine ok_cm (vs := [_, _, _]) rfl rfl rfl rfl (Nat.le_of_ble_eq_true rfl) (Nat.le_of_ble_eq_true rfl) (by show xcl0 2 9 _ _ = true; simp [xcl0, hm.1]) (by decide) hW (sp109 hW hm hj) ?_
          rintro _ h249 ⟨VV, ⟨rfl, rfl, m1⟩ | ⟨rfl, rfl, m2, m3, m4⟩, S1, A1, B1, M1, hm, hj2, hs⟩ k250 al251
          · dsimp only [Option.toList, List.cons_append, List.nil_append, Nat.reduceAdd]
            have hW := k250.1
            have z253 := al251 rfl
            try dsimp only at z253
            have hI := hI.kp k250 (by decide)
            have hj := hj2
            have hS2 := hs.trans hS2
            iterate 3 (refine ok_st rfl rfl ?_; simp only [okS_some, xst, xp0, xp1, xp2, xp3, xp4, xp5, xload, xstore, xget_0, xget_s, xs_0, xs_1n, xs_1i, xs_1r, xs_1u, xs_1l, xs_s, xt_0, xt_1n, xt_1i, xt_1r, xt_1u, xt_1l, xt_s, xisref, xq0, Value.category, xcat, List.map_nil, List.map_cons, List.sum_nil, List.sum_cons, List.length_cons, List.length_nil, List.getElem?_cons_zero, List.getElem?_cons_succ, xmap_s, if_true, and_self, Nat.reduceAdd, Nat.reduceLT, Nat.reduceLeDiff, Nat.reduceEqDiff, Nat.lt_add_one, Nat.zero_le, Nat.le_refl, Nat.le_zero_eq, Nat.zero_lt_succ, xldc, kbm10, kbm9, kbm8, kbm7, kbm6, kbm5, kbm4, kbm3, kbm2, kb6, kb7, kb8, kb9, kb10, kb11, kb16, kb19, kb20, kb30, kb31, kb32, kb34, kb40, kb64, kb100, kb127, kim1, ki0, ki1, ki2, ki3, ki4, ki5, ks128, ks400, ks999, ks1000, ks4010])
            try simp (disch := omega) only [nx10, nx4, nx32, nxa0, nxa1, nxa2, nxa3, nxa4, nxa5, nxa6, nxa7, nxa8, nxa9, nxa10, nxs1, nxs10, nxss, nI_add, nI_clamp, mnar0, mnar1, Nat.add_sub_cancel]
            refine ok_st rfl rfl ?_
            simp only [okS_some, xst, xp0, xp1, xp2, xp3, xp4, xp5, xload, xstore, xget_0, xget_s, xs_0, xs_1n, xs_1i, xs_1r, xs_1u, xs_1l, xs_s, xt_0, xt_1n, xt_1i, xt_1r, xt_1u, xt_1l, xt_s, xisref, xq0, Value.category, xcat, List.map_nil, List.map_cons, List.sum_nil, List.sum_cons, List.length_cons, List.length_nil, List.getElem?_cons_zero, List.getElem?_cons_succ, xmap_s, if_true, and_self, Nat.reduceAdd, Nat.reduceLT, Nat.reduceLeDiff, Nat.reduceEqDiff, Nat.lt_add_one, Nat.zero_le, Nat.le_refl, Nat.le_zero_eq, Nat.zero_lt_succ, xldc, kbm10, kbm9, kbm8, kbm7, kbm6, kbm5, kbm4, kbm3, kbm2, kb6, kb7, kb8, kb9, kb10, kb11, kb16, kb19, kb20, kb30, kb31, kb32, kb34, kb40, kb64, kb100, kb127, kim1, ki0, ki1, ki2, ki3, ki4, ki5, ks128, ks400, ks999, ks1000, ks4010]
            rw [show nI (8 * i) + Int32.ofInt 8 = nI (8 * (i + 1)) from nI_add (8 * i) 8]
            exact ih (i := i + 1) hW ⟨_, _, _, _, _, _, _, hI.up (by omega), hm, hj, hS2, by omega, by omega⟩ (by omega) (by omega)
          · dsimp only [Option.toList, List.cons_append, List.nil_append, Nat.reduceAdd]
            exact absurd ⟨vk4.mpr m2, m3, m4⟩ n1
        · dsimp only [Option.toList, List.cons_append, List.nil_append, Nat.reduceAdd]
          try dsimp only at z1 z2
          have hW := k245.1
          obtain ⟨B, hm⟩ := hm.kq k245 (by decide)
          iterate 6 (refine ok_st rfl rfl ?_; simp only [okS_some, xst, xp0, xp1, xp2, xp3, xp4, xp5, xload, xstore, xget_0, xget_s, xs_0, xs_1n, xs_1i, xs_1r, xs_1u, xs_1l, xs_s, xt_0, xt_1n, xt_1i, xt_1r, xt_1u, xt_1l, xt_s, xisref, xq0, Value.category, xcat, List.map_nil, List.map_cons, List.sum_nil, List.sum_cons, List.length_cons, List.length_nil, List.getElem?_cons_zero, List.getElem?_cons_succ, xmap_s, if_true, and_self, Nat.reduceAdd, Nat.reduceLT, Nat.reduceLeDiff, Nat.reduceEqDiff, Nat.lt_add_one, Nat.zero_le, Nat.le_refl, Nat.le_zero_eq, Nat.zero_lt_succ, xldc, kbm10, kbm9, kbm8, kbm7, kbm6, kbm5, kbm4, kbm3, kbm2, kb6, kb7, kb8, kb9, kb10, kb11, kb16, kb19, kb20, kb30, kb31, kb32, kb34, kb40, kb64, kb100, kb127, kim1, ki0, ki1, ki2, ki3, ki4, ki5, ks128, ks400, ks999, ks1000, ks4010])
          try simp (disch := omega) only [nx10, nx4, nx32, nxa0, nxa1, nxa2, nxa3, nxa4, nxa5, nxa6, nxa7, nxa8, nxa9, nxa10, nxs1, nxs10, nxss, nI_add, nI_clamp, mnar0, mnar1, Nat.add_sub_cancel]
          refine l_il rfl (nIn (by omega) (by omega)) ?_
          try dsimp only [Nat.reduceAdd]
          try simp (disch := omega) only [nx10, nx4, nx32, nxa0, nxa1, nxa2, nxa3, nxa4, nxa5, nxa6, nxa7, nxa8, nxa9, nxa10, nxs1, nxs10, nxss, nI_add, nI_clamp, mnar0, mnar1, Nat.add_sub_cancel]
          iterate 4 (refine ok_st rfl rfl ?_; simp only [okS_some, xst, xp0, xp1, xp2, xp3, xp4, xp5, xload, xstore, xget_0, xget_s, xs_0, xs_1n, xs_1i, xs_1r, xs_1u, xs_1l, xs_s, xt_0, xt_1n, xt_1i, xt_1r, xt_1u, xt_1l, xt_s, xisref, xq0, Value.category, xcat, List.map_nil, List.map_cons, List.sum_nil, List.sum_cons, List.length_cons, List.length_nil, List.getElem?_cons_zero, List.getElem?_cons_succ, xmap_s, if_true, and_self, Nat.reduceAdd, Nat.reduceLT, Nat.reduceLeDiff, Nat.reduceEqDiff, Nat.lt_add_one, Nat.zero_le, Nat.le_refl, Nat.le_zero_eq, Nat.zero_lt_succ, xldc, kbm10, kbm9, kbm8, kbm7, kbm6, kbm5, kbm4, kbm3, kbm2, kb6, kb7, kb8, kb9, kb10, kb11, kb16, kb19, kb20, kb30, kb31, kb32, kb34, kb40, kb64, kb100, kb127, kim1, ki0, ki1, ki2, ki3, ki4, ki5, ks128, ks400, ks999, ks1000, ks4010])
          try simp (disch := omega) only [nx10, nx4, nx32, nxa0, nxa1, nxa2, nxa3, nxa4, nxa5, nxa6, nxa7, nxa8, nxa9, nxa10, nxs1, nxs10, nxss, nI_add, nI_clamp, mnar0, mnar1, Nat.add_sub_cancel]
          refine l_il rfl (nIn (by omega) (by omega)) ?_
          try dsimp only [Nat.reduceAdd]
          try simp (disch := omega) only [nx10, nx4, nx32, nxa0, nxa1, nxa2, nxa3, nxa4, nxa5, nxa6, nxa7, nxa8, nxa9, nxa10, nxs1, nxs10, nxss, nI_add, nI_clamp, mnar0, mnar1, Nat.add_sub_cancel]
          refine ok_cm (vs := [_, _, _]) rfl rfl rfl rfl (Nat.le_of_ble_eq_true rfl) (Nat.le_of_ble_eq_true rfl) (by show xcl0 2 9 _ _ = true; simp [xcl0, hm.1]) (by decide) hW (sp109 hW hm hj) ?_
          rintro _ h255 ⟨VV, ⟨rfl, rfl, m1⟩ | ⟨rfl, rfl, m2, m3, m4⟩, S1, A1, B1, M1, hm, hj2, hs⟩ k256 al257
          · dsimp only [Option.toList, List.cons_append, List.nil_append, Nat.reduceAdd]
            exact absurd ⟨vk4.mp n2, n3, n4⟩ m1
          · dsimp only [Option.toList, List.cons_append, List.nil_append, Nat.reduceAdd]
            have hW := k256.1
            have z259 := al257 rfl
            try dsimp only at z259
            have hI := hI.kp k256 (by decide)
            have hj := hj2
            rw [nxa1] at hI
            have hS2 := hs.trans hS2
            iterate 3 (refine ok_st rfl rfl ?_; simp only [okS_some, xst, xp0, xp1, xp2, xp3, xp4, xp5, xload, xstore, xget_0, xget_s, xs_0, xs_1n, xs_1i, xs_1r, xs_1u, xs_1l, xs_s, xt_0, xt_1n, xt_1i, xt_1r, xt_1u, xt_1l, xt_s, xisref, xq0, Value.category, xcat, List.map_nil, List.map_cons, List.sum_nil, List.sum_cons, List.length_cons, List.length_nil, List.getElem?_cons_zero, List.getElem?_cons_succ, xmap_s, if_true, and_self, Nat.reduceAdd, Nat.reduceLT, Nat.reduceLeDiff, Nat.reduceEqDiff, Nat.lt_add_one, Nat.zero_le, Nat.le_refl, Nat.le_zero_eq, Nat.zero_lt_succ, xldc, kbm10, kbm9, kbm8, kbm7, kbm6, kbm5, kbm4, kbm3, kbm2, kb6, kb7, kb8, kb9, kb10, kb11, kb16, kb19, kb20, kb30, kb31, kb32, kb34, kb40, kb64, kb100, kb127, kim1, ki0, ki1, ki2, ki3, ki4, ki5, ks128, ks400, ks999, ks1000, ks4010])
            try simp (disch := omega) only [nx10, nx4, nx32, nxa0, nxa1, nxa2, nxa3, nxa4, nxa5, nxa6, nxa7, nxa8, nxa9, nxa10, nxs1, nxs10, nxss, nI_add, nI_clamp, mnar0, mnar1, Nat.add_sub_cancel]
            refine ok_st rfl rfl ?_
            simp only [okS_some, xst, xp0, xp1, xp2, xp3, xp4, xp5, xload, xstore, xget_0, xget_s, xs_0, xs_1n, xs_1i, xs_1r, xs_1u, xs_1l, xs_s, xt_0, xt_1n, xt_1i, xt_1r, xt_1u, xt_1l, xt_s, xisref, xq0, Value.category, xcat, List.map_nil, List.map_cons, List.sum_nil, List.sum_cons, List.length_cons, List.length_nil, List.getElem?_cons_zero, List.getElem?_cons_succ, xmap_s, if_true, and_self, Nat.reduceAdd, Nat.reduceLT, Nat.reduceLeDiff, Nat.reduceEqDiff, Nat.lt_add_one, Nat.zero_le, Nat.le_refl, Nat.le_zero_eq, Nat.zero_lt_succ, xldc, kbm10, kbm9, kbm8, kbm7, kbm6, kbm5, kbm4, kbm3, kbm2, kb6, kb7, kb8, kb9, kb10, kb11, kb16, kb19, kb20, kb30, kb31, kb32, kb34, kb40, kb64, kb100, kb127, kim1, ki0, ki1, ki2, ki3, ki4, ki5, ks128, ks400, ks999, ks1000, ks4010]
            rw [show nI (8 * i) + Int32.ofInt 8 = nI (8 * (i + 1)) from nI_add (8 * i) 8]
            exact ih (i := i + 1) hW ⟨_, _, _, _, _, _, _, hI.up (by omega), hm, hj, hS2, by omega, by omega⟩ (by omega) (by omega)
      · skip
        iterate 5 (refine ok_st rfl rfl ?_; simp only [okS_some, xst, xp0, xp1, xp2, xp3, xp4, xp5, xload, xstore, xget_0, xget_s, xs_0, xs_1n, xs_1i, xs_1r, xs_1u, xs_1l, xs_s, xt_0, xt_1n, xt_1i, xt_1r, xt_1u, xt_1l, xt_s, xisref, xq0, Value.category, xcat, List.map_nil, List.map_cons, List.sum_nil, List.sum_cons, List.length_cons, List.length_nil, List.getElem?_cons_zero, List.getElem?_cons_succ, xmap_s, if_true, and_self, Nat.reduceAdd, Nat.reduceLT, Nat.reduceLeDiff, Nat.reduceEqDiff, Nat.lt_add_one, Nat.zero_le, Nat.le_refl, Nat.le_zero_eq, Nat.zero_lt_succ, xldc, kbm10, kbm9, kbm8, kbm7, kbm6, kbm5, kbm4, kbm3, kbm2, kb6, kb7, kb8, kb9, kb10, kb11, kb16, kb19, kb20, kb30, kb31, kb32, kb34, kb40, kb64, kb100, kb127, kim1, ki0, ki1, ki2, ki3, ki4, ki5, ks128, ks400, ks999, ks1000, ks4010])
        try simp (disch := omega) only [nx10, nx4, nx32, nxa0, nxa1, nxa2, nxa3, nxa4, nxa5, nxa6, nxa7, nxa8, nxa9, nxa10, nxs1, nxs10, nxss, nI_add, nI_clamp, mnar0, mnar1, Nat.add_sub_cancel]
        refine l_il rfl (nIn (by omega) (by omega)) ?_
        try dsimp only [Nat.reduceAdd]
        try simp (disch := omega) only [nx10, nx4, nx32, nxa0, nxa1, nxa2, nxa3, nxa4, nxa5, nxa6, nxa7, nxa8, nxa9, nxa10, nxs1, nxs10, nxss, nI_add, nI_clamp, mnar0, mnar1, Nat.add_sub_cancel]
        iterate 4 (refine ok_st rfl rfl ?_; simp only [okS_some, xst, xp0, xp1, xp2, xp3, xp4, xp5, xload, xstore, xget_0, xget_s, xs_0, xs_1n, xs_1i, xs_1r, xs_1u, xs_1l, xs_s, xt_0, xt_1n, xt_1i, xt_1r, xt_1u, xt_1l, xt_s, xisref, xq0, Value.category, xcat, List.map_nil, List.map_cons, List.sum_nil, List.sum_cons, List.length_cons, List.length_nil, List.getElem?_cons_zero, List.getElem?_cons_succ, xmap_s, if_true, and_self, Nat.reduceAdd, Nat.reduceLT, Nat.reduceLeDiff, Nat.reduceEqDiff, Nat.lt_add_one, Nat.zero_le, Nat.le_refl, Nat.le_zero_eq, Nat.zero_lt_succ, xldc, kbm10, kbm9, kbm8, kbm7, kbm6, kbm5, kbm4, kbm3, kbm2, kb6, kb7, kb8, kb9, kb10, kb11, kb16, kb19, kb20, kb30, kb31, kb32, kb34, kb40, kb64, kb100, kb127, kim1, ki0, ki1, ki2, ki3, ki4, ki5, ks128, ks400, ks999, ks1000, ks4010])
        try simp (disch := omega) only [nx10, nx4, nx32, nxa0, nxa1, nxa2, nxa3, nxa4, nxa5, nxa6, nxa7, nxa8, nxa9, nxa10, nxs1, nxs10, nxss, nI_add, nI_clamp, mnar0, mnar1, Nat.add_sub_cancel]
        refine l_il rfl (nIn (by omega) (by omega)) ?_
        try dsimp only [Nat.reduceAdd]
        try simp (disch := omega) only [nx10, nx4, nx32, nxa0, nxa1, nxa2, nxa3, nxa4, nxa5, nxa6, nxa7, nxa8, nxa9, nxa10, nxs1, nxs10, nxss, nI_add, nI_clamp, mnar0, mnar1, Nat.add_sub_cancel]
        refine ok_cm (vs := [_, _, _]) rfl rfl rfl rfl (Nat.le_of_ble_eq_true rfl) (Nat.le_of_ble_eq_true rfl) (by show xcl0 2 8 _ _ = true; simp [xcl0, hI.1]) (by decide) hW (sp56 hW hI) ?_
        rintro _ h260 ⟨x264, rfl⟩ k261 al262
        dsimp only [Option.toList, List.cons_append, List.nil_append, Nat.reduceAdd]
        have hW := k261.1
        have z267 := al262 rfl
        try dsimp only at z267
        obtain ⟨B, hm⟩ := hm.kq k261 (by decide)
        have hI := hI.kp k261 (by decide)
        iterate 6 (refine ok_st rfl rfl ?_; simp only [okS_some, xst, xp0, xp1, xp2, xp3, xp4, xp5, xload, xstore, xget_0, xget_s, xs_0, xs_1n, xs_1i, xs_1r, xs_1u, xs_1l, xs_s, xt_0, xt_1n, xt_1i, xt_1r, xt_1u, xt_1l, xt_s, xisref, xq0, Value.category, xcat, List.map_nil, List.map_cons, List.sum_nil, List.sum_cons, List.length_cons, List.length_nil, List.getElem?_cons_zero, List.getElem?_cons_succ, xmap_s, if_true, and_self, Nat.reduceAdd, Nat.reduceLT, Nat.reduceLeDiff, Nat.reduceEqDiff, Nat.lt_add_one, Nat.zero_le, Nat.le_refl, Nat.le_zero_eq, Nat.zero_lt_succ, xldc, kbm10, kbm9, kbm8, kbm7, kbm6, kbm5, kbm4, kbm3, kbm2, kb6, kb7, kb8, kb9, kb10, kb11, kb16, kb19, kb20, kb30, kb31, kb32, kb34, kb40, kb64, kb100, kb127, kim1, ki0, ki1, ki2, ki3, ki4, ki5, ks128, ks400, ks999, ks1000, ks4010])
        try simp (disch := omega) only [nx10, nx4, nx32, nxa0, nxa1, nxa2, nxa3, nxa4, nxa5, nxa6, nxa7, nxa8, nxa9, nxa10, nxs1, nxs10, nxss, nI_add, nI_clamp, mnar0, mnar1, Nat.add_sub_cancel]
        refine l_il rfl (nIn (by omega) (by omega)) ?_
        try dsimp only [Nat.reduceAdd]
        try simp (disch := omega) only [nx10, nx4, nx32, nxa0, nxa1, nxa2, nxa3, nxa4, nxa5, nxa6, nxa7, nxa8, nxa9, nxa10, nxs1, nxs10, nxss, nI_add, nI_clamp, mnar0, mnar1, Nat.add_sub_cancel]
        iterate 4 (refine ok_st rfl rfl ?_; simp only [okS_some, xst, xp0, xp1, xp2, xp3, xp4, xp5, xload, xstore, xget_0, xget_s, xs_0, xs_1n, xs_1i, xs_1r, xs_1u, xs_1l, xs_s, xt_0, xt_1n, xt_1i, xt_1r, xt_1u, xt_1l, xt_s, xisref, xq0, Value.category, xcat, List.map_nil, List.map_cons, List.sum_nil, List.sum_cons, List.length_cons, List.length_nil, List.getElem?_cons_zero, List.getElem?_cons_succ, xmap_s, if_true, and_self, Nat.reduceAdd, Nat.reduceLT, Nat.reduceLeDiff, Nat.reduceEqDiff, Nat.lt_add_one, Nat.zero_le, Nat.le_refl, Nat.le_zero_eq, Nat.zero_lt_succ, xldc, kbm10, kbm9, kbm8, kbm7, kbm6, kbm5, kbm4, kbm3, kbm2, kb6, kb7, kb8, kb9, kb10, kb11, kb16, kb19, kb20, kb30, kb31, kb32, kb34, kb40, kb64, kb100, kb127, kim1, ki0, ki1, ki2, ki3, ki4, ki5, ks128, ks400, ks999, ks1000, ks4010])
        try simp (disch := omega) only [nx10, nx4, nx32, nxa0, nxa1, nxa2, nxa3, nxa4, nxa5, nxa6, nxa7, nxa8, nxa9, nxa10, nxs1, nxs10, nxss, nI_add, nI_clamp, mnar0, mnar1, Nat.add_sub_cancel]
        refine l_il rfl (nIn (by omega) (by omega)) ?_
        try dsimp only [Nat.reduceAdd]
        try simp (disch := omega) only [nx10, nx4, nx32, nxa0, nxa1, nxa2, nxa3, nxa4, nxa5, nxa6, nxa7, nxa8, nxa9, nxa10, nxs1, nxs10, nxss, nI_add, nI_clamp, mnar0, mnar1, Nat.add_sub_cancel]
        refine ok_cm (vs := [_, _, _]) rfl rfl rfl rfl (Nat.le_of_ble_eq_true rfl) (Nat.le_of_ble_eq_true rfl) (by show xcl0 2 9 _ _ = true; simp [xcl0, hm.1]) (by decide) hW (sp111 hW hm hj) ?_
        rintro _ h268 ⟨⟨x272, rfl⟩, S1, A1, B1, M1, hm, hj, hs⟩ k269 al270
        dsimp only [Option.toList, List.cons_append, List.nil_append, Nat.reduceAdd]
        have hW := k269.1
        have z273 := al270 rfl
        try dsimp only at z273
        have hI := hI.kp k269 (by decide)
        have hS2 := hs.trans hS2
        iterate 3 (refine ok_st rfl rfl ?_; simp only [okS_some, xst, xp0, xp1, xp2, xp3, xp4, xp5, xload, xstore, xget_0, xget_s, xs_0, xs_1n, xs_1i, xs_1r, xs_1u, xs_1l, xs_s, xt_0, xt_1n, xt_1i, xt_1r, xt_1u, xt_1l, xt_s, xisref, xq0, Value.category, xcat, List.map_nil, List.map_cons, List.sum_nil, List.sum_cons, List.length_cons, List.length_nil, List.getElem?_cons_zero, List.getElem?_cons_succ, xmap_s, if_true, and_self, Nat.reduceAdd, Nat.reduceLT, Nat.reduceLeDiff, Nat.reduceEqDiff, Nat.lt_add_one, Nat.zero_le, Nat.le_refl, Nat.le_zero_eq, Nat.zero_lt_succ, xldc, kbm10, kbm9, kbm8, kbm7, kbm6, kbm5, kbm4, kbm3, kbm2, kb6, kb7, kb8, kb9, kb10, kb11, kb16, kb19, kb20, kb30, kb31, kb32, kb34, kb40, kb64, kb100, kb127, kim1, ki0, ki1, ki2, ki3, ki4, ki5, ks128, ks400, ks999, ks1000, ks4010])
        try simp (disch := omega) only [nx10, nx4, nx32, nxa0, nxa1, nxa2, nxa3, nxa4, nxa5, nxa6, nxa7, nxa8, nxa9, nxa10, nxs1, nxs10, nxss, nI_add, nI_clamp, mnar0, mnar1, Nat.add_sub_cancel]
        refine ok_st rfl rfl ?_
        simp only [okS_some, xst, xp0, xp1, xp2, xp3, xp4, xp5, xload, xstore, xget_0, xget_s, xs_0, xs_1n, xs_1i, xs_1r, xs_1u, xs_1l, xs_s, xt_0, xt_1n, xt_1i, xt_1r, xt_1u, xt_1l, xt_s, xisref, xq0, Value.category, xcat, List.map_nil, List.map_cons, List.sum_nil, List.sum_cons, List.length_cons, List.length_nil, List.getElem?_cons_zero, List.getElem?_cons_succ, xmap_s, if_true, and_self, Nat.reduceAdd, Nat.reduceLT, Nat.reduceLeDiff, Nat.reduceEqDiff, Nat.lt_add_one, Nat.zero_le, Nat.le_refl, Nat.le_zero_eq, Nat.zero_lt_succ, xldc, kbm10, kbm9, kbm8, kbm7, kbm6, kbm5, kbm4, kbm3, kbm2, kb6, kb7, kb8, kb9, kb10, kb11, kb16, kb19, kb20, kb30, kb31, kb32, kb34, kb40, kb64, kb100, kb127, kim1, ki0, ki1, ki2, ki3, ki4, ki5, ks128, ks400, ks999, ks1000, ks4010]
        rw [show nI (8 * i) + Int32.ofInt 8 = nI (8 * (i + 1)) from nI_add (8 * i) 8]
        exact ih (i := i + 1) hW ⟨_, _, _, _, _, _, _, hI.up (by omega), hm, hj, hS2, by omega, by omega⟩ (by omega) (by omega)
      · skip
        iterate 5 (refine ok_st rfl rfl ?_; simp only [okS_some, xst, xp0, xp1, xp2, xp3, xp4, xp5, xload, xstore, xget_0, xget_s, xs_0, xs_1n, xs_1i, xs_1r, xs_1u, xs_1l, xs_s, xt_0, xt_1n, xt_1i, xt_1r, xt_1u, xt_1l, xt_s, xisref, xq0, Value.category, xcat, List.map_nil, List.map_cons, List.sum_nil, List.sum_cons, List.length_cons, List.length_nil, List.getElem?_cons_zero, List.getElem?_cons_succ, xmap_s, if_true, and_self, Nat.reduceAdd, Nat.reduceLT, Nat.reduceLeDiff, Nat.reduceEqDiff, Nat.lt_add_one, Nat.zero_le, Nat.le_refl, Nat.le_zero_eq, Nat.zero_lt_succ, xldc, kbm10, kbm9, kbm8, kbm7, kbm6, kbm5, kbm4, kbm3, kbm2, kb6, kb7, kb8, kb9, kb10, kb11, kb16, kb19, kb20, kb30, kb31, kb32, kb34, kb40, kb64, kb100, kb127, kim1, ki0, ki1, ki2, ki3, ki4, ki5, ks128, ks400, ks999, ks1000, ks4010])
        try simp (disch := omega) only [nx10, nx4, nx32, nxa0, nxa1, nxa2, nxa3, nxa4, nxa5, nxa6, nxa7, nxa8, nxa9, nxa10, nxs1, nxs10, nxss, nI_add, nI_clamp, mnar0, mnar1, Nat.add_sub_cancel]
        refine l_il rfl (nIn (by omega) (by omega)) ?_
        try dsimp only [Nat.reduceAdd]
        try simp (disch := omega) only [nx10, nx4, nx32, nxa0, nxa1, nxa2, nxa3, nxa4, nxa5, nxa6, nxa7, nxa8, nxa9, nxa10, nxs1, nxs10, nxss, nI_add, nI_clamp, mnar0, mnar1, Nat.add_sub_cancel]
        iterate 4 (refine ok_st rfl rfl ?_; simp only [okS_some, xst, xp0, xp1, xp2, xp3, xp4, xp5, xload, xstore, xget_0, xget_s, xs_0, xs_1n, xs_1i, xs_1r, xs_1u, xs_1l, xs_s, xt_0, xt_1n, xt_1i, xt_1r, xt_1u, xt_1l, xt_s, xisref, xq0, Value.category, xcat, List.map_nil, List.map_cons, List.sum_nil, List.sum_cons, List.length_cons, List.length_nil, List.getElem?_cons_zero, List.getElem?_cons_succ, xmap_s, if_true, and_self, Nat.reduceAdd, Nat.reduceLT, Nat.reduceLeDiff, Nat.reduceEqDiff, Nat.lt_add_one, Nat.zero_le, Nat.le_refl, Nat.le_zero_eq, Nat.zero_lt_succ, xldc, kbm10, kbm9, kbm8, kbm7, kbm6, kbm5, kbm4, kbm3, kbm2, kb6, kb7, kb8, kb9, kb10, kb11, kb16, kb19, kb20, kb30, kb31, kb32, kb34, kb40, kb64, kb100, kb127, kim1, ki0, ki1, ki2, ki3, ki4, ki5, ks128, ks400, ks999, ks1000, ks4010])
        try simp (disch := omega) only [nx10, nx4, nx32, nxa0, nxa1, nxa2, nxa3, nxa4, nxa5, nxa6, nxa7, nxa8, nxa9, nxa10, nxs1, nxs10, nxss, nI_add, nI_clamp, mnar0, mnar1, Nat.add_sub_cancel]
        refine l_il rfl (nIn (by omega) (by omega)) ?_
        try dsimp only [Nat.reduceAdd]
        try simp (disch := omega) only [nx10, nx4, nx32, nxa0, nxa1, nxa2, nxa3, nxa4, nxa5, nxa6, nxa7, nxa8, nxa9, nxa10, nxs1, nxs10, nxss, nI_add, nI_clamp, mnar0, mnar1, Nat.add_sub_cancel]
        refine ok_cm (vs := [_, _, _]) rfl rfl rfl rfl (Nat.le_of_ble_eq_true rfl) (Nat.le_of_ble_eq_true rfl) (by show xcl0 2 8 _ _ = true; simp [xcl0, hI.1]) (by decide) hW (sp57 hW hI) ?_
        rintro _ h274 ⟨x278, rfl⟩ k275 al276
        dsimp only [Option.toList, List.cons_append, List.nil_append, Nat.reduceAdd]
        have hW := k275.1
        have z281 := al276 rfl
        try dsimp only at z281
        obtain ⟨B, hm⟩ := hm.kq k275 (by decide)
        have hI := hI.kp k275 (by decide)
        iterate 6 (refine ok_st rfl rfl ?_; simp only [okS_some, xst, xp0, xp1, xp2, xp3, xp4, xp5, xload, xstore, xget_0, xget_s, xs_0, xs_1n, xs_1i, xs_1r, xs_1u, xs_1l, xs_s, xt_0, xt_1n, xt_1i, xt_1r, xt_1u, xt_1l, xt_s, xisref, xq0, Value.category, xcat, List.map_nil, List.map_cons, List.sum_nil, List.sum_cons, List.length_cons, List.length_nil, List.getElem?_cons_zero, List.getElem?_cons_succ, xmap_s, if_true, and_self, Nat.reduceAdd, Nat.reduceLT, Nat.reduceLeDiff, Nat.reduceEqDiff, Nat.lt_add_one, Nat.zero_le, Nat.le_refl, Nat.le_zero_eq, Nat.zero_lt_succ, xldc, kbm10, kbm9, kbm8, kbm7, kbm6, kbm5, kbm4, kbm3, kbm2, kb6, kb7, kb8, kb9, kb10, kb11, kb16, kb19, kb20, kb30, kb31, kb32, kb34, kb40, kb64, kb100, kb127, kim1, ki0, ki1, ki2, ki3, ki4, ki5, ks128, ks400, ks999, ks1000, ks4010])
        try simp (disch := omega) only [nx10, nx4, nx32, nxa0, nxa1, nxa2, nxa3, nxa4, nxa5, nxa6, nxa7, nxa8, nxa9, nxa10, nxs1, nxs10, nxss, nI_add, nI_clamp, mnar0, mnar1, Nat.add_sub_cancel]
        refine l_il rfl (nIn (by omega) (by omega)) ?_
        try dsimp only [Nat.reduceAdd]
        try simp (disch := omega) only [nx10, nx4, nx32, nxa0, nxa1, nxa2, nxa3, nxa4, nxa5, nxa6, nxa7, nxa8, nxa9, nxa10, nxs1, nxs10, nxss, nI_add, nI_clamp, mnar0, mnar1, Nat.add_sub_cancel]
        iterate 4 (refine ok_st rfl rfl ?_; simp only [okS_some, xst, xp0, xp1, xp2, xp3, xp4, xp5, xload, xstore, xget_0, xget_s, xs_0, xs_1n, xs_1i, xs_1r, xs_1u, xs_1l, xs_s, xt_0, xt_1n, xt_1i, xt_1r, xt_1u, xt_1l, xt_s, xisref, xq0, Value.category, xcat, List.map_nil, List.map_cons, List.sum_nil, List.sum_cons, List.length_cons, List.length_nil, List.getElem?_cons_zero, List.getElem?_cons_succ, xmap_s, if_true, and_self, Nat.reduceAdd, Nat.reduceLT, Nat.reduceLeDiff, Nat.reduceEqDiff, Nat.lt_add_one, Nat.zero_le, Nat.le_refl, Nat.le_zero_eq, Nat.zero_lt_succ, xldc, kbm10, kbm9, kbm8, kbm7, kbm6, kbm5, kbm4, kbm3, kbm2, kb6, kb7, kb8, kb9, kb10, kb11, kb16, kb19, kb20, kb30, kb31, kb32, kb34, kb40, kb64, kb100, kb127, kim1, ki0, ki1, ki2, ki3, ki4, ki5, ks128, ks400, ks999, ks1000, ks4010])
        try simp (disch := omega) only [nx10, nx4, nx32, nxa0, nxa1, nxa2, nxa3, nxa4, nxa5, nxa6, nxa7, nxa8, nxa9, nxa10, nxs1, nxs10, nxss, nI_add, nI_clamp, mnar0, mnar1, Nat.add_sub_cancel]
        refine l_il rfl (nIn (by omega) (by omega)) ?_
        try dsimp only [Nat.reduceAdd]
        try simp (disch := omega) only [nx10, nx4, nx32, nxa0, nxa1, nxa2, nxa3, nxa4, nxa5, nxa6, nxa7, nxa8, nxa9, nxa10, nxs1, nxs10, nxss, nI_add, nI_clamp, mnar0, mnar1, Nat.add_sub_cancel]
        refine ok_cm (vs := [_, _, _]) rfl rfl rfl rfl (Nat.le_of_ble_eq_true rfl) (Nat.le_of_ble_eq_true rfl) (by show xcl0 2 9 _ _ = true; simp [xcl0, hm.1]) (by decide) hW (sp112 hW hm hj) ?_
        rintro _ h282 ⟨⟨x286, rfl⟩, S1, A1, B1, M1, hm, hj, hs⟩ k283 al284
        dsimp only [Option.toList, List.cons_append, List.nil_append, Nat.reduceAdd]
        have hW := k283.1
        have z287 := al284 rfl
        try dsimp only at z287
        have hI := hI.kp k283 (by decide)
        have hS2 := hs.trans hS2
        iterate 3 (refine ok_st rfl rfl ?_; simp only [okS_some, xst, xp0, xp1, xp2, xp3, xp4, xp5, xload, xstore, xget_0, xget_s, xs_0, xs_1n, xs_1i, xs_1r, xs_1u, xs_1l, xs_s, xt_0, xt_1n, xt_1i, xt_1r, xt_1u, xt_1l, xt_s, xisref, xq0, Value.category, xcat, List.map_nil, List.map_cons, List.sum_nil, List.sum_cons, List.length_cons, List.length_nil, List.getElem?_cons_zero, List.getElem?_cons_succ, xmap_s, if_true, and_self, Nat.reduceAdd, Nat.reduceLT, Nat.reduceLeDiff, Nat.reduceEqDiff, Nat.lt_add_one, Nat.zero_le, Nat.le_refl, Nat.le_zero_eq, Nat.zero_lt_succ, xldc, kbm10, kbm9, kbm8, kbm7, kbm6, kbm5, kbm4, kbm3, kbm2, kb6, kb7, kb8, kb9, kb10, kb11, kb16, kb19, kb20, kb30, kb31, kb32, kb34, kb40, kb64, kb100, kb127, kim1, ki0, ki1, ki2, ki3, ki4, ki5, ks128, ks400, ks999, ks1000, ks4010])
        try simp (disch := omega) only [nx10, nx4, nx32, nxa0, nxa1, nxa2, nxa3, nxa4, nxa5, nxa6, nxa7, nxa8, nxa9, nxa10, nxs1, nxs10, nxss, nI_add, nI_clamp, mnar0, mnar1, Nat.add_sub_cancel]
        refine ok_st rfl rfl ?_
        simp only [okS_some, xst, xp0, xp1, xp2, xp3, xp4, xp5, xload, xstore, xget_0, xget_s, xs_0, xs_1n, xs_1i, xs_1r, xs_1u, xs_1l, xs_s, xt_0, xt_1n, xt_1i, xt_1r, xt_1u, xt_1l, xt_s, xisref, xq0, Value.category, xcat, List.map_nil, List.map_cons, List.sum_nil, List.sum_cons, List.length_cons, List.length_nil, List.getElem?_cons_zero, List.getElem?_cons_succ, xmap_s, if_true, and_self, Nat.reduceAdd, Nat.reduceLT, Nat.reduceLeDiff, Nat.reduceEqDiff, Nat.lt_add_one, Nat.zero_le, Nat.le_refl, Nat.le_zero_eq, Nat.zero_lt_succ, xldc, kbm10, kbm9, kbm8, kbm7, kbm6, kbm5, kbm4, kbm3, kbm2, kb6, kb7, kb8, kb9, kb10, kb11, kb16, kb19, kb20, kb30, kb31, kb32, kb34, kb40, kb64, kb100, kb127, kim1, ki0, ki1, ki2, ki3, ki4, ki5, ks128, ks400, ks999, ks1000, ks4010]
        rw [show nI (8 * i) + Int32.ofInt 8 = nI (8 * (i + 1)) from nI_add (8 * i) 8]
        exact ih (i := i + 1) hW ⟨_, _, _, _, _, _, _, hI.up (by omega), hm, hj, hS2, by omega, by omega⟩ (by omega) (by omega)
      · skip
        iterate 5 (refine ok_st rfl rfl ?_; simp only [okS_some, xst, xp0, xp1, xp2, xp3, xp4, xp5, xload, xstore, xget_0, xget_s, xs_0, xs_1n, xs_1i, xs_1r, xs_1u, xs_1l, xs_s, xt_0, xt_1n, xt_1i, xt_1r, xt_1u, xt_1l, xt_s, xisref, xq0, Value.category, xcat, List.map_nil, List.map_cons, List.sum_nil, List.sum_cons, List.length_cons, List.length_nil, List.getElem?_cons_zero, List.getElem?_cons_succ, xmap_s, if_true, and_self, Nat.reduceAdd, Nat.reduceLT, Nat.reduceLeDiff, Nat.reduceEqDiff, Nat.lt_add_one, Nat.zero_le, Nat.le_refl, Nat.le_zero_eq, Nat.zero_lt_succ, xldc, kbm10, kbm9, kbm8, kbm7, kbm6, kbm5, kbm4, kbm3, kbm2, kb6, kb7, kb8, kb9, kb10, kb11, kb16, kb19, kb20, kb30, kb31, kb32, kb34, kb40, kb64, kb100, kb127, kim1, ki0, ki1, ki2, ki3, ki4, ki5, ks128, ks400, ks999, ks1000, ks4010])
        try simp (disch := omega) only [nx10, nx4, nx32, nxa0, nxa1, nxa2, nxa3, nxa4, nxa5, nxa6, nxa7, nxa8, nxa9, nxa10, nxs1, nxs10, nxss, nI_add, nI_clamp, mnar0, mnar1, Nat.add_sub_cancel]
        refine l_il rfl (nIn (by omega) (by omega)) ?_
        try dsimp only [Nat.reduceAdd]
        try simp (disch := omega) only [nx10, nx4, nx32, nxa0, nxa1, nxa2, nxa3, nxa4, nxa5, nxa6, nxa7, nxa8, nxa9, nxa10, nxs1, nxs10, nxss, nI_add, nI_clamp, mnar0, mnar1, Nat.add_sub_cancel]
        iterate 4 (refine ok_st rfl rfl ?_; simp only [okS_some, xst, xp0, xp1, xp2, xp3, xp4, xp5, xload, xstore, xget_0, xget_s, xs_0, xs_1n, xs_1i, xs_1r, xs_1u, xs_1l, xs_s, xt_0, xt_1n, xt_1i, xt_1r, xt_1u, xt_1l, xt_s, xisref, xq0, Value.category, xcat, List.map_nil, List.map_cons, List.sum_nil, List.sum_cons, List.length_cons, List.length_nil, List.getElem?_cons_zero, List.getElem?_cons_succ, xmap_s, if_true, and_self, Nat.reduceAdd, Nat.reduceLT, Nat.reduceLeDiff, Nat.reduceEqDiff, Nat.lt_add_one, Nat.zero_le, Nat.le_refl, Nat.le_zero_eq, Nat.zero_lt_succ, xldc, kbm10, kbm9, kbm8, kbm7, kbm6, kbm5, kbm4, kbm3, kbm2, kb6, kb7, kb8, kb9, kb10, kb11, kb16, kb19, kb20, kb30, kb31, kb32, kb34, kb40, kb64, kb100, kb127, kim1, ki0, ki1, ki2, ki3, ki4, ki5, ks128, ks400, ks999, ks1000, ks4010])
        try simp (disch := omega) only [nx10, nx4, nx32, nxa0, nxa1, nxa2, nxa3, nxa4, nxa5, nxa6, nxa7, nxa8, nxa9, nxa10, nxs1, nxs10, nxss, nI_add, nI_clamp, mnar0, mnar1, Nat.add_sub_cancel]
        refine l_il rfl (nIn (by omega) (by omega)) ?_
        try dsimp only [Nat.reduceAdd]
        try simp (disch := omega) only [nx10, nx4, nx32, nxa0, nxa1, nxa2, nxa3, nxa4, nxa5, nxa6, nxa7, nxa8, nxa9, nxa10, nxs1, nxs10, nxss, nI_add, nI_clamp, mnar0, mnar1, Nat.add_sub_cancel]
        refine ok_cm (vs := [_, _, _]) rfl rfl rfl rfl (Nat.le_of_ble_eq_true rfl) (Nat.le_of_ble_eq_true rfl) (by show xcl0 2 8 _ _ = true; simp [xcl0, hI.1]) (by decide) hW (sp58 hW hI) ?_
        rintro _ h288 ⟨x292, rfl⟩ k289 al290
        dsimp only [Option.toList, List.cons_append, List.nil_append, Nat.reduceAdd]
        have hW := k289.1
        have z295 := al290 rfl
        try dsimp only at z295
        obtain ⟨B, hm⟩ := hm.kq k289 (by decide)
        have hI := hI.kp k289 (by decide)
        iterate 6 (refine ok_st rfl rfl ?_; simp only [okS_some, xst, xp0, xp1, xp2, xp3, xp4, xp5, xload, xstore, xget_0, xget_s, xs_0, xs_1n, xs_1i, xs_1r, xs_1u, xs_1l, xs_s, xt_0, xt_1n, xt_1i, xt_1r, xt_1u, xt_1l, xt_s, xisref, xq0, Value.category, xcat, List.map_nil, List.map_cons, List.sum_nil, List.sum_cons, List.length_cons, List.length_nil, List.getElem?_cons_zero, List.getElem?_cons_succ, xmap_s, if_true, and_self, Nat.reduceAdd, Nat.reduceLT, Nat.reduceLeDiff, Nat.reduceEqDiff, Nat.lt_add_one, Nat.zero_le, Nat.le_refl, Nat.le_zero_eq, Nat.zero_lt_succ, xldc, kbm10, kbm9, kbm8, kbm7, kbm6, kbm5, kbm4, kbm3, kbm2, kb6, kb7, kb8, kb9, kb10, kb11, kb16, kb19, kb20, kb30, kb31, kb32, kb34, kb40, kb64, kb100, kb127, kim1, ki0, ki1, ki2, ki3, ki4, ki5, ks128, ks400, ks999, ks1000, ks4010])
        try simp (disch := omega) only [nx10, nx4, nx32, nxa0, nxa1, nxa2, nxa3, nxa4, nxa5, nxa6, nxa7, nxa8, nxa9, nxa10, nxs1, nxs10, nxss, nI_add, nI_clamp, mnar0, mnar1, Nat.add_sub_cancel]
        refine l_il rfl (nIn (by omega) (by omega)) ?_
        try dsimp only [Nat.reduceAdd]
        try simp (disch := omega) only [nx10, nx4, nx32, nxa0, nxa1, nxa2, nxa3, nxa4, nxa5, nxa6, nxa7, nxa8, nxa9, nxa10, nxs1, nxs10, nxss, nI_add, nI_clamp, mnar0, mnar1, Nat.add_sub_cancel]
        iterate 4 (refine ok_st rfl rfl ?_; simp only [okS_some, xst, xp0, xp1, xp2, xp3, xp4, xp5, xload, xstore, xget_0, xget_s, xs_0, xs_1n, xs_1i, xs_1r, xs_1u, xs_1l, xs_s, xt_0, xt_1n, xt_1i, xt_1r, xt_1u, xt_1l, xt_s, xisref, xq0, Value.category, xcat, List.map_nil, List.map_cons, List.sum_nil, List.sum_cons, List.length_cons, List.length_nil, List.getElem?_cons_zero, List.getElem?_cons_succ, xmap_s, if_true, and_self, Nat.reduceAdd, Nat.reduceLT, Nat.reduceLeDiff, Nat.reduceEqDiff, Nat.lt_add_one, Nat.zero_le, Nat.le_refl, Nat.le_zero_eq, Nat.zero_lt_succ, xldc, kbm10, kbm9, kbm8, kbm7, kbm6, kbm5, kbm4, kbm3, kbm2, kb6, kb7, kb8, kb9, kb10, kb11, kb16, kb19, kb20, kb30, kb31, kb32, kb34, kb40, kb64, kb100, kb127, kim1, ki0, ki1, ki2, ki3, ki4, ki5, ks128, ks400, ks999, ks1000, ks4010])
        try simp (disch := omega) only [nx10, nx4, nx32, nxa0, nxa1, nxa2, nxa3, nxa4, nxa5, nxa6, nxa7, nxa8, nxa9, nxa10, nxs1, nxs10, nxss, nI_add, nI_clamp, mnar0, mnar1, Nat.add_sub_cancel]
        refine l_il rfl (nIn (by omega) (by omega)) ?_
        try dsimp only [Nat.reduceAdd]
        try simp (disch := omega) only [nx10, nx4, nx32, nxa0, nxa1, nxa2, nxa3, nxa4, nxa5, nxa6, nxa7, nxa8, nxa9, nxa10, nxs1, nxs10, nxss, nI_add, nI_clamp, mnar0, mnar1, Nat.add_sub_cancel]
        refine ok_cm (vs := [_, _, _]) rfl rfl rfl rfl (Nat.le_of_ble_eq_true rfl) (Nat.le_of_ble_eq_true rfl) (by show xcl0 2 9 _ _ = true; simp [xcl0, hm.1]) (by decide) hW (sp115 hW hm hj) ?_
        rintro _ h296 ⟨⟨x300, rfl⟩, S1, A1, B1, M1, hm, hj, hs⟩ k297 al298
        dsimp only [Option.toList, List.cons_append, List.nil_append, Nat.reduceAdd]
        have hW := k297.1
        have z301 := al298 rfl
        try dsimp only at z301
        have hI := hI.kp k297 (by decide)
        have hS2 := hs.trans hS2
        iterate 3 (refine ok_st rfl rfl ?_; simp only [okS_some, xst, xp0, xp1, xp2, xp3, xp4, xp5, xload, xstore, xget_0, xget_s, xs_0, xs_1n, xs_1i, xs_1r, xs_1u, xs_1l, xs_s, xt_0, xt_1n, xt_1i, xt_1r, xt_1u, xt_1l, xt_s, xisref, xq0, Value.category, xcat, List.map_nil, List.map_cons, List.sum_nil, List.sum_cons, List.length_cons, List.length_nil, List.getElem?_cons_zero, List.getElem?_cons_succ, xmap_s, if_true, and_self, Nat.reduceAdd, Nat.reduceLT, Nat.reduceLeDiff, Nat.reduceEqDiff, Nat.lt_add_one, Nat.zero_le, Nat.le_refl, Nat.le_zero_eq, Nat.zero_lt_succ, xldc, kbm10, kbm9, kbm8, kbm7, kbm6, kbm5, kbm4, kbm3, kbm2, kb6, kb7, kb8, kb9, kb10, kb11, kb16, kb19, kb20, kb30, kb31, kb32, kb34, kb40, kb64, kb100, kb127, kim1, ki0, ki1, ki2, ki3, ki4, ki5, ks128, ks400, ks999, ks1000, ks4010])
        try simp (disch := omega) only [nx10, nx4, nx32, nxa0, nxa1, nxa2, nxa3, nxa4, nxa5, nxa6, nxa7, nxa8, nxa9, nxa10, nxs1, nxs10, nxss, nI_add, nI_clamp, mnar0, mnar1, Nat.add_sub_cancel]
        refine ok_st rfl rfl ?_
        simp only [okS_some, xst, xp0, xp1, xp2, xp3, xp4, xp5, xload, xstore, xget_0, xget_s, xs_0, xs_1n, xs_1i, xs_1r, xs_1u, xs_1l, xs_s, xt_0, xt_1n, xt_1i, xt_1r, xt_1u, xt_1l, xt_s, xisref, xq0, Value.category, xcat, List.map_nil, List.map_cons, List.sum_nil, List.sum_cons, List.length_cons, List.length_nil, List.getElem?_cons_zero, List.getElem?_cons_succ, xmap_s, if_true, and_self, Nat.reduceAdd, Nat.reduceLT, Nat.reduceLeDiff, Nat.reduceEqDiff, Nat.lt_add_one, Nat.zero_le, Nat.le_refl, Nat.le_zero_eq, Nat.zero_lt_succ, xldc, kbm10, kbm9, kbm8, kbm7, kbm6, kbm5, kbm4, kbm3, kbm2, kb6, kb7, kb8, kb9, kb10, kb11, kb16, kb19, kb20, kb30, kb31, kb32, kb34, kb40, kb64, kb100, kb127, kim1, ki0, ki1, ki2, ki3, ki4, ki5, ks128, ks400, ks999, ks1000, ks4010]
        rw [show nI (8 * i) + Int32.ofInt 8 = nI (8 * (i + 1)) from nI_add (8 * i) 8]
        exact ih (i := i + 1) hW ⟨_, _, _, _, _, _, _, hI.up (by omega), hm, hj, hS2, by omega, by omega⟩ (by omega) (by omega)
      · skip
        iterate 5 (refine ok_st rfl rfl ?_; simp only [okS_some, xst, xp0, xp1, xp2, xp3, xp4, xp5, xload, xstore, xget_0, xget_s, xs_0, xs_1n, xs_1i, xs_1r, xs_1u, xs_1l, xs_s, xt_0, xt_1n, xt_1i, xt_1r, xt_1u, xt_1l, xt_s, xisref, xq0, Value.category, xcat, List.map_nil, List.map_cons, List.sum_nil, List.sum_cons, List.length_cons, List.length_nil, List.getElem?_cons_zero, List.getElem?_cons_succ, xmap_s, if_true, and_self, Nat.reduceAdd, Nat.reduceLT, Nat.reduceLeDiff, Nat.reduceEqDiff, Nat.lt_add_one, Nat.zero_le, Nat.le_refl, Nat.le_zero_eq, Nat.zero_lt_succ, xldc, kbm10, kbm9, kbm8, kbm7, kbm6, kbm5, kbm4, kbm3, kbm2, kb6, kb7, kb8, kb9, kb10, kb11, kb16, kb19, kb20, kb30, kb31, kb32, kb34, kb40, kb64, kb100, kb127, kim1, ki0, ki1, ki2, ki3, ki4, ki5, ks128, ks400, ks999, ks1000, ks4010])
        try simp (disch := omega) only [nx10, nx4, nx32, nxa0, nxa1, nxa2, nxa3, nxa4, nxa5, nxa6, nxa7, nxa8, nxa9, nxa10, nxs1, nxs10, nxss, nI_add, nI_clamp, mnar0, mnar1, Nat.add_sub_cancel]
        refine l_il rfl (nIn (by omega) (by omega)) ?_
        try dsimp only [Nat.reduceAdd]
        try simp (disch := omega) only [nx10, nx4, nx32, nxa0, nxa1, nxa2, nxa3, nxa4, nxa5, nxa6, nxa7, nxa8, nxa9, nxa10, nxs1, nxs10, nxss, nI_add, nI_clamp, mnar0, mnar1, Nat.add_sub_cancel]
        iterate 4 (refine ok_st rfl rfl ?_; simp only [okS_some, xst, xp0, xp1, xp2, xp3, xp4, xp5, xload, xstore, xget_0, xget_s, xs_0, xs_1n, xs_1i, xs_1r, xs_1u, xs_1l, xs_s, xt_0, xt_1n, xt_1i, xt_1r, xt_1u, xt_1l, xt_s, xisref, xq0, Value.category, xcat, List.map_nil, List.map_cons, List.sum_nil, List.sum_cons, List.length_cons, List.length_nil, List.getElem?_cons_zero, List.getElem?_cons_succ, xmap_s, if_true, and_self, Nat.reduceAdd, Nat.reduceLT, Nat.reduceLeDiff, Nat.reduceEqDiff, Nat.lt_add_one, Nat.zero_le, Nat.le_refl, Nat.le_zero_eq, Nat.zero_lt_succ, xldc, kbm10, kbm9, kbm8, kbm7, kbm6, kbm5, kbm4, kbm3, kbm2, kb6, kb7, kb8, kb9, kb10, kb11, kb16, kb19, kb20, kb30, kb31, kb32, kb34, kb40, kb64, kb100, kb127, kim1, ki0, ki1, ki2, ki3, ki4, ki5, ks128, ks400, ks999, ks1000, ks4010])
        try simp (disch := omega) only [nx10, nx4, nx32, nxa0, nxa1, nxa2, nxa3, nxa4, nxa5, nxa6, nxa7, nxa8, nxa9, nxa10, nxs1, nxs10, nxss, nI_add, nI_clamp, mnar0, mnar1, Nat.add_sub_cancel]
        refine l_il rfl (nIn (by omega) (by omega)) ?_
        try dsimp only [Nat.reduceAdd]
        try simp (disch := omega) only [nx10, nx4, nx32, nxa0, nxa1, nxa2, nxa3, nxa4, nxa5, nxa6, nxa7, nxa8, nxa9, nxa10, nxs1, nxs10, nxss, nI_add, nI_clamp, mnar0, mnar1, Nat.add_sub_cancel]
        iterate 4 (refine ok_st rfl rfl ?_; simp only [okS_some, xst, xp0, xp1, xp2, xp3, xp4, xp5, xload, xstore, xget_0, xget_s, xs_0, xs_1n, xs_1i, xs_1r, xs_1u, xs_1l, xs_s, xt_0, xt_1n, xt_1i, xt_1r, xt_1u, xt_1l, xt_s, xisref, xq0, Value.category, xcat, List.map_nil, List.map_cons, List.sum_nil, List.sum_cons, List.length_cons, List.length_nil, List.getElem?_cons_zero, List.getElem?_cons_succ, xmap_s, if_true, and_self, Nat.reduceAdd, Nat.reduceLT, Nat.reduceLeDiff, Nat.reduceEqDiff, Nat.lt_add_one, Nat.zero_le, Nat.le_refl, Nat.le_zero_eq, Nat.zero_lt_succ, xldc, kbm10, kbm9, kbm8, kbm7, kbm6, kbm5, kbm4, kbm3, kbm2, kb6, kb7, kb8, kb9, kb10, kb11, kb16, kb19, kb20, kb30, kb31, kb32, kb34, kb40, kb64, kb100, kb127, kim1, ki0, ki1, ki2, ki3, ki4, ki5, ks128, ks400, ks999, ks1000, ks4010])
        try simp (disch := omega) only [nx10, nx4, nx32, nxa0, nxa1, nxa2, nxa3, nxa4, nxa5, nxa6, nxa7, nxa8, nxa9, nxa10, nxs1, nxs10, nxss, nI_add, nI_clamp, mnar0, mnar1, Nat.add_sub_cancel]
        refine l_il rfl (nIn (by omega) (by omega)) ?_
        try dsimp only [Nat.reduceAdd]
        try simp (disch := omega) only [nx10, nx4, nx32, nxa0, nxa1, nxa2, nxa3, nxa4, nxa5, nxa6, nxa7, nxa8, nxa9, nxa10, nxs1, nxs10, nxss, nI_add, nI_clamp, mnar0, mnar1, Nat.add_sub_cancel]
        refine ok_cm (vs := [_, _, _, _]) rfl rfl rfl rfl (Nat.le_of_ble_eq_true rfl) (Nat.le_of_ble_eq_true rfl) (by show xcl0 2 8 _ _ = true; simp [xcl0, hI.1]) (by decide) hW (sp59 hW hI) ?_
        rintro _ h302 ⟨x306, rfl⟩ k303 al304
        dsimp only [Option.toList, List.cons_append, List.nil_append, Nat.reduceAdd]
        have hW := k303.1
        have z309 := al304 rfl
        try dsimp only at z309
        obtain ⟨B, hm⟩ := hm.kq k303 (by decide)
        have hI := hI.kp k303 (by decide)
        iterate 6 (refine ok_st rfl rfl ?_; simp only [okS_some, xst, xp0, xp1, xp2, xp3, xp4, xp5, xload, xstore, xget_0, xget_s, xs_0, xs_1n, xs_1i, xs_1r, xs_1u, xs_1l, xs_s, xt_0, xt_1n, xt_1i, xt_1r, xt_1u, xt_1l, xt_s, xisref, xq0, Value.category, xcat, List.map_nil, List.map_cons, List.sum_nil, List.sum_cons, List.length_cons, List.length_nil, List.getElem?_cons_zero, List.getElem?_cons_succ, xmap_s, if_true, and_self, Nat.reduceAdd, Nat.reduceLT, Nat.reduceLeDiff, Nat.reduceEqDiff, Nat.lt_add_one, Nat.zero_le, Nat.le_refl, Nat.le_zero_eq, Nat.zero_lt_succ, xldc, kbm10, kbm9, kbm8, kbm7, kbm6, kbm5, kbm4, kbm3, kbm2, kb6, kb7, kb8, kb9, kb10, kb11, kb16, kb19, kb20, kb30, kb31, kb32, kb34, kb40, kb64, kb100, kb127, kim1, ki0, ki1, ki2, ki3, ki4, ki5, ks128, ks400, ks999, ks1000, ks4010])
        try simp (disch := omega) only [nx10, nx4, nx32, nxa0, nxa1, nxa2, nxa3, nxa4, nxa5, nxa6, nxa7, nxa8, nxa9, nxa10, nxs1, nxs10, nxss, nI_add, nI_clamp, mnar0, mnar1, Nat.add_sub_cancel]
        refine l_il rfl (nIn (by omega) (by omega)) ?_
        try dsimp only [Nat.reduceAdd]
        try simp (disch := omega) only [nx10, nx4, nx32, nxa0, nxa1, nxa2, nxa3, nxa4, nxa5, nxa6, nxa7, nxa8, nxa9, nxa10, nxs1, nxs10, nxss, nI_add, nI_clamp, mnar0, mnar1, Nat.add_sub_cancel]
        iterate 4 (refine ok_st rfl rfl ?_; simp only [okS_some, xst, xp0, xp1, xp2, xp3, xp4, xp5, xload, xstore, xget_0, xget_s, xs_0, xs_1n, xs_1i, xs_1r, xs_1u, xs_1l, xs_s, xt_0, xt_1n, xt_1i, xt_1r, xt_1u, xt_1l, xt_s, xisref, xq0, Value.category, xcat, List.map_nil, List.map_cons, List.sum_nil, List.sum_cons, List.length_cons, List.length_nil, List.getElem?_cons_zero, List.getElem?_cons_succ, xmap_s, if_true, and_self, Nat.reduceAdd, Nat.reduceLT, Nat.reduceLeDiff, Nat.reduceEqDiff, Nat.lt_add_one, Nat.zero_le, Nat.le_refl, Nat.le_zero_eq, Nat.zero_lt_succ, xldc, kbm10, kbm9, kbm8, kbm7, kbm6, kbm5, kbm4, kbm3, kbm2, kb6, kb7, kb8, kb9, kb10, kb11, kb16, kb19, kb20, kb30, kb31, kb32, kb34, kb40, kb64, kb100, kb127, kim1, ki0, ki1, ki2, ki3, ki4, ki5, ks128, ks400, ks999, ks1000, ks4010])
        try simp (disch := omega) only [nx10, nx4, nx32, nxa0, nxa1, nxa2, nxa3, nxa4, nxa5, nxa6, nxa7, nxa8, nxa9, nxa10, nxs1, nxs10, nxss, nI_add, nI_clamp, mnar0, mnar1, Nat.add_sub_cancel]
        refine l_il rfl (nIn (by omega) (by omega)) ?_
        try dsimp only [Nat.reduceAdd]
        try simp (disch := omega) only [nx10, nx4, nx32, nxa0, nxa1, nxa2, nxa3, nxa4, nxa5, nxa6, nxa7, nxa8, nxa9, nxa10, nxs1, nxs10, nxss, nI_add, nI_clamp, mnar0, mnar1, Nat.add_sub_cancel]
        iterate 4 (refine ok_st rfl rfl ?_; simp only [okS_some, xst, xp0, xp1, xp2, xp3, xp4, xp5, xload, xstore, xget_0, xget_s, xs_0, xs_1n, xs_1i, xs_1r, xs_1u, xs_1l, xs_s, xt_0, xt_1n, xt_1i, xt_1r, xt_1u, xt_1l, xt_s, xisref, xq0, Value.category, xcat, List.map_nil, List.map_cons, List.sum_nil, List.sum_cons, List.length_cons, List.length_nil, List.getElem?_cons_zero, List.getElem?_cons_succ, xmap_s, if_true, and_self, Nat.reduceAdd, Nat.reduceLT, Nat.reduceLeDiff, Nat.reduceEqDiff, Nat.lt_add_one, Nat.zero_le, Nat.le_refl, Nat.le_zero_eq, Nat.zero_lt_succ, xldc, kbm10, kbm9, kbm8, kbm7, kbm6, kbm5, kbm4, kbm3, kbm2, kb6, kb7, kb8, kb9, kb10, kb11, kb16, kb19, kb20, kb30, kb31, kb32, kb34, kb40, kb64, kb100, kb127, kim1, ki0, ki1, ki2, ki3, ki4, ki5, ks128, ks400, ks999, ks1000, ks4010])
        try simp (disch := omega) only [nx10, nx4, nx32, nxa0, nxa1, nxa2, nxa3, nxa4, nxa5, nxa6, nxa7, nxa8, nxa9, nxa10, nxs1, nxs10, nxss, nI_add, nI_clamp, mnar0, mnar1, Nat.add_sub_cancel]
        refine l_il rfl (nIn (by omega) (by omega)) ?_
        try dsimp only [Nat.reduceAdd]
        try simp (disch := omega) only [nx10, nx4, nx32, nxa0, nxa1, nxa2, nxa3, nxa4, nxa5, nxa6, nxa7, nxa8, nxa9, nxa10, nxs1, nxs10, nxss, nI_add, nI_clamp, mnar0, mnar1, Nat.add_sub_cancel]
        refine ok_cm (vs := [_, _, _, _]) rfl rfl rfl rfl (Nat.le_of_ble_eq_true rfl) (Nat.le_of_ble_eq_true rfl) (by show xcl0 2 9 _ _ = true; simp [xcl0, hm.1]) (by decide) hW (sp116 hW hm hj) ?_
        rintro _ h310 ⟨⟨x314, rfl⟩, S1, A1, B1, M1, hm, hj, hs⟩ k311 al312
        dsimp only [Option.toList, List.cons_append, List.nil_append, Nat.reduceAdd]
        have hW := k311.1
        have z315 := al312 rfl
        try dsimp only at z315
        have hI := hI.kp k311 (by decide)
        have hS2 := hs.trans hS2
        iterate 3 (refine ok_st rfl rfl ?_; simp only [okS_some, xst, xp0, xp1, xp2, xp3, xp4, xp5, xload, xstore, xget_0, xget_s, xs_0, xs_1n, xs_1i, xs_1r, xs_1u, xs_1l, xs_s, xt_0, xt_1n, xt_1i, xt_1r, xt_1u, xt_1l, xt_s, xisref, xq0, Value.category, xcat, List.map_nil, List.map_cons, List.sum_nil, List.sum_cons, List.length_cons, List.length_nil, List.getElem?_cons_zero, List.getElem?_cons_succ, xmap_s, if_true, and_self, Nat.reduceAdd, Nat.reduceLT, Nat.reduceLeDiff, Nat.reduceEqDiff, Nat.lt_add_one, Nat.zero_le, Nat.le_refl, Nat.le_zero_eq, Nat.zero_lt_succ, xldc, kbm10, kbm9, kbm8, kbm7, kbm6, kbm5, kbm4, kbm3, kbm2, kb6, kb7, kb8, kb9, kb10, kb11, kb16, kb19, kb20, kb30, kb31, kb32, kb34, kb40, kb64, kb100, kb127, kim1, ki0, ki1, ki2, ki3, ki4, ki5, ks128, ks400, ks999, ks1000, ks4010])
        try simp (disch := omega) only [nx10, nx4, nx32, nxa0, nxa1, nxa2, nxa3, nxa4, nxa5, nxa6, nxa7, nxa8, nxa9, nxa10, nxs1, nxs10, nxss, nI_add, nI_clamp, mnar0, mnar1, Nat.add_sub_cancel]
        refine ok_st rfl rfl ?_
        simp only [okS_some, xst, xp0, xp1, xp2, xp3, xp4, xp5, xload, xstore, xget_0, xget_s, xs_0, xs_1n, xs_1i, xs_1r, xs_1u, xs_1l, xs_s, xt_0, xt_1n, xt_1i, xt_1r, xt_1u, xt_1l, xt_s, xisref, xq0, Value.category, xcat, List.map_nil, List.map_cons, List.sum_nil, List.sum_cons, List.length_cons, List.length_nil, List.getElem?_cons_zero, List.getElem?_cons_succ, xmap_s, if_true, and_self, Nat.reduceAdd, Nat.reduceLT, Nat.reduceLeDiff, Nat.reduceEqDiff, Nat.lt_add_one, Nat.zero_le, Nat.le_refl, Nat.le_zero_eq, Nat.zero_lt_succ, xldc, kbm10, kbm9, kbm8, kbm7, kbm6, kbm5, kbm4, kbm3, kbm2, kb6, kb7, kb8, kb9, kb10, kb11, kb16, kb19, kb20, kb30, kb31, kb32, kb34, kb40, kb64, kb100, kb127, kim1, ki0, ki1, ki2, ki3, ki4, ki5, ks128, ks400, ks999, ks1000, ks4010]
        rw [show nI (8 * i) + Int32.ofInt 8 = nI (8 * (i + 1)) from nI_add (8 * i) 8]
        exact ih (i := i + 1) hW ⟨_, _, _, _, _, _, _, hI.up (by omega), hm, hj, hS2, by omega, by omega⟩ (by omega) (by omega)
      · skip
        refine ok_st rfl rfl ?_
        simp only [okS_some, xst, xp0, xp1, xp2, xp3, xp4, xp5, xload, xstore, xget_0, xget_s, xs_0, xs_1n, xs_1i, xs_1r, xs_1u, xs_1l, xs_s, xt_0, xt_1n, xt_1i, xt_1r, xt_1u, xt_1l, xt_s, xisref, xq0, Value.category, xcat, List.map_nil, List.map_cons, List.sum_nil, List.sum_cons, List.length_cons, List.length_nil, List.getElem?_cons_zero, List.getElem?_cons_succ, xmap_s, if_true, and_self, Nat.reduceAdd, Nat.reduceLT, Nat.reduceLeDiff, Nat.reduceEqDiff, Nat.lt_add_one, Nat.zero_le, Nat.le_refl, Nat.le_zero_eq, Nat.zero_lt_succ, xldc, kbm10, kbm9, kbm8, kbm7, kbm6, kbm5, kbm4, kbm3, kbm2, kb6, kb7, kb8, kb9, kb10, kb11, kb16, kb19, kb20, kb30, kb31, kb32, kb34, kb40, kb64, kb100, kb127, kim1, ki0, ki1, ki2, ki3, ki4, ki5, ks128, ks400, ks999, ks1000, ks4010]
        refine ok_cm (vs := [_]) rfl rfl rfl rfl (Nat.le_of_ble_eq_true rfl) (Nat.le_of_ble_eq_true rfl) (by show xcl0 2 8 _ _ = true; simp [xcl0, hI.1]) (by decide) hW (ex60 hW hI) ?_
        rintro _ h316 ⟨⟨rfl, hI, n1⟩ | ⟨rfl, hI, n2⟩, z1, z2⟩ k317 al318
        · dsimp only [Option.toList, List.cons_append, List.nil_append, Nat.reduceAdd]
          try dsimp only at z1 z2
          have hW := k317.1
          obtain ⟨B, hm⟩ := hm.kq k317 (by decide)
          refine ok_st rfl rfl ?_
          simp only [okS_some, xst, xp0, xp1, xp2, xp3, xp4, xp5, xload, xstore, xget_0, xget_s, xs_0, xs_1n, xs_1i, xs_1r, xs_1u, xs_1l, xs_s, xt_0, xt_1n, xt_1i, xt_1r, xt_1u, xt_1l, xt_s, xisref, xq0, Value.category, xcat, List.map_nil, List.map_cons, List.sum_nil, List.sum_cons, List.length_cons, List.length_nil, List.getElem?_cons_zero, List.getElem?_cons_succ, xmap_s, if_true, and_self, Nat.reduceAdd, Nat.reduceLT, Nat.reduceLeDiff, Nat.reduceEqDiff, Nat.lt_add_one, Nat.zero_le, Nat.le_refl, Nat.le_zero_eq, Nat.zero_lt_succ, xldc, kbm10, kbm9, kbm8, kbm7, kbm6, kbm5, kbm4, kbm3, kbm2, kb6, kb7, kb8, kb9, kb10, kb11, kb16, kb19, kb20, kb30, kb31, kb32, kb34, kb40, kb64, kb100, kb127, kim1, ki0, ki1, ki2, ki3, ki4, ki5, ks128, ks400, ks999, ks1000, ks4010]
          refine ok_cm (vs := [_]) rfl rfl rfl rfl (Nat.le_of_ble_eq_true rfl) (Nat.le_of_ble_eq_true rfl) (by show xcl0 2 9 _ _ = true; simp [xcl0, hm.1]) (by decide) hW (sp117 hW hm hj) ?_
          rintro _ h321 ⟨DD, ⟨rfl, rfl, m1⟩ | ⟨rfl, rfl, m2⟩, S1, A1, B1, M1, hm, hj2, hs⟩ k322 al323
          · dsimp only [Option.toList, List.cons_append, List.nil_append, Nat.reduceAdd]
            have hW := k322.1
            have z325 := al323 rfl
            try dsimp only at z325
            have hI := hI.kp k322 (by decide)
            have hj := hj2
            have hS2 := hs.trans hS2
            refine ok_st rfl rfl ?_
            simp only [okS_some, xst, xp0, xp1, xp2, xp3, xp4, xp5, xload, xstore, xget_0, xget_s, xs_0, xs_1n, xs_1i, xs_1r, xs_1u, xs_1l, xs_s, xt_0, xt_1n, xt_1i, xt_1r, xt_1u, xt_1l, xt_s, xisref, xq0, Value.category, xcat, List.map_nil, List.map_cons, List.sum_nil, List.sum_cons, List.length_cons, List.length_nil, List.getElem?_cons_zero, List.getElem?_cons_succ, xmap_s, if_true, and_self, Nat.reduceAdd, Nat.reduceLT, Nat.reduceLeDiff, Nat.reduceEqDiff, Nat.lt_add_one, Nat.zero_le, Nat.le_refl, Nat.le_zero_eq, Nat.zero_lt_succ, xldc, kbm10, kbm9, kbm8, kbm7, kbm6, kbm5, kbm4, kbm3, kbm2, kb6, kb7, kb8, kb9, kb10, kb11, kb16, kb19, kb20, kb30, kb31, kb32, kb34, kb40, kb64, kb100, kb127, kim1, ki0, ki1, ki2, ki3, ki4, ki5, ks128, ks400, ks999, ks1000, ks4010]
            refine ok_bt rfl ?_
            refine ok_st rfl rfl ?_
            simp only [okS_some, xst, xp0, xp1, xp2, xp3, xp4, xp5, xload, xstore, xget_0, xget_s, xs_0, xs_1n, xs_1i, xs_1r, xs_1u, xs_1l, xs_s, xt_0, xt_1n, xt_1i, xt_1r, xt_1u, xt_1l, xt_s, xisref, xq0, Value.category, xcat, List.map_nil, List.map_cons, List.sum_nil, List.sum_cons, List.length_cons, List.length_nil, List.getElem?_cons_zero, List.getElem?_cons_succ, xmap_s, if_true, and_self, Nat.reduceAdd, Nat.reduceLT, Nat.reduceLeDiff, Nat.reduceEqDiff, Nat.lt_add_one, Nat.zero_le, Nat.le_refl, Nat.le_zero_eq, Nat.zero_lt_succ, xldc, kbm10, kbm9, kbm8, kbm7, kbm6, kbm5, kbm4, kbm3, kbm2, kb6, kb7, kb8, kb9, kb10, kb11, kb16, kb19, kb20, kb30, kb31, kb32, kb34, kb40, kb64, kb100, kb127, kim1, ki0, ki1, ki2, ki3, ki4, ki5, ks128, ks400, ks999, ks1000, ks4010]
            try simp (disch := omega) only [nx10, nx4, nx32, nxa0, nxa1, nxa2, nxa3, nxa4, nxa5, nxa6, nxa7, nxa8, nxa9, nxa10, nxs1, nxs10, nxss, nI_add, nI_clamp, mnar0, mnar1, Nat.add_sub_cancel]
            refine ok_st rfl rfl ?_
            simp only [okS_some, xst, xp0, xp1, xp2, xp3, xp4, xp5, xload, xstore, xget_0, xget_s, xs_0, xs_1n, xs_1i, xs_1r, xs_1u, xs_1l, xs_s, xt_0, xt_1n, xt_1i, xt_1r, xt_1u, xt_1l, xt_s, xisref, xq0, Value.category, xcat, List.map_nil, List.map_cons, List.sum_nil, List.sum_cons, List.length_cons, List.length_nil, List.getElem?_cons_zero, List.getElem?_cons_succ, xmap_s, if_true, and_self, Nat.reduceAdd, Nat.reduceLT, Nat.reduceLeDiff, Nat.reduceEqDiff, Nat.lt_add_one, Nat.zero_le, Nat.le_refl, Nat.le_zero_eq, Nat.zero_lt_succ, xldc, kbm10, kbm9, kbm8, kbm7, kbm6, kbm5, kbm4, kbm3, kbm2, kb6, kb7, kb8, kb9, kb10, kb11, kb16, kb19, kb20, kb30, kb31, kb32, kb34, kb40, kb64, kb100, kb127, kim1, ki0, ki1, ki2, ki3, ki4, ki5, ks128, ks400, ks999, ks1000, ks4010]
            rw [show nI (8 * i) + Int32.ofInt 8 = nI (8 * (i + 1)) from nI_add (8 * i) 8]
            exact ih (i := i + 1) hW ⟨_, _, _, _, _, _, _, hI.up (by omega), hm, hj, hS2, by omega, by omega⟩ (by omega) (by omega)
          · dsimp only [Option.toList, List.cons_append, List.nil_append, Nat.reduceAdd]
            exact absurd (dk10.mpr m2) n1
        · dsimp only [Option.toList, List.cons_append, List.nil_append, Nat.reduceAdd]
          try dsimp only at z1 z2
          have hW := k317.1
          obtain ⟨B, hm⟩ := hm.kq k317 (by decide)
          refine ok_st rfl rfl ?_
          simp only [okS_some, xst, xp0, xp1, xp2, xp3, xp4, xp5, xload, xstore, xget_0, xget_s, xs_0, xs_1n, xs_1i, xs_1r, xs_1u, xs_1l, xs_s, xt_0, xt_1n, xt_1i, xt_1r, xt_1u, xt_1l, xt_s, xisref, xq0, Value.category, xcat, List.map_nil, List.map_cons, List.sum_nil, List.sum_cons, List.length_cons, List.length_nil, List.getElem?_cons_zero, List.getElem?_cons_succ, xmap_s, if_true, and_self, Nat.reduceAdd, Nat.reduceLT, Nat.reduceLeDiff, Nat.reduceEqDiff, Nat.lt_add_one, Nat.zero_le, Nat.le_refl, Nat.le_zero_eq, Nat.zero_lt_succ, xldc, kbm10, kbm9, kbm8, kbm7, kbm6, kbm5, kbm4, kbm3, kbm2, kb6, kb7, kb8, kb9, kb10, kb11, kb16, kb19, kb20, kb30, kb31, kb32, kb34, kb40, kb64, kb100, kb127, kim1, ki0, ki1, ki2, ki3, ki4, ki5, ks128, ks400, ks999, ks1000, ks4010]
          refine ok_cm (vs := [_]) rfl rfl rfl rfl (Nat.le_of_ble_eq_true rfl) (Nat.le_of_ble_eq_true rfl) (by show xcl0 2 9 _ _ = true; simp [xcl0, hm.1]) (by decide) hW (sp117 hW hm hj) ?_
          rintro _ h327 ⟨DD, ⟨rfl, rfl, m1⟩ | ⟨rfl, rfl, m2⟩, S1, A1, B1, M1, hm, hj2, hs⟩ k328 al329
          · dsimp only [Option.toList, List.cons_append, List.nil_append, Nat.reduceAdd]
            exact absurd (dk10.mp n2) (by omega)
          · dsimp only [Option.toList, List.cons_append, List.nil_append, Nat.reduceAdd]
            have hW := k328.1
            have z331 := al329 rfl
            try dsimp only at z331
            have hI := hI.kp k328 (by decide)
            have hj := hj2
            rw [nxa1] at hI
            have hS2 := hs.trans hS2
            refine ok_st rfl rfl ?_
            simp only [okS_some, xst, xp0, xp1, xp2, xp3, xp4, xp5, xload, xstore, xget_0, xget_s, xs_0, xs_1n, xs_1i, xs_1r, xs_1u, xs_1l, xs_s, xt_0, xt_1n, xt_1i, xt_1r, xt_1u, xt_1l, xt_s, xisref, xq0, Value.category, xcat, List.map_nil, List.map_cons, List.sum_nil, List.sum_cons, List.length_cons, List.length_nil, List.getElem?_cons_zero, List.getElem?_cons_succ, xmap_s, if_true, and_self, Nat.reduceAdd, Nat.reduceLT, Nat.reduceLeDiff, Nat.reduceEqDiff, Nat.lt_add_one, Nat.zero_le, Nat.le_refl, Nat.le_zero_eq, Nat.zero_lt_succ, xldc, kbm10, kbm9, kbm8, kbm7, kbm6, kbm5, kbm4, kbm3, kbm2, kb6, kb7, kb8, kb9, kb10, kb11, kb16, kb19, kb20, kb30, kb31, kb32, kb34, kb40, kb64, kb100, kb127, kim1, ki0, ki1, ki2, ki3, ki4, ki5, ks128, ks400, ks999, ks1000, ks4010]
            refine ok_bt (decide_eq_true rfl) ?_
            refine ok_st rfl rfl ?_
            simp only [okS_some, xst, xp0, xp1, xp2, xp3, xp4, xp5, xload, xstore, xget_0, xget_s, xs_0, xs_1n, xs_1i, xs_1r, xs_1u, xs_1l, xs_s, xt_0, xt_1n, xt_1i, xt_1r, xt_1u, xt_1l, xt_s, xisref, xq0, Value.category, xcat, List.map_nil, List.map_cons, List.sum_nil, List.sum_cons, List.length_cons, List.length_nil, List.getElem?_cons_zero, List.getElem?_cons_succ, xmap_s, if_true, and_self, Nat.reduceAdd, Nat.reduceLT, Nat.reduceLeDiff, Nat.reduceEqDiff, Nat.lt_add_one, Nat.zero_le, Nat.le_refl, Nat.le_zero_eq, Nat.zero_lt_succ, xldc, kbm10, kbm9, kbm8, kbm7, kbm6, kbm5, kbm4, kbm3, kbm2, kb6, kb7, kb8, kb9, kb10, kb11, kb16, kb19, kb20, kb30, kb31, kb32, kb34, kb40, kb64, kb100, kb127, kim1, ki0, ki1, ki2, ki3, ki4, ki5, ks128, ks400, ks999, ks1000, ks4010]
            try simp (disch := omega) only [nx10, nx4, nx32, nxa0, nxa1, nxa2, nxa3, nxa4, nxa5, nxa6, nxa7, nxa8, nxa9, nxa10, nxs1, nxs10, nxss, nI_add, nI_clamp, mnar0, mnar1, Nat.add_sub_cancel]
            refine ok_st rfl rfl ?_
            simp only [okS_some, xst, xp0, xp1, xp2, xp3, xp4, xp5, xload, xstore, xget_0, xget_s, xs_0, xs_1n, xs_1i, xs_1r, xs_1u, xs_1l, xs_s, xt_0, xt_1n, xt_1i, xt_1r, xt_1u, xt_1l, xt_s, xisref, xq0, Value.category, xcat, List.map_nil, List.map_cons, List.sum_nil, List.sum_cons, List.length_cons, List.length_nil, List.getElem?_cons_zero, List.getElem?_cons_succ, xmap_s, if_true, and_self, Nat.reduceAdd, Nat.reduceLT, Nat.reduceLeDiff, Nat.reduceEqDiff, Nat.lt_add_one, Nat.zero_le, Nat.le_refl, Nat.le_zero_eq, Nat.zero_lt_succ, xldc, kbm10, kbm9, kbm8, kbm7, kbm6, kbm5, kbm4, kbm3, kbm2, kb6, kb7, kb8, kb9, kb10, kb11, kb16, kb19, kb20, kb30, kb31, kb32, kb34, kb40, kb64, kb100, kb127, kim1, ki0, ki1, ki2, ki3, ki4, ki5, ks128, ks400, ks999, ks1000, ks4010]
            rw [show nI (8 * i) + Int32.ofInt 8 = nI (8 * (i + 1)) from nI_add (8 * i) 8]
            exact ih (i := i + 1) hW ⟨_, _, _, _, _, _, _, hI.up (by omega), hm, hj, hS2, by omega, by omega⟩ (by omega) (by omega)
      · skip
        iterate 5 (refine ok_st rfl rfl ?_; simp only [okS_some, xst, xp0, xp1, xp2, xp3, xp4, xp5, xload, xstore, xget_0, xget_s, xs_0, xs_1n, xs_1i, xs_1r, xs_1u, xs_1l, xs_s, xt_0, xt_1n, xt_1i, xt_1r, xt_1u, xt_1l, xt_s, xisref, xq0, Value.category, xcat, List.map_nil, List.map_cons, List.sum_nil, List.sum_cons, List.length_cons, List.length_nil, List.getElem?_cons_zero, List.getElem?_cons_succ, xmap_s, if_true, and_self, Nat.reduceAdd, Nat.reduceLT, Nat.reduceLeDiff, Nat.reduceEqDiff, Nat.lt_add_one, Nat.zero_le, Nat.le_refl, Nat.le_zero_eq, Nat.zero_lt_succ, xldc, kbm10, kbm9, kbm8, kbm7, kbm6, kbm5, kbm4, kbm3, kbm2, kb6, kb7, kb8, kb9, kb10, kb11, kb16, kb19, kb20, kb30, kb31, kb32, kb34, kb40, kb64, kb100, kb127, kim1, ki0, ki1, ki2, ki3, ki4, ki5, ks128, ks400, ks999, ks1000, ks4010])
        try simp (disch := omega) only [nx10, nx4, nx32, nxa0, nxa1, nxa2, nxa3, nxa4, nxa5, nxa6, nxa7, nxa8, nxa9, nxa10, nxs1, nxs10, nxss, nI_add, nI_clamp, mnar0, mnar1, Nat.add_sub_cancel]
        refine l_il rfl (nIn (by omega) (by omega)) ?_
        try dsimp only [Nat.reduceAdd]
        try simp (disch := omega) only [nx10, nx4, nx32, nxa0, nxa1, nxa2, nxa3, nxa4, nxa5, nxa6, nxa7, nxa8, nxa9, nxa10, nxs1, nxs10, nxss, nI_add, nI_clamp, mnar0, mnar1, Nat.add_sub_cancel]
        iterate 4 (refine ok_st rfl rfl ?_; simp only [okS_some, xst, xp0, xp1, xp2, xp3, xp4, xp5, xload, xstore, xget_0, xget_s, xs_0, xs_1n, xs_1i, xs_1r, xs_1u, xs_1l, xs_s, xt_0, xt_1n, xt_1i, xt_1r, xt_1u, xt_1l, xt_s, xisref, xq0, Value.category, xcat, List.map_nil, List.map_cons, List.sum_nil, List.sum_cons, List.length_cons, List.length_nil, List.getElem?_cons_zero, List.getElem?_cons_succ, xmap_s, if_true, and_self, Nat.reduceAdd, Nat.reduceLT, Nat.reduceLeDiff, Nat.reduceEqDiff, Nat.lt_add_one, Nat.zero_le, Nat.le_refl, Nat.le_zero_eq, Nat.zero_lt_succ, xldc, kbm10, kbm9, kbm8, kbm7, kbm6, kbm5, kbm4, kbm3, kbm2, kb6, kb7, kb8, kb9, kb10, kb11, kb16, kb19, kb20, kb30, kb31, kb32, kb34, kb40, kb64, kb100, kb127, kim1, ki0, ki1, ki2, ki3, ki4, ki5, ks128, ks400, ks999, ks1000, ks4010])
        try simp (disch := omega) only [nx10, nx4, nx32, nxa0, nxa1, nxa2, nxa3, nxa4, nxa5, nxa6, nxa7, nxa8, nxa9, nxa10, nxs1, nxs10, nxss, nI_add, nI_clamp, mnar0, mnar1, Nat.add_sub_cancel]
        refine l_il rfl (nIn (by omega) (by omega)) ?_
        try dsimp only [Nat.reduceAdd]
        try simp (disch := omega) only [nx10, nx4, nx32, nxa0, nxa1, nxa2, nxa3, nxa4, nxa5, nxa6, nxa7, nxa8, nxa9, nxa10, nxs1, nxs10, nxss, nI_add, nI_clamp, mnar0, mnar1, Nat.add_sub_cancel]
        iterate 4 (refine ok_st rfl rfl ?_; simp only [okS_some, xst, xp0, xp1, xp2, xp3, xp4, xp5, xload, xstore, xget_0, xget_s, xs_0, xs_1n, xs_1i, xs_1r, xs_1u, xs_1l, xs_s, xt_0, xt_1n, xt_1i, xt_1r, xt_1u, xt_1l, xt_s, xisref, xq0, Value.category, xcat, List.map_nil, List.map_cons, List.sum_nil, List.sum_cons, List.length_cons, List.length_nil, List.getElem?_cons_zero, List.getElem?_cons_succ, xmap_s, if_true, and_self, Nat.reduceAdd, Nat.reduceLT, Nat.reduceLeDiff, Nat.reduceEqDiff, Nat.lt_add_one, Nat.zero_le, Nat.le_refl, Nat.le_zero_eq, Nat.zero_lt_succ, xldc, kbm10, kbm9, kbm8, kbm7, kbm6, kbm5, kbm4, kbm3, kbm2, kb6, kb7, kb8, kb9, kb10, kb11, kb16, kb19, kb20, kb30, kb31, kb32, kb34, kb40, kb64, kb100, kb127, kim1, ki0, ki1, ki2, ki3, ki4, ki5, ks128, ks400, ks999, ks1000, ks4010])
        try simp (disch := omega) only [nx10, nx4, nx32, nxa0, nxa1, nxa2, nxa3, nxa4, nxa5, nxa6, nxa7, nxa8, nxa9, nxa10, nxs1, nxs10, nxss, nI_add, nI_clamp, mnar0, mnar1, Nat.add_sub_cancel]
        refine l_il rfl (nIn (by omega) (by omega)) ?_
        try dsimp only [Nat.reduceAdd]
        try simp (disch := omega) only [nx10, nx4, nx32, nxa0, nxa1, nxa2, nxa3, nxa4, nxa5, nxa6, nxa7, nxa8, nxa9, nxa10, nxs1, nxs10, nxss, nI_add, nI_clamp, mnar0, mnar1, Nat.add_sub_cancel]
        refine ok_cm (vs := [_, _, _, _]) rfl rfl rfl rfl (Nat.le_of_ble_eq_true rfl) (Nat.le_of_ble_eq_true rfl) (by show xcl0 2 8 _ _ = true; simp [xcl0, hI.1]) (by decide) hW (sp61 hW hI (by omega)) ?_
        rintro _ h332 ⟨⟨x336, rfl⟩, hI, z337, z338⟩ k333 al334
        dsimp only [Option.toList, List.cons_append, List.nil_append, Nat.reduceAdd]
        try dsimp only at z337 z338
        have hW := k333.1
        obtain ⟨B, hm⟩ := hm.kq k333 (by decide)
        iterate 6 (refine ok_st rfl rfl ?_; simp only [okS_some, xst, xp0, xp1, xp2, xp3, xp4, xp5, xload, xstore, xget_0, xget_s, xs_0, xs_1n, xs_1i, xs_1r, xs_1u, xs_1l, xs_s, xt_0, xt_1n, xt_1i, xt_1r, xt_1u, xt_1l, xt_s, xisref, xq0, Value.category, xcat, List.map_nil, List.map_cons, List.sum_nil, List.sum_cons, List.length_cons, List.length_nil, List.getElem?_cons_zero, List.getElem?_cons_succ, xmap_s, if_true, and_self, Nat.reduceAdd, Nat.reduceLT, Nat.reduceLeDiff, Nat.reduceEqDiff, Nat.lt_add_one, Nat.zero_le, Nat.le_refl, Nat.le_zero_eq, Nat.zero_lt_succ, xldc, kbm10, kbm9, kbm8, kbm7, kbm6, kbm5, kbm4, kbm3, kbm2, kb6, kb7, kb8, kb9, kb10, kb11, kb16, kb19, kb20, kb30, kb31, kb32, kb34, kb40, kb64, kb100, kb127, kim1, ki0, ki1, ki2, ki3, ki4, ki5, ks128, ks400, ks999, ks1000, ks4010])
        try simp (disch := omega) only [nx10, nx4, nx32, nxa0, nxa1, nxa2, nxa3, nxa4, nxa5, nxa6, nxa7, nxa8, nxa9, nxa10, nxs1, nxs10, nxss, nI_add, nI_clamp, mnar0, mnar1, Nat.add_sub_cancel]
        refine l_il rfl (nIn (by omega) (by omega)) ?_
        try dsimp only [Nat.reduceAdd]
        try simp (disch := omega) only [nx10, nx4, nx32, nxa0, nxa1, nxa2, nxa3, nxa4, nxa5, nxa6, nxa7, nxa8, nxa9, nxa10, nxs1, nxs10, nxss, nI_add, nI_clamp, mnar0, mnar1, Nat.add_sub_cancel]
        iterate 4 (refine ok_st rfl rfl ?_; simp only [okS_some, xst, xp0, xp1, xp2, xp3, xp4, xp5, xload, xstore, xget_0, xget_s, xs_0, xs_1n, xs_1i, xs_1r, xs_1u, xs_1l, xs_s, xt_0, xt_1n, xt_1i, xt_1r, xt_1u, xt_1l, xt_s, xisref, xq0, Value.category, xcat, List.map_nil, List.map_cons, List.sum_nil, List.sum_cons, List.length_cons, List.length_nil, List.getElem?_cons_zero, List.getElem?_cons_succ, xmap_s, if_true, and_self, Nat.reduceAdd, Nat.reduceLT, Nat.reduceLeDiff, Nat.reduceEqDiff, Nat.lt_add_one, Nat.zero_le, Nat.le_refl, Nat.le_zero_eq, Nat.zero_lt_succ, xldc, kbm10, kbm9, kbm8, kbm7, kbm6, kbm5, kbm4, kbm3, kbm2, kb6, kb7, kb8, kb9, kb10, kb11, kb16, kb19, kb20, kb30, kb31, kb32, kb34, kb40, kb64, kb100, kb127, kim1, ki0, ki1, ki2, ki3, ki4, ki5, ks128, ks400, ks999, ks1000, ks4010])
        try simp (disch := omega) only [nx10, nx4, nx32, nxa0, nxa1, nxa2, nxa3, nxa4, nxa5, nxa6, nxa7, nxa8, nxa9, nxa10, nxs1, nxs10, nxss, nI_add, nI_clamp, mnar0, mnar1, Nat.add_sub_cancel]
        refine l_il rfl (nIn (by omega) (by omega)) ?_
        try dsimp only [Nat.reduceAdd]
        try simp (disch := omega) only [nx10, nx4, nx32, nxa0, nxa1, nxa2, nxa3, nxa4, nxa5, nxa6, nxa7, nxa8, nxa9, nxa10, nxs1, nxs10, nxss, nI_add, nI_clamp, mnar0, mnar1, Nat.add_sub_cancel]
        iterate 4 (refine ok_st rfl rfl ?_; simp only [okS_some, xst, xp0, xp1, xp2, xp3, xp4, xp5, xload, xstore, xget_0, xget_s, xs_0, xs_1n, xs_1i, xs_1r, xs_1u, xs_1l, xs_s, xt_0, xt_1n, xt_1i, xt_1r, xt_1u, xt_1l, xt_s, xisref, xq0, Value.category, xcat, List.map_nil, List.map_cons, List.sum_nil, List.sum_cons, List.length_cons, List.length_nil, List.getElem?_cons_zero, List.getElem?_cons_succ, xmap_s, if_true, and_self, Nat.reduceAdd, Nat.reduceLT, Nat.reduceLeDiff, Nat.reduceEqDiff, Nat.lt_add_one, Nat.zero_le, Nat.le_refl, Nat.le_zero_eq, Nat.zero_lt_succ, xldc, kbm10, kbm9, kbm8, kbm7, kbm6, kbm5, kbm4, kbm3, kbm2, kb6, kb7, kb8, kb9, kb10, kb11, kb16, kb19, kb20, kb30, kb31, kb32, kb34, kb40, kb64, kb100, kb127, kim1, ki0, ki1, ki2, ki3, ki4, ki5, ks128, ks400, ks999, ks1000, ks4010])
        try simp (disch := omega) only [nx10, nx4, nx32, nxa0, nxa1, nxa2, nxa3, nxa4, nxa5, nxa6, nxa7, nxa8, nxa9, nxa10, nxs1, nxs10, nxss, nI_add, nI_clamp, mnar0, mnar1, Nat.add_sub_cancel]
        refine l_il rfl (nIn (by omega) (by omega)) ?_
        try dsimp only [Nat.reduceAdd]
        try simp (disch := omega) only [nx10, nx4, nx32, nxa0, nxa1, nxa2, nxa3, nxa4, nxa5, nxa6, nxa7, nxa8, nxa9, nxa10, nxs1, nxs10, nxss, nI_add, nI_clamp, mnar0, mnar1, Nat.add_sub_cancel]
        refine ok_cm (vs := [_, _, _, _]) rfl rfl rfl rfl (Nat.le_of_ble_eq_true rfl) (Nat.le_of_ble_eq_true rfl) (by show xcl0 2 9 _ _ = true; simp [xcl0, hm.1]) (by decide) hW (sp119 hW hm hj) ?_
        rintro _ h340 ⟨⟨x344, rfl⟩, S1, A1, B1, M1, hm, hj, hs⟩ k341 al342
        dsimp only [Option.toList, List.cons_append, List.nil_append, Nat.reduceAdd]
        have hW := k341.1
        have z345 := al342 rfl
        try dsimp only at z345
        have hI := hI.kp k341 (by decide)
        have hS2 := hs.trans hS2
        iterate 3 (refine ok_st rfl rfl ?_; simp only [okS_some, xst, xp0, xp1, xp2, xp3, xp4, xp5, xload, xstore, xget_0, xget_s, xs_0, xs_1n, xs_1i, xs_1r, xs_1u, xs_1l, xs_s, xt_0, xt_1n, xt_1i, xt_1r, xt_1u, xt_1l, xt_s, xisref, xq0, Value.category, xcat, List.map_nil, List.map_cons, List.sum_nil, List.sum_cons, List.length_cons, List.length_nil, List.getElem?_cons_zero, List.getElem?_cons_succ, xmap_s, if_true, and_self, Nat.reduceAdd, Nat.reduceLT, Nat.reduceLeDiff, Nat.reduceEqDiff, Nat.lt_add_one, Nat.zero_le, Nat.le_refl, Nat.le_zero_eq, Nat.zero_lt_succ, xldc, kbm10, kbm9, kbm8, kbm7, kbm6, kbm5, kbm4, kbm3, kbm2, kb6, kb7, kb8, kb9, kb10, kb11, kb16, kb19, kb20, kb30, kb31, kb32, kb34, kb40, kb64, kb100, kb127, kim1, ki0, ki1, ki2, ki3, ki4, ki5, ks128, ks400, ks999, ks1000, ks4010])
        try simp (disch := omega) only [nx10, nx4, nx32, nxa0, nxa1, nxa2, nxa3, nxa4, nxa5, nxa6, nxa7, nxa8, nxa9, nxa10, nxs1, nxs10, nxss, nI_add, nI_clamp, mnar0, mnar1, Nat.add_sub_cancel]
        refine ok_st rfl rfl ?_
        simp only [okS_some, xst, xp0, xp1, xp2, xp3, xp4, xp5, xload, xstore, xget_0, xget_s, xs_0, xs_1n, xs_1i, xs_1r, xs_1u, xs_1l, xs_s, xt_0, xt_1n, xt_1i, xt_1r, xt_1u, xt_1l, xt_s, xisref, xq0, Value.category, xcat, List.map_nil, List.map_cons, List.sum_nil, List.sum_cons, List.length_cons, List.length_nil, List.getElem?_cons_zero, List.getElem?_cons_succ, xmap_s, if_true, and_self, Nat.reduceAdd, Nat.reduceLT, Nat.reduceLeDiff, Nat.reduceEqDiff, Nat.lt_add_one, Nat.zero_le, Nat.le_refl, Nat.le_zero_eq, Nat.zero_lt_succ, xldc, kbm10, kbm9, kbm8, kbm7, kbm6, kbm5, kbm4, kbm3, kbm2, kb6, kb7, kb8, kb9, kb10, kb11, kb16, kb19, kb20, kb30, kb31, kb32, kb34, kb40, kb64, kb100, kb127, kim1, ki0, ki1, ki2, ki3, ki4, ki5, ks128, ks400, ks999, ks1000, ks4010]
        rw [show nI (8 * i) + Int32.ofInt 8 = nI (8 * (i + 1)) from nI_add (8 * i) 8]
        exact ih (i := i + 1) hW ⟨_, _, _, _, _, _, _, hI.up (by omega), hm, hj, hS2, by omega, by omega⟩ (by omega) (by omega)
      · skip
        iterate 5 (refine ok_st rfl rfl ?_; simp only [okS_some, xst, xp0, xp1, xp2, xp3, xp4, xp5, xload, xstore, xget_0, xget_s, xs_0, xs_1n, xs_1i, xs_1r, xs_1u, xs_1l, xs_s, xt_0, xt_1n, xt_1i, xt_1r, xt_1u, xt_1l, xt_s, xisref, xq0, Value.category, xcat, List.map_nil, List.map_cons, List.sum_nil, List.sum_cons, List.length_cons, List.length_nil, List.getElem?_cons_zero, List.getElem?_cons_succ, xmap_s, if_true, and_self, Nat.reduceAdd, Nat.reduceLT, Nat.reduceLeDiff, Nat.reduceEqDiff, Nat.lt_add_one, Nat.zero_le, Nat.le_refl, Nat.le_zero_eq, Nat.zero_lt_succ, xldc, kbm10, kbm9, kbm8, kbm7, kbm6, kbm5, kbm4, kbm3, kbm2, kb6, kb7, kb8, kb9, kb10, kb11, kb16, kb19, kb20, kb30, kb31, kb32, kb34, kb40, kb64, kb100, kb127, kim1, ki0, ki1, ki2, ki3, ki4, ki5, ks128, ks400, ks999, ks1000, ks4010])
        try simp (disch := omega) only [nx10, nx4, nx32, nxa0, nxa1, nxa2, nxa3, nxa4, nxa5, nxa6, nxa7, nxa8, nxa9, nxa10, nxs1, nxs10, nxss, nI_add, nI_clamp, mnar0, mnar1, Nat.add_sub_cancel]
        refine l_il rfl (nIn (by omega) (by omega)) ?_
        try dsimp only [Nat.reduceAdd]
        try simp (disch := omega) only [nx10, nx4, nx32, nxa0, nxa1, nxa2, nxa3, nxa4, nxa5, nxa6, nxa7, nxa8, nxa9, nxa10, nxs1, nxs10, nxss, nI_add, nI_clamp, mnar0, mnar1, Nat.add_sub_cancel]
        refine ok_cm (vs := [_, _]) rfl rfl rfl rfl (Nat.le_of_ble_eq_true rfl) (Nat.le_of_ble_eq_true rfl) (by show xcl0 2 8 _ _ = true; simp [xcl0, hI.1]) (by decide) hW (sp62 hW hI) ?_
        intro vv h346 hv k347 al348
        obtain ⟨x350, rfl⟩ : ∃ x, vv = some (.int x) := by rcases hv with rfl | rfl <;> exact ⟨_, rfl⟩
        dsimp only [Option.toList, List.cons_append, List.nil_append, Nat.reduceAdd]
        have hW := k347.1
        have z353 := al348 rfl
        try dsimp only at z353
        obtain ⟨B, hm⟩ := hm.kq k347 (by decide)
        have hI := hI.kp k347 (by decide)
        iterate 6 (refine ok_st rfl rfl ?_; simp only [okS_some, xst, xp0, xp1, xp2, xp3, xp4, xp5, xload, xstore, xget_0, xget_s, xs_0, xs_1n, xs_1i, xs_1r, xs_1u, xs_1l, xs_s, xt_0, xt_1n, xt_1i, xt_1r, xt_1u, xt_1l, xt_s, xisref, xq0, Value.category, xcat, List.map_nil, List.map_cons, List.sum_nil, List.sum_cons, List.length_cons, List.length_nil, List.getElem?_cons_zero, List.getElem?_cons_succ, xmap_s, if_true, and_self, Nat.reduceAdd, Nat.reduceLT, Nat.reduceLeDiff, Nat.reduceEqDiff, Nat.lt_add_one, Nat.zero_le, Nat.le_refl, Nat.le_zero_eq, Nat.zero_lt_succ, xldc, kbm10, kbm9, kbm8, kbm7, kbm6, kbm5, kbm4, kbm3, kbm2, kb6, kb7, kb8, kb9, kb10, kb11, kb16, kb19, kb20, kb30, kb31, kb32, kb34, kb40, kb64, kb100, kb127, kim1, ki0, ki1, ki2, ki3, ki4, ki5, ks128, ks400, ks999, ks1000, ks4010])
        try simp (disch := omega) only [nx10, nx4, nx32, nxa0, nxa1, nxa2, nxa3, nxa4, nxa5, nxa6, nxa7, nxa8, nxa9, nxa10, nxs1, nxs10, nxss, nI_add, nI_clamp, mnar0, mnar1, Nat.add_sub_cancel]
        refine l_il rfl (nIn (by omega) (by omega)) ?_
        try dsimp only [Nat.reduceAdd]
        try simp (disch := omega) only [nx10, nx4, nx32, nxa0, nxa1, nxa2, nxa3, nxa4, nxa5, nxa6, nxa7, nxa8, nxa9, nxa10, nxs1, nxs10, nxss, nI_add, nI_clamp, mnar0, mnar1, Nat.add_sub_cancel]
        refine ok_cm (vs := [_, _]) rfl rfl rfl rfl (Nat.le_of_ble_eq_true rfl) (Nat.le_of_ble_eq_true rfl) (by show xcl0 2 9 _ _ = true; simp [xcl0, hm.1]) (by decide) hW (sp120 hW hm hj) ?_
        rintro vv h354 ⟨hv, S1, A1, B1, M1, hm, hj, hs⟩ k355 al356
        obtain ⟨x358, rfl⟩ : ∃ x, vv = some (.int x) := by rcases hv with rfl | rfl <;> exact ⟨_, rfl⟩
        dsimp only [Option.toList, List.cons_append, List.nil_append, Nat.reduceAdd]
        have hW := k355.1
        have z359 := al356 rfl
        try dsimp only at z359
        have hI := hI.kp k355 (by decide)
        have hS2 := hs.trans hS2
        iterate 3 (refine ok_st rfl rfl ?_; simp only [okS_some, xst, xp0, xp1, xp2, xp3, xp4, xp5, xload, xstore, xget_0, xget_s, xs_0, xs_1n, xs_1i, xs_1r, xs_1u, xs_1l, xs_s, xt_0, xt_1n, xt_1i, xt_1r, xt_1u, xt_1l, xt_s, xisref, xq0, Value.category, xcat, List.map_nil, List.map_cons, List.sum_nil, List.sum_cons, List.length_cons, List.length_nil, List.getElem?_cons_zero, List.getElem?_cons_succ, xmap_s, if_true, and_self, Nat.reduceAdd, Nat.reduceLT, Nat.reduceLeDiff, Nat.reduceEqDiff, Nat.lt_add_one, Nat.zero_le, Nat.le_refl, Nat.le_zero_eq, Nat.zero_lt_succ, xldc, kbm10, kbm9, kbm8, kbm7, kbm6, kbm5, kbm4, kbm3, kbm2, kb6, kb7, kb8, kb9, kb10, kb11, kb16, kb19, kb20, kb30, kb31, kb32, kb34, kb40, kb64, kb100, kb127, kim1, ki0, ki1, ki2, ki3, ki4, ki5, ks128, ks400, ks999, ks1000, ks4010])
        try simp (disch := omega) only [nx10, nx4, nx32, nxa0, nxa1, nxa2, nxa3, nxa4, nxa5, nxa6, nxa7, nxa8, nxa9, nxa10, nxs1, nxs10, nxss, nI_add, nI_clamp, mnar0, mnar1, Nat.add_sub_cancel]
        refine ok_st rfl rfl ?_
        simp only [okS_some, xst, xp0, xp1, xp2, xp3, xp4, xp5, xload, xstore, xget_0, xget_s, xs_0, xs_1n, xs_1i, xs_1r, xs_1u, xs_1l, xs_s, xt_0, xt_1n, xt_1i, xt_1r, xt_1u, xt_1l, xt_s, xisref, xq0, Value.category, xcat, List.map_nil, List.map_cons, List.sum_nil, List.sum_cons, List.length_cons, List.length_nil, List.getElem?_cons_zero, List.getElem?_cons_succ, xmap_s, if_true, and_self, Nat.reduceAdd, Nat.reduceLT, Nat.reduceLeDiff, Nat.reduceEqDiff, Nat.lt_add_one, Nat.zero_le, Nat.le_refl, Nat.le_zero_eq, Nat.zero_lt_succ, xldc, kbm10, kbm9, kbm8, kbm7, kbm6, kbm5, kbm4, kbm3, kbm2, kb6, kb7, kb8, kb9, kb10, kb11, kb16, kb19, kb20, kb30, kb31, kb32, kb34, kb40, kb64, kb100, kb127, kim1, ki0, ki1, ki2, ki3, ki4, ki5, ks128, ks400, ks999, ks1000, ks4010]
        rw [show nI (8 * i) + Int32.ofInt 8 = nI (8 * (i + 1)) from nI_add (8 * i) 8]
        exact ih (i := i + 1) hW ⟨_, _, _, _, _, _, _, hI.up (by omega), hm, hj, hS2, by omega, by omega⟩ (by omega) (by omega)
      · skip
        iterate 5 (refine ok_st rfl rfl ?_; simp only [okS_some, xst, xp0, xp1, xp2, xp3, xp4, xp5, xload, xstore, xget_0, xget_s, xs_0, xs_1n, xs_1i, xs_1r, xs_1u, xs_1l, xs_s, xt_0, xt_1n, xt_1i, xt_1r, xt_1u, xt_1l, xt_s, xisref, xq0, Value.category, xcat, List.map_nil, List.map_cons, List.sum_nil, List.sum_cons, List.length_cons, List.length_nil, List.getElem?_cons_zero, List.getElem?_cons_succ, xmap_s, if_true, and_self, Nat.reduceAdd, Nat.reduceLT, Nat.reduceLeDiff, Nat.reduceEqDiff, Nat.lt_add_one, Nat.zero_le, Nat.le_refl, Nat.le_zero_eq, Nat.zero_lt_succ, xldc, kbm10, kbm9, kbm8, kbm7, kbm6, kbm5, kbm4, kbm3, kbm2, kb6, kb7, kb8, kb9, kb10, kb11, kb16, kb19, kb20, kb30, kb31, kb32, kb34, kb40, kb64, kb100, kb127, kim1, ki0, ki1, ki2, ki3, ki4, ki5, ks128, ks400, ks999, ks1000, ks4010])
        try simp (disch := omega) only [nx10, nx4, nx32, nxa0, nxa1, nxa2, nxa3, nxa4, nxa5, nxa6, nxa7, nxa8, nxa9, nxa10, nxs1, nxs10, nxss, nI_add, nI_clamp, mnar0, mnar1, Nat.add_sub_cancel]
        refine l_il rfl (nIn (by omega) (by omega)) ?_
        try dsimp only [Nat.reduceAdd]
        try simp (disch := omega) only [nx10, nx4, nx32, nxa0, nxa1, nxa2, nxa3, nxa4, nxa5, nxa6, nxa7, nxa8, nxa9, nxa10, nxs1, nxs10, nxss, nI_add, nI_clamp, mnar0, mnar1, Nat.add_sub_cancel]
        refine ok_cm (vs := [_, _]) rfl rfl rfl rfl (Nat.le_of_ble_eq_true rfl) (Nat.le_of_ble_eq_true rfl) (by show xcl0 2 8 _ _ = true; simp [xcl0, hI.1]) (by decide) hW (sp63 hW hI (by omega)) ?_
        rintro _ h360 ⟨⟨x364, rfl⟩, hI, z365, z366⟩ k361 al362
        dsimp only [Option.toList, List.cons_append, List.nil_append, Nat.reduceAdd]
        try dsimp only at z365 z366
        have hW := k361.1
        obtain ⟨B, hm⟩ := hm.kq k361 (by decide)
        iterate 6 (refine ok_st rfl rfl ?_; simp only [okS_some, xst, xp0, xp1, xp2, xp3, xp4, xp5, xload, xstore, xget_0, xget_s, xs_0, xs_1n, xs_1i, xs_1r, xs_1u, xs_1l, xs_s, xt_0, xt_1n, xt_1i, xt_1r, xt_1u, xt_1l, xt_s, xisref, xq0, Value.category, xcat, List.map_nil, List.map_cons, List.sum_nil, List.sum_cons, List.length_cons, List.length_nil, List.getElem?_cons_zero, List.getElem?_cons_succ, xmap_s, if_true, and_self, Nat.reduceAdd, Nat.reduceLT, Nat.reduceLeDiff, Nat.reduceEqDiff, Nat.lt_add_one, Nat.zero_le, Nat.le_refl, Nat.le_zero_eq, Nat.zero_lt_succ, xldc, kbm10, kbm9, kbm8, kbm7, kbm6, kbm5, kbm4, kbm3, kbm2, kb6, kb7, kb8, kb9, kb10, kb11, kb16, kb19, kb20, kb30, kb31, kb32, kb34, kb40, kb64, kb100, kb127, kim1, ki0, ki1, ki2, ki3, ki4, ki5, ks128, ks400, ks999, ks1000, ks4010])
        try simp (disch := omega) only [nx10, nx4, nx32, nxa0, nxa1, nxa2, nxa3, nxa4, nxa5, nxa6, nxa7, nxa8, nxa9, nxa10, nxs1, nxs10, nxss, nI_add, nI_clamp, mnar0, mnar1, Nat.add_sub_cancel]
        refine l_il rfl (nIn (by omega) (by omega)) ?_
        try dsimp only [Nat.reduceAdd]
        try simp (disch := omega) only [nx10, nx4, nx32, nxa0, nxa1, nxa2, nxa3, nxa4, nxa5, nxa6, nxa7, nxa8, nxa9, nxa10, nxs1, nxs10, nxss, nI_add, nI_clamp, mnar0, mnar1, Nat.add_sub_cancel]
        refine ok_cm (vs := [_, _]) rfl rfl rfl rfl (Nat.le_of_ble_eq_true rfl) (Nat.le_of_ble_eq_true rfl) (by show xcl0 2 9 _ _ = true; simp [xcl0, hm.1]) (by decide) hW (sp121 hW hm hj) ?_
        rintro _ h368 ⟨⟨x372, rfl⟩, S1, A1, B1, M1, hm, hj, hs⟩ k369 al370
        dsimp only [Option.toList, List.cons_append, List.nil_append, Nat.reduceAdd]
        have hW := k369.1
        have z373 := al370 rfl
        try dsimp only at z373
        have hI := hI.kp k369 (by decide)
        have hS2 := hs.trans hS2
        iterate 3 (refine ok_st rfl rfl ?_; simp only [okS_some, xst, xp0, xp1, xp2, xp3, xp4, xp5, xload, xstore, xget_0, xget_s, xs_0, xs_1n, xs_1i, xs_1r, xs_1u, xs_1l, xs_s, xt_0, xt_1n, xt_1i, xt_1r, xt_1u, xt_1l, xt_s, xisref, xq0, Value.category, xcat, List.map_nil, List.map_cons, List.sum_nil, List.sum_cons, List.length_cons, List.length_nil, List.getElem?_cons_zero, List.getElem?_cons_succ, xmap_s, if_true, and_self, Nat.reduceAdd, Nat.reduceLT, Nat.reduceLeDiff, Nat.reduceEqDiff, Nat.lt_add_one, Nat.zero_le, Nat.le_refl, Nat.le_zero_eq, Nat.zero_lt_succ, xldc, kbm10, kbm9, kbm8, kbm7, kbm6, kbm5, kbm4, kbm3, kbm2, kb6, kb7, kb8, kb9, kb10, kb11, kb16, kb19, kb20, kb30, kb31, kb32, kb34, kb40, kb64, kb100, kb127, kim1, ki0, ki1, ki2, ki3, ki4, ki5, ks128, ks400, ks999, ks1000, ks4010])
        try simp (disch := omega) only [nx10, nx4, nx32, nxa0, nxa1, nxa2, nxa3, nxa4, nxa5, nxa6, nxa7, nxa8, nxa9, nxa10, nxs1, nxs10, nxss, nI_add, nI_clamp, mnar0, mnar1, Nat.add_sub_cancel]
        refine ok_st rfl rfl ?_
        simp only [okS_some, xst, xp0, xp1, xp2, xp3, xp4, xp5, xload, xstore, xget_0, xget_s, xs_0, xs_1n, xs_1i, xs_1r, xs_1u, xs_1l, xs_s, xt_0, xt_1n, xt_1i, xt_1r, xt_1u, xt_1l, xt_s, xisref, xq0, Value.category, xcat, List.map_nil, List.map_cons, List.sum_nil, List.sum_cons, List.length_cons, List.length_nil, List.getElem?_cons_zero, List.getElem?_cons_succ, xmap_s, if_true, and_self, Nat.reduceAdd, Nat.reduceLT, Nat.reduceLeDiff, Nat.reduceEqDiff, Nat.lt_add_one, Nat.zero_le, Nat.le_refl, Nat.le_zero_eq, Nat.zero_lt_succ, xldc, kbm10, kbm9, kbm8, kbm7, kbm6, kbm5, kbm4, kbm3, kbm2, kb6, kb7, kb8, kb9, kb10, kb11, kb16, kb19, kb20, kb30, kb31, kb32, kb34, kb40, kb64, kb100, kb127, kim1, ki0, ki1, ki2, ki3, ki4, ki5, ks128, ks400, ks999, ks1000, ks4010]
        rw [show nI (8 * i) + Int32.ofInt 8 = nI (8 * (i + 1)) from nI_add (8 * i) 8]
        exact ih (i := i + 1) hW ⟨_, _, _, _, _, _, _, hI.up (by omega), hm, hj, hS2, by omega, by omega⟩ (by omega) (by omega)
      · skip
        iterate 5 (refine ok_st rfl rfl ?_; simp only [okS_some, xst, xp0, xp1, xp2, xp3, xp4, xp5, xload, xstore, xget_0, xget_s, xs_0, xs_1n, xs_1i, xs_1r, xs_1u, xs_1l, xs_s, xt_0, xt_1n, xt_1i, xt_1r, xt_1u, xt_1l, xt_s, xisref, xq0, Value.category, xcat, List.map_nil, List.map_cons, List.sum_nil, List.sum_cons, List.length_cons, List.length_nil, List.getElem?_cons_zero, List.getElem?_cons_succ, xmap_s, if_true, and_self, Nat.reduceAdd, Nat.reduceLT, Nat.reduceLeDiff, Nat.reduceEqDiff, Nat.lt_add_one, Nat.zero_le, Nat.le_refl, Nat.le_zero_eq, Nat.zero_lt_succ, xldc, kbm10, kbm9, kbm8, kbm7, kbm6, kbm5, kbm4, kbm3, kbm2, kb6, kb7, kb8, kb9, kb10, kb11, kb16, kb19, kb20, kb30, kb31, kb32, kb34, kb40, kb64, kb100, kb127, kim1, ki0, ki1, ki2, ki3, ki4, ki5, ks128, ks400, ks999, ks1000, ks4010])
        try simp (disch := omega) only [nx10, nx4, nx32, nxa0, nxa1, nxa2, nxa3, nxa4, nxa5, nxa6, nxa7, nxa8, nxa9, nxa10, nxs1, nxs10, nxss, nI_add, nI_clamp, mnar0, mnar1, Nat.add_sub_cancel]
        refine l_il rfl (nIn (by omega) (by omega)) ?_
        try dsimp only [Nat.reduceAdd]
        try simp (disch := omega) only [nx10, nx4, nx32, nxa0, nxa1, nxa2, nxa3, nxa4, nxa5, nxa6, nxa7, nxa8, nxa9, nxa10, nxs1, nxs10, nxss, nI_add, nI_clamp, mnar0, mnar1, Nat.add_sub_cancel]
        iterate 4 (refine ok_st rfl rfl ?_; simp only [okS_some, xst, xp0, xp1, xp2, xp3, xp4, xp5, xload, xstore, xget_0, xget_s, xs_0, xs_1n, xs_1i, xs_1r, xs_1u, xs_1l, xs_s, xt_0, xt_1n, xt_1i, xt_1r, xt_1u, xt_1l, xt_s, xisref, xq0, Value.category, xcat, List.map_nil, List.map_cons, List.sum_nil, List.sum_cons, List.length_cons, List.length_nil, List.getElem?_cons_zero, List.getElem?_cons_succ, xmap_s, if_true, and_self, Nat.reduceAdd, Nat.reduceLT, Nat.reduceLeDiff, Nat.reduceEqDiff, Nat.lt_add_one, Nat.zero_le, Nat.le_refl, Nat.le_zero_eq, Nat.zero_lt_succ, xldc, kbm10, kbm9, kbm8, kbm7, kbm6, kbm5, kbm4, kbm3, kbm2, kb6, kb7, kb8, kb9, kb10, kb11, kb16, kb19, kb20, kb30, kb31, kb32, kb34, kb40, kb64, kb100, kb127, kim1, ki0, ki1, ki2, ki3, ki4, ki5, ks128, ks400, ks999, ks1000, ks4010])
        try simp (disch := omega) only [nx10, nx4, nx32, nxa0, nxa1, nxa2, nxa3, nxa4, nxa5, nxa6, nxa7, nxa8, nxa9, nxa10, nxs1, nxs10, nxss, nI_add, nI_clamp, mnar0, mnar1, Nat.add_sub_cancel]
        refine l_il rfl (nIn (by omega) (by omega)) ?_
        try dsimp only [Nat.reduceAdd]
        try simp (disch := omega) only [nx10, nx4, nx32, nxa0, nxa1, nxa2, nxa3, nxa4, nxa5, nxa6, nxa7, nxa8, nxa9, nxa10, nxs1, nxs10, nxss, nI_add, nI_clamp, mnar0, mnar1, Nat.add_sub_cancel]
        refine ok_cm (vs := [_, _, _]) rfl rfl rfl rfl (Nat.le_of_ble_eq_true rfl) (Nat.le_of_ble_eq_true rfl) (by show xcl0 2 8 _ _ = true; simp [xcl0, hI.1]) (by decide) hW (sp64 hW hI) ?_
        rintro _ h374 ⟨x378, rfl⟩ k375 al376
        dsimp only [Option.toList, List.cons_append, List.nil_append, Nat.reduceAdd]
        have hW := k375.1
        have z381 := al376 rfl
        try dsimp only at z381
        obtain ⟨B, hm⟩ := hm.kq k375 (by decide)
        have hI := hI.kp k375 (by decide)
        iterate 6 (refine ok_st rfl rfl ?_; simp only [okS_some, xst, xp0, xp1, xp2, xp3, xp4, xp5, xload, xstore, xget_0, xget_s, xs_0, xs_1n, xs_1i, xs_1r, xs_1u, xs_1l, xs_s, xt_0, xt_1n, xt_1i, xt_1r, xt_1u, xt_1l, xt_s, xisref, xq0, Value.category, xcat, List.map_nil, List.map_cons, List.sum_nil, List.sum_cons, List.length_cons, List.length_nil, List.getElem?_cons_zero, List.getElem?_cons_succ, xmap_s, if_true, and_self, Nat.reduceAdd, Nat.reduceLT, Nat.reduceLeDiff, Nat.reduceEqDiff, Nat.lt_add_one, Nat.zero_le, Nat.le_refl, Nat.le_zero_eq, Nat.zero_lt_succ, xldc, kbm10, kbm9, kbm8, kbm7, kbm6, kbm5, kbm4, kbm3, kbm2, kb6, kb7, kb8, kb9, kb10, kb11, kb16, kb19, kb20, kb30, kb31, kb32, kb34, kb40, kb64, kb100, kb127, kim1, ki0, ki1, ki2, ki3, ki4, ki5, ks128, ks400, ks999, ks1000, ks4010])
        try simp (disch := omega) only [nx10, nx4, nx32, nxa0, nxa1, nxa2, nxa3, nxa4, nxa5, nxa6, nxa7, nxa8, nxa9, nxa10, nxs1, nxs10, nxss, nI_add, nI_clamp, mnar0, mnar1, Nat.add_sub_cancel]
        refine l_il rfl (nIn (by omega) (by omega)) ?_
        try dsimp only [Nat.reduceAdd]
        try simp (disch := omega) only [nx10, nx4, nx32, nxa0, nxa1, nxa2, nxa3, nxa4, nxa5, nxa6, nxa7, nxa8, nxa9, nxa10, nxs1, nxs10, nxss, nI_add, nI_clamp, mnar0, mnar1, Nat.add_sub_cancel]
        iterate 4 (refine ok_st rfl rfl ?_; simp only [okS_some, xst, xp0, xp1, xp2, xp3, xp4, xp5, xload, xstore, xget_0, xget_s, xs_0, xs_1n, xs_1i, xs_1r, xs_1u, xs_1l, xs_s, xt_0, xt_1n, xt_1i, xt_1r, xt_1u, xt_1l, xt_s, xisref, xq0, Value.category, xcat, List.map_nil, List.map_cons, List.sum_nil, List.sum_cons, List.length_cons, List.length_nil, List.getElem?_cons_zero, List.getElem?_cons_succ, xmap_s, if_true, and_self, Nat.reduceAdd, Nat.reduceLT, Nat.reduceLeDiff, Nat.reduceEqDiff, Nat.lt_add_one, Nat.zero_le, Nat.le_refl, Nat.le_zero_eq, Nat.zero_lt_succ, xldc, kbm10, kbm9, kbm8, kbm7, kbm6, kbm5, kbm4, kbm3, kbm2, kb6, kb7, kb8, kb9, kb10, kb11, kb16, kb19, kb20, kb30, kb31, kb32, kb34, kb40, kb64, kb100, kb127, kim1, ki0, ki1, ki2, ki3, ki4, ki5, ks128, ks400, ks999, ks1000, ks4010])
        try simp (disch := omega) only [nx10, nx4, nx32, nxa0, nxa1, nxa2, nxa3, nxa4, nxa5, nxa6, nxa7, nxa8, nxa9, nxa10, nxs1, nxs10, nxss, nI_add, nI_clamp, mnar0, mnar1, Nat.add_sub_cancel]
        refine l_il rfl (nIn (by omega) (by omega)) ?_
        try dsimp only [Nat.reduceAdd]
        try simp (disch := omega) only [nx10, nx4, nx32, nxa0, nxa1, nxa2, nxa3, nxa4, nxa5, nxa6, nxa7, nxa8, nxa9, nxa10, nxs1, nxs10, nxss, nI_add, nI_clamp, mnar0, mnar1, Nat.add_sub_cancel]
        refine ok_cm (vs := [_, _, _]) rfl rfl rfl rfl (Nat.le_of_ble_eq_true rfl) (Nat.le_of_ble_eq_true rfl) (by show xcl0 2 9 _ _ = true; simp [xcl0, hm.1]) (by decide) hW (sp124 hW hm hj) ?_
        rintro _ h382 ⟨⟨x386, rfl⟩, S1, A1, B1, M1, hm, hj, hs⟩ k383 al384
        dsimp only [Option.toList, List.cons_append, List.nil_append, Nat.reduceAdd]
        have hW := k383.1
        have z387 := al384 rfl
        try dsimp only at z387
        have hI := hI.kp k383 (by decide)
        have hS2 := hs.trans hS2
        iterate 3 (refine ok_st rfl rfl ?_; simp only [okS_some, xst, xp0, xp1, xp2, xp3, xp4, xp5, xload, xstore, xget_0, xget_s, xs_0, xs_1n, xs_1i, xs_1r, xs_1u, xs_1l, xs_s, xt_0, xt_1n, xt_1i, xt_1r, xt_1u, xt_1l, xt_s, xisref, xq0, Value.category, xcat, List.map_nil, List.map_cons, List.sum_nil, List.sum_cons, List.length_cons, List.length_nil, List.getElem?_cons_zero, List.getElem?_cons_succ, xmap_s, if_true, and_self, Nat.reduceAdd, Nat.reduceLT, Nat.reduceLeDiff, Nat.reduceEqDiff, Nat.lt_add_one, Nat.zero_le, Nat.le_refl, Nat.le_zero_eq, Nat.zero_lt_succ, xldc, kbm10, kbm9, kbm8, kbm7, kbm6, kbm5, kbm4, kbm3, kbm2, kb6, kb7, kb8, kb9, kb10, kb11, kb16, kb19, kb20, kb30, kb31, kb32, kb34, kb40, kb64, kb100, kb127, kim1, ki0, ki1, ki2, ki3, ki4, ki5, ks128, ks400, ks999, ks1000, ks4010])
        try simp (disch := omega) only [nx10, nx4, nx32, nxa0, nxa1, nxa2, nxa3, nxa4, nxa5, nxa6, nxa7, nxa8, nxa9, nxa10, nxs1, nxs10, nxss, nI_add, nI_clamp, mnar0, mnar1, Nat.add_sub_cancel]
        refine ok_st rfl rfl ?_
        simp only [okS_some, xst, xp0, xp1, xp2, xp3, xp4, xp5, xload, xstore, xget_0, xget_s, xs_0, xs_1n, xs_1i, xs_1r, xs_1u, xs_1l, xs_s, xt_0, xt_1n, xt_1i, xt_1r, xt_1u, xt_1l, xt_s, xisref, xq0, Value.category, xcat, List.map_nil, List.map_cons, List.sum_nil, List.sum_cons, List.length_cons, List.length_nil, List.getElem?_cons_zero, List.getElem?_cons_succ, xmap_s, if_true, and_self, Nat.reduceAdd, Nat.reduceLT, Nat.reduceLeDiff, Nat.reduceEqDiff, Nat.lt_add_one, Nat.zero_le, Nat.le_refl, Nat.le_zero_eq, Nat.zero_lt_succ, xldc, kbm10, kbm9, kbm8, kbm7, kbm6, kbm5, kbm4, kbm3, kbm2, kb6, kb7, kb8, kb9, kb10, kb11, kb16, kb19, kb20, kb30, kb31, kb32, kb34, kb40, kb64, kb100, kb127, kim1, ki0, ki1, ki2, ki3, ki4, ki5, ks128, ks400, ks999, ks1000, ks4010]
        rw [show nI (8 * i) + Int32.ofInt 8 = nI (8 * (i + 1)) from nI_add (8 * i) 8]
        exact ih (i := i + 1) hW ⟨_, _, _, _, _, _, _, hI.up (by omega), hm, hj, hS2, by omega, by omega⟩ (by omega) (by omega)
      · skip
        iterate 5 (refine ok_st rfl rfl ?_; simp only [okS_some, xst, xp0, xp1, xp2, xp3, xp4, xp5, xload, xstore, xget_0, xget_s, xs_0, xs_1n, xs_1i, xs_1r, xs_1u, xs_1l, xs_s, xt_0, xt_1n, xt_1i, xt_1r, xt_1u, xt_1l, xt_s, xisref, xq0, Value.category, xcat, List.map_nil, List.map_cons, List.sum_nil, List.sum_cons, List.length_cons, List.length_nil, List.getElem?_cons_zero, List.getElem?_cons_succ, xmap_s, if_true, and_self, Nat.reduceAdd, Nat.reduceLT, Nat.reduceLeDiff, Nat.reduceEqDiff, Nat.lt_add_one, Nat.zero_le, Nat.le_refl, Nat.le_zero_eq, Nat.zero_lt_succ, xldc, kbm10, kbm9, kbm8, kbm7, kbm6, kbm5, kbm4, kbm3, kbm2, kb6, kb7, kb8, kb9, kb10, kb11, kb16, kb19, kb20, kb30, kb31, kb32, kb34, kb40, kb64, kb100, kb127, kim1, ki0, ki1, ki2, ki3, ki4, ki5, ks128, ks400, ks999, ks1000, ks4010])
        try simp (disch := omega) only [nx10, nx4, nx32, nxa0, nxa1, nxa2, nxa3, nxa4, nxa5, nxa6, nxa7, nxa8, nxa9, nxa10, nxs1, nxs10, nxss, nI_add, nI_clamp, mnar0, mnar1, Nat.add_sub_cancel]
        refine l_il rfl (nIn (by omega) (by omega)) ?_
        try dsimp only [Nat.reduceAdd]
        try simp (disch := omega) only [nx10, nx4, nx32, nxa0, nxa1, nxa2, nxa3, nxa4, nxa5, nxa6, nxa7, nxa8, nxa9, nxa10, nxs1, nxs10, nxss, nI_add, nI_clamp, mnar0, mnar1, Nat.add_sub_cancel]
        iterate 4 (refine ok_st rfl rfl ?_; simp only [okS_some, xst, xp0, xp1, xp2, xp3, xp4, xp5, xload, xstore, xget_0, xget_s, xs_0, xs_1n, xs_1i, xs_1r, xs_1u, xs_1l, xs_s, xt_0, xt_1n, xt_1i, xt_1r, xt_1u, xt_1l, xt_s, xisref, xq0, Value.category, xcat, List.map_nil, List.map_cons, List.sum_nil, List.sum_cons, List.length_cons, List.length_nil, List.getElem?_cons_zero, List.getElem?_cons_succ, xmap_s, if_true, and_self, Nat.reduceAdd, Nat.reduceLT, Nat.reduceLeDiff, Nat.reduceEqDiff, Nat.lt_add_one, Nat.zero_le, Nat.le_refl, Nat.le_zero_eq, Nat.zero_lt_succ, xldc, kbm10, kbm9, kbm8, kbm7, kbm6, kbm5, kbm4, kbm3, kbm2, kb6, kb7, kb8, kb9, kb10, kb11, kb16, kb19, kb20, kb30, kb31, kb32, kb34, kb40, kb64, kb100, kb127, kim1, ki0, ki1, ki2, ki3, ki4, ki5, ks128, ks400, ks999, ks1000, ks4010])
        try simp (disch := omega) only [nx10, nx4, nx32, nxa0, nxa1, nxa2, nxa3, nxa4, nxa5, nxa6, nxa7, nxa8, nxa9, nxa10, nxs1, nxs10, nxss, nI_add, nI_clamp, mnar0, mnar1, Nat.add_sub_cancel]
        refine l_il rfl (nIn (by omega) (by omega)) ?_
        try dsimp only [Nat.reduceAdd]
        try simp (disch := omega) only [nx10, nx4, nx32, nxa0, nxa1, nxa2, nxa3, nxa4, nxa5, nxa6, nxa7, nxa8, nxa9, nxa10, nxs1, nxs10, nxss, nI_add, nI_clamp, mnar0, mnar1, Nat.add_sub_cancel]
        iterate 4 (refine ok_st rfl rfl ?_; simp only [okS_some, xst, xp0, xp1, xp2, xp3, xp4, xp5, xload, xstore, xget_0, xget_s, xs_0, xs_1n, xs_1i, xs_1r, xs_1u, xs_1l, xs_s, xt_0, xt_1n, xt_1i, xt_1r, xt_1u, xt_1l, xt_s, xisref, xq0, Value.category, xcat, List.map_nil, List.map_cons, List.sum_nil, List.sum_cons, List.length_cons, List.length_nil, List.getElem?_cons_zero, List.getElem?_cons_succ, xmap_s, if_true, and_self, Nat.reduceAdd, Nat.reduceLT, Nat.reduceLeDiff, Nat.reduceEqDiff, Nat.lt_add_one, Nat.zero_le, Nat.le_refl, Nat.le_zero_eq, Nat.zero_lt_succ, xldc, kbm10, kbm9, kbm8, kbm7, kbm6, kbm5, kbm4, kbm3, kbm2, kb6, kb7, kb8, kb9, kb10, kb11, kb16, kb19, kb20, kb30, kb31, kb32, kb34, kb40, kb64, kb100, kb127, kim1, ki0, ki1, ki2, ki3, ki4, ki5, ks128, ks400, ks999, ks1000, ks4010])
        try simp (disch := omega) only [nx10, nx4, nx32, nxa0, nxa1, nxa2, nxa3, nxa4, nxa5, nxa6, nxa7, nxa8, nxa9, nxa10, nxs1, nxs10, nxss, nI_add, nI_clamp, mnar0, mnar1, Nat.add_sub_cancel]
        refine l_il rfl (nIn (by omega) (by omega)) ?_
        try dsimp only [Nat.reduceAdd]
        try simp (disch := omega) only [nx10, nx4, nx32, nxa0, nxa1, nxa2, nxa3, nxa4, nxa5, nxa6, nxa7, nxa8, nxa9, nxa10, nxs1, nxs10, nxss, nI_add, nI_clamp, mnar0, mnar1, Nat.add_sub_cancel]
        iterate 4 (refine ok_st rfl rfl ?_; simp only [okS_some, xst, xp0, xp1, xp2, xp3, xp4, xp5, xload, xstore, xget_0, xget_s, xs_0, xs_1n, xs_1i, xs_1r, xs_1u, xs_1l, xs_s, xt_0, xt_1n, xt_1i, xt_1r, xt_1u, xt_1l, xt_s, xisref, xq0, Value.category, xcat, List.map_nil, List.map_cons, List.sum_nil, List.sum_cons, List.length_cons, List.length_nil, List.getElem?_cons_zero, List.getElem?_cons_succ, xmap_s, if_true, and_self, Nat.reduceAdd, Nat.reduceLT, Nat.reduceLeDiff, Nat.reduceEqDiff, Nat.lt_add_one, Nat.zero_le, Nat.le_refl, Nat.le_zero_eq, Nat.zero_lt_succ, xldc, kbm10, kbm9, kbm8, kbm7, kbm6, kbm5, kbm4, kbm3, kbm2, kb6, kb7, kb8, kb9, kb10, kb11, kb16, kb19, kb20, kb30, kb31, kb32, kb34, kb40, kb64, kb100, kb127, kim1, ki0, ki1, ki2, ki3, ki4, ki5, ks128, ks400, ks999, ks1000, ks4010])
        try simp (disch := omega) only [nx10, nx4, nx32, nxa0, nxa1, nxa2, nxa3, nxa4, nxa5, nxa6, nxa7, nxa8, nxa9, nxa10, nxs1, nxs10, nxss, nI_add, nI_clamp, mnar0, mnar1, Nat.add_sub_cancel]
        refine l_il rfl (nIn (by omega) (by omega)) ?_
        try dsimp only [Nat.reduceAdd]
        try simp (disch := omega) only [nx10, nx4, nx32, nxa0, nxa1, nxa2, nxa3, nxa4, nxa5, nxa6, nxa7, nxa8, nxa9, nxa10, nxs1, nxs10, nxss, nI_add, nI_clamp, mnar0, mnar1, Nat.add_sub_cancel]
        iterate 4 (refine ok_st rfl rfl ?_; simp only [okS_some, xst, xp0, xp1, xp2, xp3, xp4, xp5, xload, xstore, xget_0, xget_s, xs_0, xs_1n, xs_1i, xs_1r, xs_1u, xs_1l, xs_s, xt_0, xt_1n, xt_1i, xt_1r, xt_1u, xt_1l, xt_s, xisref, xq0, Value.category, xcat, List.map_nil, List.map_cons, List.sum_nil, List.sum_cons, List.length_cons, List.length_nil, List.getElem?_cons_zero, List.getElem?_cons_succ, xmap_s, if_true, and_self, Nat.reduceAdd, Nat.reduceLT, Nat.reduceLeDiff, Nat.reduceEqDiff, Nat.lt_add_one, Nat.zero_le, Nat.le_refl, Nat.le_zero_eq, Nat.zero_lt_succ, xldc, kbm10, kbm9, kbm8, kbm7, kbm6, kbm5, kbm4, kbm3, kbm2, kb6, kb7, kb8, kb9, kb10, kb11, kb16, kb19, kb20, kb30, kb31, kb32, kb34, kb40, kb64, kb100, kb127, kim1, ki0, ki1, ki2, ki3, ki4, ki5, ks128, ks400, ks999, ks1000, ks4010])
        try simp (disch := omega) only [nx10, nx4, nx32, nxa0, nxa1, nxa2, nxa3, nxa4, nxa5, nxa6, nxa7, nxa8, nxa9, nxa10, nxs1, nxs10, nxss, nI_add, nI_clamp, mnar0, mnar1, Nat.add_sub_cancel]
        refine l_il rfl (nIn (by omega) (by omega)) ?_
        try dsimp only [Nat.reduceAdd]
        try simp (disch := omega) only [nx10, nx4, nx32, nxa0, nxa1, nxa2, nxa3, nxa4, nxa5, nxa6, nxa7, nxa8, nxa9, nxa10, nxs1, nxs10, nxss, nI_add, nI_clamp, mnar0, mnar1, Nat.add_sub_cancel]
        iterate 4 (refine ok_st rfl rfl ?_; simp only [okS_some, xst, xp0, xp1, xp2, xp3, xp4, xp5, xload, xstore, xget_0, xget_s, xs_0, xs_1n, xs_1i, xs_1r, xs_1u, xs_1l, xs_s, xt_0, xt_1n, xt_1i, xt_1r, xt_1u, xt_1l, xt_s, xisref, xq0, Value.category, xcat, List.map_nil, List.map_cons, List.sum_nil, List.sum_cons, List.length_cons, List.length_nil, List.getElem?_cons_zero, List.getElem?_cons_succ, xmap_s, if_true, and_self, Nat.reduceAdd, Nat.reduceLT, Nat.reduceLeDiff, Nat.reduceEqDiff, Nat.lt_add_one, Nat.zero_le, Nat.le_refl, Nat.le_zero_eq, Nat.zero_lt_succ, xldc, kbm10, kbm9, kbm8, kbm7, kbm6, kbm5, kbm4, kbm3, kbm2, kb6, kb7, kb8, kb9, kb10, kb11, kb16, kb19, kb20, kb30, kb31, kb32, kb34, kb40, kb64, kb100, kb127, kim1, ki0, ki1, ki2, ki3, ki4, ki5, ks128, ks400, ks999, ks1000, ks4010])
        try simp (disch := omega) only [nx10, nx4, nx32, nxa0, nxa1, nxa2, nxa3, nxa4, nxa5, nxa6, nxa7, nxa8, nxa9, nxa10, nxs1, nxs10, nxss, nI_add, nI_clamp, mnar0, mnar1, Nat.add_sub_cancel]
        refine l_il rfl (nIn (by omega) (by omega)) ?_
        try dsimp only [Nat.reduceAdd]
        try simp (disch := omega) only [nx10, nx4, nx32, nxa0, nxa1, nxa2, nxa3, nxa4, nxa5, nxa6, nxa7, nxa8, nxa9, nxa10, nxs1, nxs10, nxss, nI_add, nI_clamp, mnar0, mnar1, Nat.add_sub_cancel]
        refine ok_cm (vs := [_, _, _, _, _, _, _]) rfl rfl rfl rfl (Nat.le_of_ble_eq_true rfl) (Nat.le_of_ble_eq_true rfl) (by show xcl0 2 8 _ _ = true; simp [xcl0, hI.1]) (by decide) hW (sp65 hW hI (by omega)) ?_
        rintro _ h388 ⟨⟨x392, rfl⟩, hI, z393, z394⟩ k389 al390
        dsimp only [Option.toList, List.cons_append, List.nil_append, Nat.reduceAdd]
        try dsimp only at z393 z394
        have hW := k389.1
        obtain ⟨B, hm⟩ := hm.kq k389 (by decide)
        iterate 6 (refine ok_st rfl rfl ?_; simp only [okS_some, xst, xp0, xp1, xp2, xp3, xp4, xp5, xload, xstore, xget_0, xget_s, xs_0, xs_1n, xs_1i, xs_1r, xs_1u, xs_1l, xs_s, xt_0, xt_1n, xt_1i, xt_1r, xt_1u, xt_1l, xt_s, xisref, xq0, Value.category, xcat, List.map_nil, List.map_cons, List.sum_nil, List.sum_cons, List.length_cons, List.length_nil, List.getElem?_cons_zero, List.getElem?_cons_succ, xmap_s, if_true, and_self, Nat.reduceAdd, Nat.reduceLT, Nat.reduceLeDiff, Nat.reduceEqDiff, Nat.lt_add_one, Nat.zero_le, Nat.le_refl, Nat.le_zero_eq, Nat.zero_lt_succ, xldc, kbm10, kbm9, kbm8, kbm7, kbm6, kbm5, kbm4, kbm3, kbm2, kb6, kb7, kb8, kb9, kb10, kb11, kb16, kb19, kb20, kb30, kb31, kb32, kb34, kb40, kb64, kb100, kb127, kim1, ki0, ki1, ki2, ki3, ki4, ki5, ks128, ks400, ks999, ks1000, ks4010])
        try simp (disch := omega) only [nx10, nx4, nx32, nxa0, nxa1, nxa2, nxa3, nxa4, nxa5, nxa6, nxa7, nxa8, nxa9, nxa10, nxs1, nxs10, nxss, nI_add, nI_clamp, mnar0, mnar1, Nat.add_sub_cancel]
        refine l_il rfl (nIn (by omega) (by omega)) ?_
        try dsimp only [Nat.reduceAdd]
        try simp (disch := omega) only [nx10, nx4, nx32, nxa0, nxa1, nxa2, nxa3, nxa4, nxa5, nxa6, nxa7, nxa8, nxa9, nxa10, nxs1, nxs10, nxss, nI_add, nI_clamp, mnar0, mnar1, Nat.add_sub_cancel]
        iterate 4 (refine ok_st rfl rfl ?_; simp only [okS_some, xst, xp0, xp1, xp2, xp3, xp4, xp5, xload, xstore, xget_0, xget_s, xs_0, xs_1n, xs_1i, xs_1r, xs_1u, xs_1l, xs_s, xt_0, xt_1n, xt_1i, xt_1r, xt_1u, xt_1l, xt_s, xisref, xq0, Value.category, xcat, List.map_nil, List.map_cons, List.sum_nil, List.sum_cons, List.length_cons, List.length_nil, List.getElem?_cons_zero, List.getElem?_cons_succ, xmap_s, if_true, and_self, Nat.reduceAdd, Nat.reduceLT, Nat.reduceLeDiff, Nat.reduceEqDiff, Nat.lt_add_one, Nat.zero_le, Nat.le_refl, Nat.le_zero_eq, Nat.zero_lt_succ, xldc, kbm10, kbm9, kbm8, kbm7, kbm6, kbm5, kbm4, kbm3, kbm2, kb6, kb7, kb8, kb9, kb10, kb11, kb16, kb19, kb20, kb30, kb31, kb32, kb34, kb40, kb64, kb100, kb127, kim1, ki0, ki1, ki2, ki3, ki4, ki5, ks128, ks400, ks999, ks1000, ks4010])
        try simp (disch := omega) only [nx10, nx4, nx32, nxa0, nxa1, nxa2, nxa3, nxa4, nxa5, nxa6, nxa7, nxa8, nxa9, nxa10, nxs1, nxs10, nxss, nI_add, nI_clamp, mnar0, mnar1, Nat.add_sub_cancel]
        refine l_il rfl (nIn (by omega) (by omega)) ?_
        try dsimp only [Nat.reduceAdd]
        try simp (disch := omega) only [nx10, nx4, nx32, nxa0, nxa1, nxa2, nxa3, nxa4, nxa5, nxa6, nxa7, nxa8, nxa9, nxa10, nxs1, nxs10, nxss, nI_add, nI_clamp, mnar0, mnar1, Nat.add_sub_cancel]
        iterate 4 (refine ok_st rfl rfl ?_; simp only [okS_some, xst, xp0, xp1, xp2, xp3, xp4, xp5, xload, xstore, xget_0, xget_s, xs_0, xs_1n, xs_1i, xs_1r, xs_1u, xs_1l, xs_s, xt_0, xt_1n, xt_1i, xt_1r, xt_1u, xt_1l, xt_s, xisref, xq0, Value.category, xcat, List.map_nil, List.map_cons, List.sum_nil, List.sum_cons, List.length_cons, List.length_nil, List.getElem?_cons_zero, List.getElem?_cons_succ, xmap_s, if_true, and_self, Nat.reduceAdd, Nat.reduceLT, Nat.reduceLeDiff, Nat.reduceEqDiff, Nat.lt_add_one, Nat.zero_le, Nat.le_refl, Nat.le_zero_eq, Nat.zero_lt_succ, xldc, kbm10, kbm9, kbm8, kbm7, kbm6, kbm5, kbm4, kbm3, kbm2, kb6, kb7, kb8, kb9, kb10, kb11, kb16, kb19, kb20, kb30, kb31, kb32, kb34, kb40, kb64, kb100, kb127, kim1, ki0, ki1, ki2, ki3, ki4, ki5, ks128, ks400, ks999, ks1000, ks4010])
        try simp (disch := omega) only [nx10, nx4, nx32, nxa0, nxa1, nxa2, nxa3, nxa4, nxa5, nxa6, nxa7, nxa8, nxa9, nxa10, nxs1, nxs10, nxss, nI_add, nI_clamp, mnar0, mnar1, Nat.add_sub_cancel]
        refine l_il rfl (nIn (by omega) (by omega)) ?_
        try dsimp only [Nat.reduceAdd]
        try simp (disch := omega) only [nx10, nx4, nx32, nxa0, nxa1, nxa2, nxa3, nxa4, nxa5, nxa6, nxa7, nxa8, nxa9, nxa10, nxs1, nxs10, nxss, nI_add, nI_clamp, mnar0, mnar1, Nat.add_sub_cancel]
        iterate 4 (refine ok_st rfl rfl ?_; simp only [okS_some, xst, xp0, xp1, xp2, xp3, xp4, xp5, xload, xstore, xget_0, xget_s, xs_0, xs_1n, xs_1i, xs_1r, xs_1u, xs_1l, xs_s, xt_0, xt_1n, xt_1i, xt_1r, xt_1u, xt_1l, xt_s, xisref, xq0, Value.category, xcat, List.map_nil, List.map_cons, List.sum_nil, List.sum_cons, List.length_cons, List.length_nil, List.getElem?_cons_zero, List.getElem?_cons_succ, xmap_s, if_true, and_self, Nat.reduceAdd, Nat.reduceLT, Nat.reduceLeDiff, Nat.reduceEqDiff, Nat.lt_add_one, Nat.zero_le, Nat.le_refl, Nat.le_zero_eq, Nat.zero_lt_succ, xldc, kbm10, kbm9, kbm8, kbm7, kbm6, kbm5, kbm4, kbm3, kbm2, kb6, kb7, kb8, kb9, kb10, kb11, kb16, kb19, kb20, kb30, kb31, kb32, kb34, kb40, kb64, kb100, kb127, kim1, ki0, ki1, ki2, ki3, ki4, ki5, ks128, ks400, ks999, ks1000, ks4010])
        try simp (disch := omega) only [nx10, nx4, nx32, nxa0, nxa1, nxa2, nxa3, nxa4, nxa5, nxa6, nxa7, nxa8, nxa9, nxa10, nxs1, nxs10, nxss, nI_add, nI_clamp, mnar0, mnar1, Nat.add_sub_cancel]
        refine l_il rfl (nIn (by omega) (by omega)) ?_
        try dsimp only [Nat.reduceAdd]
        try simp (disch := omega) only [nx10, nx4, nx32, nxa0, nxa1, nxa2, nxa3, nxa4, nxa5, nxa6, nxa7, nxa8, nxa9, nxa10, nxs1, nxs10, nxss, nI_add, nI_clamp, mnar0, mnar1, Nat.add_sub_cancel]
        iterate 4 (refine ok_st rfl rfl ?_; simp only [okS_some, xst, xp0, xp1, xp2, xp3, xp4, xp5, xload, xstore, xget_0, xget_s, xs_0, xs_1n, xs_1i, xs_1r, xs_1u, xs_1l, xs_s, xt_0, xt_1n, xt_1i, xt_1r, xt_1u, xt_1l, xt_s, xisref, xq0, Value.category, xcat, List.map_nil, List.map_cons, List.sum_nil, List.sum_cons, List.length_cons, List.length_nil, List.getElem?_cons_zero, List.getElem?_cons_succ, xmap_s, if_true, and_self, Nat.reduceAdd, Nat.reduceLT, Nat.reduceLeDiff, Nat.reduceEqDiff, Nat.lt_add_one, Nat.zero_le, Nat.le_refl, Nat.le_zero_eq, Nat.zero_lt_succ, xldc, kbm10, kbm9, kbm8, kbm7, kbm6, kbm5, kbm4, kbm3, kbm2, kb6, kb7, kb8, kb9, kb10, kb11, kb16, kb19, kb20, kb30, kb31, kb32, kb34, kb40, kb64, kb100, kb127, kim1, ki0, ki1, ki2, ki3, ki4, ki5, ks128, ks400, ks999, ks1000, ks4010])
        try simp (disch := omega) only [nx10, nx4, nx32, nxa0, nxa1, nxa2, nxa3, nxa4, nxa5, nxa6, nxa7, nxa8, nxa9, nxa10, nxs1, nxs10, nxss, nI_add, nI_clamp, mnar0, mnar1, Nat.add_sub_cancel]
        refine l_il rfl (nIn (by omega) (by omega)) ?_
        try dsimp only [Nat.reduceAdd]
        try simp (disch := omega) only [nx10, nx4, nx32, nxa0, nxa1, nxa2, nxa3, nxa4, nxa5, nxa6, nxa7, nxa8, nxa9, nxa10, nxs1, nxs10, nxss, nI_add, nI_clamp, mnar0, mnar1, Nat.add_sub_cancel]
        iterate 4 (refine ok_st rfl rfl ?_; simp only [okS_some, xst, xp0, xp1, xp2, xp3, xp4, xp5, xload, xstore, xget_0, xget_s, xs_0, xs_1n, xs_1i, xs_1r, xs_1u, xs_1l, xs_s, xt_0, xt_1n, xt_1i, xt_1r, xt_1u, xt_1l, xt_s, xisref, xq0, Value.category, xcat, List.map_nil, List.map_cons, List.sum_nil, List.sum_cons, List.length_cons, List.length_nil, List.getElem?_cons_zero, List.getElem?_cons_succ, xmap_s, if_true, and_self, Nat.reduceAdd, Nat.reduceLT, Nat.reduceLeDiff, Nat.reduceEqDiff, Nat.lt_add_one, Nat.zero_le, Nat.le_refl, Nat.le_zero_eq, Nat.zero_lt_succ, xldc, kbm10, kbm9, kbm8, kbm7, kbm6, kbm5, kbm4, kbm3, kbm2, kb6, kb7, kb8, kb9, kb10, kb11, kb16, kb19, kb20, kb30, kb31, kb32, kb34, kb40, kb64, kb100, kb127, kim1, ki0, ki1, ki2, ki3, ki4, ki5, ks128, ks400, ks999, ks1000, ks4010])
        try simp (disch := omega) only [nx10, nx4, nx32, nxa0, nxa1, nxa2, nxa3, nxa4, nxa5, nxa6, nxa7, nxa8, nxa9, nxa10, nxs1, nxs10, nxss, nI_add, nI_clamp, mnar0, mnar1, Nat.add_sub_cancel]
        refine l_il rfl (nIn (by omega) (by omega)) ?_
        try dsimp only [Nat.reduceAdd]
        try simp (disch := omega) only [nx10, nx4, nx32, nxa0, nxa1, nxa2, nxa3, nxa4, nxa5, nxa6, nxa7, nxa8, nxa9, nxa10, nxs1, nxs10, nxss, nI_add, nI_clamp, mnar0, mnar1, Nat.add_sub_cancel]
        refine ok_cm (vs := [_, _, _, _, _, _, _]) rfl rfl rfl rfl (Nat.le_of_ble_eq_true rfl) (Nat.le_of_ble_eq_true rfl) (by show xcl0 2 9 _ _ = true; simp [xcl0, hm.1]) (by decide) hW (sp125 hW hm hj) ?_
        rintro _ h396 ⟨⟨x400, rfl⟩, S1, A1, B1, M1, hm, hj, hs⟩ k397 al398
        dsimp only [Option.toList, List.cons_append, List.nil_append, Nat.reduceAdd]
        have hW := k397.1
        have z401 := al398 rfl
        try dsimp only at z401
        have hI := hI.kp k397 (by decide)
        have hS2 := hs.trans hS2
        iterate 3 (refine ok_st rfl rfl ?_; simp only [okS_some, xst, xp0, xp1, xp2, xp3, xp4, xp5, xload, xstore, xget_0, xget_s, xs_0, xs_1n, xs_1i, xs_1r, xs_1u, xs_1l, xs_s, xt_0, xt_1n, xt_1i, xt_1r, xt_1u, xt_1l, xt_s, xisref, xq0, Value.category, xcat, List.map_nil, List.map_cons, List.sum_nil, List.sum_cons, List.length_cons, List.length_nil, List.getElem?_cons_zero, List.getElem?_cons_succ, xmap_s, if_true, and_self, Nat.reduceAdd, Nat.reduceLT, Nat.reduceLeDiff, Nat.reduceEqDiff, Nat.lt_add_one, Nat.zero_le, Nat.le_refl, Nat.le_zero_eq, Nat.zero_lt_succ, xldc, kbm10, kbm9, kbm8, kbm7, kbm6, kbm5, kbm4, kbm3, kbm2, kb6, kb7, kb8, kb9, kb10, kb11, kb16, kb19, kb20, kb30, kb31, kb32, kb34, kb40, kb64, kb100, kb127, kim1, ki0, ki1, ki2, ki3, ki4, ki5, ks128, ks400, ks999, ks1000, ks4010])
        try simp (disch := omega) only [nx10, nx4, nx32, nxa0, nxa1, nxa2, nxa3, nxa4, nxa5, nxa6, nxa7, nxa8, nxa9, nxa10, nxs1, nxs10, nxss, nI_add, nI_clamp, mnar0, mnar1, Nat.add_sub_cancel]
        refine ok_st rfl rfl ?_
        simp only [okS_some, xst, xp0, xp1, xp2, xp3, xp4, xp5, xload, xstore, xget_0, xget_s, xs_0, xs_1n, xs_1i, xs_1r, xs_1u, xs_1l, xs_s, xt_0, xt_1n, xt_1i, xt_1r, xt_1u, xt_1l, xt_s, xisref, xq0, Value.category, xcat, List.map_nil, List.map_cons, List.sum_nil, List.sum_cons, List.length_cons, List.length_nil, List.getElem?_cons_zero, List.getElem?_cons_succ, xmap_s, if_true, and_self, Nat.reduceAdd, Nat.reduceLT, Nat.reduceLeDiff, Nat.reduceEqDiff, Nat.lt_add_one, Nat.zero_le, Nat.le_refl, Nat.le_zero_eq, Nat.zero_lt_succ, xldc, kbm10, kbm9, kbm8, kbm7, kbm6, kbm5, kbm4, kbm3, kbm2, kb6, kb7, kb8, kb9, kb10, kb11, kb16, kb19, kb20, kb30, kb31, kb32, kb34, kb40, kb64, kb100, kb127, kim1, ki0, ki1, ki2, ki3, ki4, ki5, ks128, ks400, ks999, ks1000, ks4010]
        rw [show nI (8 * i) + Int32.ofInt 8 = nI (8 * (i + 1)) from nI_add (8 * i) 8]
        exact ih (i := i + 1) hW ⟨_, _, _, _, _, _, _, hI.up (by omega), hm, hj, hS2, by omega, by omega⟩ (by omega) (by omega)
      · skip
        iterate 5 (refine ok_st rfl rfl ?_; simp only [okS_some, xst, xp0, xp1, xp2, xp3, xp4, xp5, xload, xstore, xget_0, xget_s, xs_0, xs_1n, xs_1i, xs_1r, xs_1u, xs_1l, xs_s, xt_0, xt_1n, xt_1i, xt_1r, xt_1u, xt_1l, xt_s, xisref, xq0, Value.category, xcat, List.map_nil, List.map_cons, List.sum_nil, List.sum_cons, List.length_cons, List.length_nil, List.getElem?_cons_zero, List.getElem?_cons_succ, xmap_s, if_true, and_self, Nat.reduceAdd, Nat.reduceLT, Nat.reduceLeDiff, Nat.reduceEqDiff, Nat.lt_add_one, Nat.zero_le, Nat.le_refl, Nat.le_zero_eq, Nat.zero_lt_succ, xldc, kbm10, kbm9, kbm8, kbm7, kbm6, kbm5, kbm4, kbm3, kbm2, kb6, kb7, kb8, kb9, kb10, kb11, kb16, kb19, kb20, kb30, kb31, kb32, kb34, kb40, kb64, kb100, kb127, kim1, ki0, ki1, ki2, ki3, ki4, ki5, ks128, ks400, ks999, ks1000, ks4010])
        try simp (disch := omega) only [nx10, nx4, nx32, nxa0, nxa1, nxa2, nxa3, nxa4, nxa5, nxa6, nxa7, nxa8, nxa9, nxa10, nxs1, nxs10, nxss, nI_add, nI_clamp, mnar0, mnar1, Nat.add_sub_cancel]
        refine l_il rfl (nIn (by omega) (by omega)) ?_
        try dsimp only [Nat.reduceAdd]
        try simp (disch := omega) only [nx10, nx4, nx32, nxa0, nxa1, nxa2, nxa3, nxa4, nxa5, nxa6, nxa7, nxa8, nxa9, nxa10, nxs1, nxs10, nxss, nI_add, nI_clamp, mnar0, mnar1, Nat.add_sub_cancel]
        refine ok_cm (vs := [_, _]) rfl rfl rfl rfl (Nat.le_of_ble_eq_true rfl) (Nat.le_of_ble_eq_true rfl) (by show xcl0 2 8 _ _ = true; simp [xcl0, hI.1]) (by decide) hW (sp66 hW hI) ?_
        rintro _ h402 ⟨x406, rfl⟩ k403 al404
        dsimp only [Option.toList, List.cons_append, List.nil_append, Nat.reduceAdd]
        have hW := k403.1
        have z409 := al404 rfl
        try dsimp only at z409
        obtain ⟨B, hm⟩ := hm.kq k403 (by decide)
        have hI := hI.kp k403 (by decide)
        iterate 6 (refine ok_st rfl rfl ?_; simp only [okS_some, xst, xp0, xp1, xp2, xp3, xp4, xp5, xload, xstore, xget_0, xget_s, xs_0, xs_1n, xs_1i, xs_1r, xs_1u, xs_1l, xs_s, xt_0, xt_1n, xt_1i, xt_1r, xt_1u, xt_1l, xt_s, xisref, xq0, Value.category, xcat, List.map_nil, List.map_cons, List.sum_nil, List.sum_cons, List.length_cons, List.length_nil, List.getElem?_cons_zero, List.getElem?_cons_succ, xmap_s, if_true, and_self, Nat.reduceAdd, Nat.reduceLT, Nat.reduceLeDiff, Nat.reduceEqDiff, Nat.lt_add_one, Nat.zero_le, Nat.le_refl, Nat.le_zero_eq, Nat.zero_lt_succ, xldc, kbm10, kbm9, kbm8, kbm7, kbm6, kbm5, kbm4, kbm3, kbm2, kb6, kb7, kb8, kb9, kb10, kb11, kb16, kb19, kb20, kb30, kb31, kb32, kb34, kb40, kb64, kb100, kb127, kim1, ki0, ki1, ki2, ki3, ki4, ki5, ks128, ks400, ks999, ks1000, ks4010])
        try simp (disch := omega) only [nx10, nx4, nx32, nxa0, nxa1, nxa2, nxa3, nxa4, nxa5, nxa6, nxa7, nxa8, nxa9, nxa10, nxs1, nxs10, nxss, nI_add, nI_clamp, mnar0, mnar1, Nat.add_sub_cancel]
        refine l_il rfl (nIn (by omega) (by omega)) ?_
        try dsimp only [Nat.reduceAdd]
        try simp (disch := omega) only [nx10, nx4, nx32, nxa0, nxa1, nxa2, nxa3, nxa4, nxa5, nxa6, nxa7, nxa8, nxa9, nxa10, nxs1, nxs10, nxss, nI_add, nI_clamp, mnar0, mnar1, Nat.add_sub_cancel]
        refine ok_cm (vs := [_, _]) rfl rfl rfl rfl (Nat.le_of_ble_eq_true rfl) (Nat.le_of_ble_eq_true rfl) (by show xcl0 2 9 _ _ = true; simp [xcl0, hm.1]) (by decide) hW (sp126 hW hm hj) ?_
        rintro _ h410 ⟨⟨x414, rfl⟩, S1, A1, B1, M1, hm, hj, hs⟩ k411 al412
        dsimp only [Option.toList, List.cons_append, List.nil_append, Nat.reduceAdd]
        have hW := k411.1
        have z415 := al412 rfl
        try dsimp only at z415
        have hI := hI.kp k411 (by decide)
        have hS2 := hs.trans hS2
        iterate 3 (refine ok_st rfl rfl ?_; simp only [okS_some, xst, xp0, xp1, xp2, xp3, xp4, xp5, xload, xstore, xget_0, xget_s, xs_0, xs_1n, xs_1i, xs_1r, xs_1u, xs_1l, xs_s, xt_0, xt_1n, xt_1i, xt_1r, xt_1u, xt_1l, xt_s, xisref, xq0, Value.category, xcat, List.map_nil, List.map_cons, List.sum_nil, List.sum_cons, List.length_cons, List.length_nil, List.getElem?_cons_zero, List.getElem?_cons_succ, xmap_s, if_true, and_self, Nat.reduceAdd, Nat.reduceLT, Nat.reduceLeDiff, Nat.reduceEqDiff, Nat.lt_add_one, Nat.zero_le, Nat.le_refl, Nat.le_zero_eq, Nat.zero_lt_succ, xldc, kbm10, kbm9, kbm8, kbm7, kbm6, kbm5, kbm4, kbm3, kbm2, kb6, kb7, kb8, kb9, kb10, kb11, kb16, kb19, kb20, kb30, kb31, kb32, kb34, kb40, kb64, kb100, kb127, kim1, ki0, ki1, ki2, ki3, ki4, ki5, ks128, ks400, ks999, ks1000, ks4010])
        try simp (disch := omega) only [nx10, nx4, nx32, nxa0, nxa1, nxa2, nxa3, nxa4, nxa5, nxa6, nxa7, nxa8, nxa9, nxa10, nxs1, nxs10, nxss, nI_add, nI_clamp, mnar0, mnar1, Nat.add_sub_cancel]
        refine ok_st rfl rfl ?_
        simp only [okS_some, xst, xp0, xp1, xp2, xp3, xp4, xp5, xload, xstore, xget_0, xget_s, xs_0, xs_1n, xs_1i, xs_1r, xs_1u, xs_1l, xs_s, xt_0, xt_1n, xt_1i, xt_1r, xt_1u, xt_1l, xt_s, xisref, xq0, Value.category, xcat, List.map_nil, List.map_cons, List.sum_nil, List.sum_cons, List.length_cons, List.length_nil, List.getElem?_cons_zero, List.getElem?_cons_succ, xmap_s, if_true, and_self, Nat.reduceAdd, Nat.reduceLT, Nat.reduceLeDiff, Nat.reduceEqDiff, Nat.lt_add_one, Nat.zero_le, Nat.le_refl, Nat.le_zero_eq, Nat.zero_lt_succ, xldc, kbm10, kbm9, kbm8, kbm7, kbm6, kbm5, kbm4, kbm3, kbm2, kb6, kb7, kb8, kb9, kb10, kb11, kb16, kb19, kb20, kb30, kb31, kb32, kb34, kb40, kb64, kb100, kb127, kim1, ki0, ki1, ki2, ki3, ki4, ki5, ks128, ks400, ks999, ks1000, ks4010]
        rw [show nI (8 * i) + Int32.ofInt 8 = nI (8 * (i + 1)) from nI_add (8 * i) 8]
        exact ih (i := i + 1) hW ⟨_, _, _, _, _, _, _, hI.up (by omega), hm, hj, hS2, by omega, by omega⟩ (by omega) (by omega)
      · skip
        iterate 5 (refine ok_st rfl rfl ?_; simp only [okS_some, xst, xp0, xp1, xp2, xp3, xp4, xp5, xload, xstore, xget_0, xget_s, xs_0, xs_1n, xs_1i, xs_1r, xs_1u, xs_1l, xs_s, xt_0, xt_1n, xt_1i, xt_1r, xt_1u, xt_1l, xt_s, xisref, xq0, Value.category, xcat, List.map_nil, List.map_cons, List.sum_nil, List.sum_cons, List.length_cons, List.length_nil, List.getElem?_cons_zero, List.getElem?_cons_succ, xmap_s, if_true, and_self, Nat.reduceAdd, Nat.reduceLT, Nat.reduceLeDiff, Nat.reduceEqDiff, Nat.lt_add_one, Nat.zero_le, Nat.le_refl, Nat.le_zero_eq, Nat.zero_lt_succ, xldc, kbm10, kbm9, kbm8, kbm7, kbm6, kbm5, kbm4, kbm3, kbm2, kb6, kb7, kb8, kb9, kb10, kb11, kb16, kb19, kb20, kb30, kb31, kb32, kb34, kb40, kb64, kb100, kb127, kim1, ki0, ki1, ki2, ki3, ki4, ki5, ks128, ks400, ks999, ks1000, ks4010])
        try simp (disch := omega) only [nx10, nx4, nx32, nxa0, nxa1, nxa2, nxa3, nxa4, nxa5, nxa6, nxa7, nxa8, nxa9, nxa10, nxs1, nxs10, nxss, nI_add, nI_clamp, mnar0, mnar1, Nat.add_sub_cancel]
        refine l_il rfl (nIn (by omega) (by omega)) ?_
        try dsimp only [Nat.reduceAdd]
        try simp (disch := omega) only [nx10, nx4, nx32, nxa0, nxa1, nxa2, nxa3, nxa4, nxa5, nxa6, nxa7, nxa8, nxa9, nxa10, nxs1, nxs10, nxss, nI_add, nI_clamp, mnar0, mnar1, Nat.add_sub_cancel]
        iterate 4 (refine ok_st rfl rfl ?_; simp only [okS_some, xst, xp0, xp1, xp2, xp3, xp4, xp5, xload, xstore, xget_0, xget_s, xs_0, xs_1n, xs_1i, xs_1r, xs_1u, xs_1l, xs_s, xt_0, xt_1n, xt_1i, xt_1r, xt_1u, xt_1l, xt_s, xisref, xq0, Value.category, xcat, List.map_nil, List.map_cons, List.sum_nil, List.sum_cons, List.length_cons, List.length_nil, List.getElem?_cons_zero, List.getElem?_cons_succ, xmap_s, if_true, and_self, Nat.reduceAdd, Nat.reduceLT, Nat.reduceLeDiff, Nat.reduceEqDiff, Nat.lt_add_one, Nat.zero_le, Nat.le_refl, Nat.le_zero_eq, Nat.zero_lt_succ, xldc, kbm10, kbm9, kbm8, kbm7, kbm6, kbm5, kbm4, kbm3, kbm2, kb6, kb7, kb8, kb9, kb10, kb11, kb16, kb19, kb20, kb30, kb31, kb32, kb34, kb40, kb64, kb100, kb127, kim1, ki0, ki1, ki2, ki3, ki4, ki5, ks128, ks400, ks999, ks1000, ks4010])
        try simp (disch := omega) only [nx10, nx4, nx32, nxa0, nxa1, nxa2, nxa3, nxa4, nxa5, nxa6, nxa7, nxa8, nxa9, nxa10, nxs1, nxs10, nxss, nI_add, nI_clamp, mnar0, mnar1, Nat.add_sub_cancel]
        refine l_il rfl (nIn (by omega) (by omega)) ?_
        try dsimp only [Nat.reduceAdd]
        try simp (disch := omega) only [nx10, nx4, nx32, nxa0, nxa1, nxa2, nxa3, nxa4, nxa5, nxa6, nxa7, nxa8, nxa9, nxa10, nxs1, nxs10, nxss, nI_add, nI_clamp, mnar0, mnar1, Nat.add_sub_cancel]
        iterate 4 (refine ok_st rfl rfl ?_; simp only [okS_some, xst, xp0, xp1, xp2, xp3, xp4, xp5, xload, xstore, xget_0, xget_s, xs_0, xs_1n, xs_1i, xs_1r, xs_1u, xs_1l, xs_s, xt_0, xt_1n, xt_1i, xt_1r, xt_1u, xt_1l, xt_s, xisref, xq0, Value.category, xcat, List.map_nil, List.map_cons, List.sum_nil, List.sum_cons, List.length_cons, List.length_nil, List.getElem?_cons_zero, List.getElem?_cons_succ, xmap_s, if_true, and_self, Nat.reduceAdd, Nat.reduceLT, Nat.reduceLeDiff, Nat.reduceEqDiff, Nat.lt_add_one, Nat.zero_le, Nat.le_refl, Nat.le_zero_eq, Nat.zero_lt_succ, xldc, kbm10, kbm9, kbm8, kbm7, kbm6, kbm5, kbm4, kbm3, kbm2, kb6, kb7, kb8, kb9, kb10, kb11, kb16, kb19, kb20, kb30, kb31, kb32, kb34, kb40, kb64, kb100, kb127, kim1, ki0, ki1, ki2, ki3, ki4, ki5, ks128, ks400, ks999, ks1000, ks4010])
        try simp (disch := omega) only [nx10, nx4, nx32, nxa0, nxa1, nxa2, nxa3, nxa4, nxa5, nxa6, nxa7, nxa8, nxa9, nxa10, nxs1, nxs10, nxss, nI_add, nI_clamp, mnar0, mnar1, Nat.add_sub_cancel]
        refine l_il rfl (nIn (by omega) (by omega)) ?_
        try dsimp only [Nat.reduceAdd]
        try simp (disch := omega) only [nx10, nx4, nx32, nxa0, nxa1, nxa2, nxa3, nxa4, nxa5, nxa6, nxa7, nxa8, nxa9, nxa10, nxs1, nxs10, nxss, nI_add, nI_clamp, mnar0, mnar1, Nat.add_sub_cancel]
        refine ok_cm (vs := [_, _, _, _]) rfl rfl rfl rfl (Nat.le_of_ble_eq_true rfl) (Nat.le_of_ble_eq_true rfl) (by show xcl0 2 8 _ _ = true; simp [xcl0, hI.1]) (by decide) hW (sp67 hW hI (by omega)) ?_
        rintro _ h416 ⟨⟨x420, rfl⟩, hI, z421, z422⟩ k417 al418
        dsimp only [Option.toList, List.cons_append, List.nil_append, Nat.reduceAdd]
        try dsimp only at z421 z422
        have hW := k417.1
        obtain ⟨B, hm⟩ := hm.kq k417 (by decide)
        iterate 6 (refine ok_st rfl rfl ?_; simp only [okS_some, xst, xp0, xp1, xp2, xp3, xp4, xp5, xload, xstore, xget_0, xget_s, xs_0, xs_1n, xs_1i, xs_1r, xs_1u, xs_1l, xs_s, xt_0, xt_1n, xt_1i, xt_1r, xt_1u, xt_1l, xt_s, xisref, xq0, Value.category, xcat, List.map_nil, List.map_cons, List.sum_nil, List.sum_cons, List.length_cons, List.length_nil, List.getElem?_cons_zero, List.getElem?_cons_succ, xmap_s, if_true, and_self, Nat.reduceAdd, Nat.reduceLT, Nat.reduceLeDiff, Nat.reduceEqDiff, Nat.lt_add_one, Nat.zero_le, Nat.le_refl, Nat.le_zero_eq, Nat.zero_lt_succ, xldc, kbm10, kbm9, kbm8, kbm7, kbm6, kbm5, kbm4, kbm3, kbm2, kb6, kb7, kb8, kb9, kb10, kb11, kb16, kb19, kb20, kb30, kb31, kb32, kb34, kb40, kb64, kb100, kb127, kim1, ki0, ki1, ki2, ki3, ki4, ki5, ks128, ks400, ks999, ks1000, ks4010])
        try simp (disch := omega) only [nx10, nx4, nx32, nxa0, nxa1, nxa2, nxa3, nxa4, nxa5, nxa6, nxa7, nxa8, nxa9, nxa10, nxs1, nxs10, nxss, nI_add, nI_clamp, mnar0, mnar1, Nat.add_sub_cancel]
        refine l_il rfl (nIn (by omega) (by omega)) ?_
        try dsimp only [Nat.reduceAdd]
        try simp (disch := omega) only [nx10, nx4, nx32, nxa0, nxa1, nxa2, nxa3, nxa4, nxa5, nxa6, nxa7, nxa8, nxa9, nxa10, nxs1, nxs10, nxss, nI_add, nI_clamp, mnar0, mnar1, Nat.add_sub_cancel]
        iterate 4 (refine ok_st rfl rfl ?_; simp only [okS_some, xst, xp0, xp1, xp2, xp3, xp4, xp5, xload, xstore, xget_0, xget_s, xs_0, xs_1n, xs_1i, xs_1r, xs_1u, xs_1l, xs_s, xt_0, xt_1n, xt_1i, xt_1r, xt_1u, xt_1l, xt_s, xisref, xq0, Value.category, xcat, List.map_nil, List.map_cons, List.sum_nil, List.sum_cons, List.length_cons, List.length_nil, List.getElem?_cons_zero, List.getElem?_cons_succ, xmap_s, if_true, and_self, Nat.reduceAdd, Nat.reduceLT, Nat.reduceLeDiff, Nat.reduceEqDiff, Nat.lt_add_one, Nat.zero_le, Nat.le_refl, Nat.le_zero_eq, Nat.zero_lt_succ, xldc, kbm10, kbm9, kbm8, kbm7, kbm6, kbm5, kbm4, kbm3, kbm2, kb6, kb7, kb8, kb9, kb10, kb11, kb16, kb19, kb20, kb30, kb31, kb32, kb34, kb40, kb64, kb100, kb127, kim1, ki0, ki1, ki2, ki3, ki4, ki5, ks128, ks400, ks999, ks1000, ks4010])
        try simp (disch := omega) only [nx10, nx4, nx32, nxa0, nxa1, nxa2, nxa3, nxa4, nxa5, nxa6, nxa7, nxa8, nxa9, nxa10, nxs1, nxs10, nxss, nI_add, nI_clamp, mnar0, mnar1, Nat.add_sub_cancel]
        refine l_il rfl (nIn (by omega) (by omega)) ?_
        try dsimp only [Nat.reduceAdd]
        try simp (disch := omega) only [nx10, nx4, nx32, nxa0, nxa1, nxa2, nxa3, nxa4, nxa5, nxa6, nxa7, nxa8, nxa9, nxa10, nxs1, nxs10, nxss, nI_add, nI_clamp, mnar0, mnar1, Nat.add_sub_cancel]
        iterate 4 (refine ok_st rfl rfl ?_; simp only [okS_some, xst, xp0, xp1, xp2, xp3, xp4, xp5, xload, xstore, xget_0, xget_s, xs_0, xs_1n, xs_1i, xs_1r, xs_1u, xs_1l, xs_s, xt_0, xt_1n, xt_1i, xt_1r, xt_1u, xt_1l, xt_s, xisref, xq0, Value.category, xcat, List.map_nil, List.map_cons, List.sum_nil, List.sum_cons, List.length_cons, List.length_nil, List.getElem?_cons_zero, List.getElem?_cons_succ, xmap_s, if_true, and_self, Nat.reduceAdd, Nat.reduceLT, Nat.reduceLeDiff, Nat.reduceEqDiff, Nat.lt_add_one, Nat.zero_le, Nat.le_refl, Nat.le_zero_eq, Nat.zero_lt_succ, xldc, kbm10, kbm9, kbm8, kbm7, kbm6, kbm5, kbm4, kbm3, kbm2, kb6, kb7, kb8, kb9, kb10, kb11, kb16, kb19, kb20, kb30, kb31, kb32, kb34, kb40, kb64, kb100, kb127, kim1, ki0, ki1, ki2, ki3, ki4, ki5, ks128, ks400, ks999, ks1000, ks4010])
        try simp (disch := omega) only [nx10, nx4, nx32, nxa0, nxa1, nxa2, nxa3, nxa4, nxa5, nxa6, nxa7, nxa8, nxa9, nxa10, nxs1, nxs10, nxss, nI_add, nI_clamp, mnar0, mnar1, Nat.add_sub_cancel]
        refine l_il rfl (nIn (by omega) (by omega)) ?_
        try dsimp only [Nat.reduceAdd]
        try simp (disch := omega) only [nx10, nx4, nx32, nxa0, nxa1, nxa2, nxa3, nxa4, nxa5, nxa6, nxa7, nxa8, nxa9, nxa10, nxs1, nxs10, nxss, nI_add, nI_clamp, mnar0, mnar1, Nat.add_sub_cancel]
        refine ok_cm (vs := [_, _, _, _]) rfl rfl rfl rfl (Nat.le_of_ble_eq_true rfl) (Nat.le_of_ble_eq_true rfl) (by show xcl0 2 9 _ _ = true; simp [xcl0, hm.1]) (by decide) hW (sp129 hW hm hj) ?_
        rintro _ h424 ⟨⟨x428, rfl⟩, S1, A1, B1, M1, hm, hj, hs⟩ k425 al426
        dsimp only [Option.toList, List.cons_append, List.nil_append, Nat.reduceAdd]
        have hW := k425.1
        have z429 := al426 rfl
        try dsimp only at z429
        have hI := hI.kp k425 (by decide)
        have hS2 := hs.trans hS2
        iterate 3 (refine ok_st rfl rfl ?_; simp only [okS_some, xst, xp0, xp1, xp2, xp3, xp4, xp5, xload, xstore, xget_0, xget_s, xs_0, xs_1n, xs_1i, xs_1r, xs_1u, xs_1l, xs_s, xt_0, xt_1n, xt_1i, xt_1r, xt_1u, xt_1l, xt_s, xisref, xq0, Value.category, xcat, List.map_nil, List.map_cons, List.sum_nil, List.sum_cons, List.length_cons, List.length_nil, List.getElem?_cons_zero, List.getElem?_cons_succ, xmap_s, if_true, and_self, Nat.reduceAdd, Nat.reduceLT, Nat.reduceLeDiff, Nat.reduceEqDiff, Nat.lt_add_one, Nat.zero_le, Nat.le_refl, Nat.le_zero_eq, Nat.zero_lt_succ, xldc, kbm10, kbm9, kbm8, kbm7, kbm6, kbm5, kbm4, kbm3, kbm2, kb6, kb7, kb8, kb9, kb10, kb11, kb16, kb19, kb20, kb30, kb31, kb32, kb34, kb40, kb64, kb100, kb127, kim1, ki0, ki1, ki2, ki3, ki4, ki5, ks128, ks400, ks999, ks1000, ks4010])
        try simp (disch := omega) only [nx10, nx4, nx32, nxa0, nxa1, nxa2, nxa3, nxa4, nxa5, nxa6, nxa7, nxa8, nxa9, nxa10, nxs1, nxs10, nxss, nI_add, nI_clamp, mnar0, mnar1, Nat.add_sub_cancel]
        refine ok_st rfl rfl ?_
        simp only [okS_some, xst, xp0, xp1, xp2, xp3, xp4, xp5, xload, xstore, xget_0, xget_s, xs_0, xs_1n, xs_1i, xs_1r, xs_1u, xs_1l, xs_s, xt_0, xt_1n, xt_1i, xt_1r, xt_1u, xt_1l, xt_s, xisref, xq0, Value.category, xcat, List.map_nil, List.map_cons, List.sum_nil, List.sum_cons, List.length_cons, List.length_nil, List.getElem?_cons_zero, List.getElem?_cons_succ, xmap_s, if_true, and_self, Nat.reduceAdd, Nat.reduceLT, Nat.reduceLeDiff, Nat.reduceEqDiff, Nat.lt_add_one, Nat.zero_le, Nat.le_refl, Nat.le_zero_eq, Nat.zero_lt_succ, xldc, kbm10, kbm9, kbm8, kbm7, kbm6, kbm5, kbm4, kbm3, kbm2, kb6, kb7, kb8, kb9, kb10, kb11, kb16, kb19, kb20, kb30, kb31, kb32, kb34, kb40, kb64, kb100, kb127, kim1, ki0, ki1, ki2, ki3, ki4, ki5, ks128, ks400, ks999, ks1000, ks4010]
        rw [show nI (8 * i) + Int32.ofInt 8 = nI (8 * (i + 1)) from nI_add (8 * i) 8]
        exact ih (i := i + 1) hW ⟨_, _, _, _, _, _, _, hI.up (by omega), hm, hj, hS2, by omega, by omega⟩ (by omega) (by omega)
      · skip
        refine ok_st rfl rfl ?_
        simp only [okS_some, xst, xp0, xp1, xp2, xp3, xp4, xp5, xload, xstore, xget_0, xget_s, xs_0, xs_1n, xs_1i, xs_1r, xs_1u, xs_1l, xs_s, xt_0, xt_1n, xt_1i, xt_1r, xt_1u, xt_1l, xt_s, xisref, xq0, Value.category, xcat, List.map_nil, List.map_cons, List.sum_nil, List.sum_cons, List.length_cons, List.length_nil, List.getElem?_cons_zero, List.getElem?_cons_succ, xmap_s, if_true, and_self, Nat.reduceAdd, Nat.reduceLT, Nat.reduceLeDiff, Nat.reduceEqDiff, Nat.lt_add_one, Nat.zero_le, Nat.le_refl, Nat.le_zero_eq, Nat.zero_lt_succ, xldc, kbm10, kbm9, kbm8, kbm7, kbm6, kbm5, kbm4, kbm3, kbm2, kb6, kb7, kb8, kb9, kb10, kb11, kb16, kb19, kb20, kb30, kb31, kb32, kb34, kb40, kb64, kb100, kb127, kim1, ki0, ki1, ki2, ki3, ki4, ki5, ks128, ks400, ks999, ks1000, ks4010]
        try simp (disch := omega) only [nx10, nx4, nx32, nxa0, nxa1, nxa2, nxa3, nxa4, nxa5, nxa6, nxa7, nxa8, nxa9, nxa10, nxs1, nxs10, nxss, nI_add, nI_clamp, mnar0, mnar1, Nat.add_sub_cancel]
        refine ok_st rfl rfl ?_
        simp only [okS_some, xst, xp0, xp1, xp2, xp3, xp4, xp5, xload, xstore, xget_0, xget_s, xs_0, xs_1n, xs_1i, xs_1r, xs_1u, xs_1l, xs_s, xt_0, xt_1n, xt_1i, xt_1r, xt_1u, xt_1l, xt_s, xisref, xq0, Value.category, xcat, List.map_nil, List.map_cons, List.sum_nil, List.sum_cons, List.length_cons, List.length_nil, List.getElem?_cons_zero, List.getElem?_cons_succ, xmap_s, if_true, and_self, Nat.reduceAdd, Nat.reduceLT, Nat.reduceLeDiff, Nat.reduceEqDiff, Nat.lt_add_one, Nat.zero_le, Nat.le_refl, Nat.le_zero_eq, Nat.zero_lt_succ, xldc, kbm10, kbm9, kbm8, kbm7, kbm6, kbm5, kbm4, kbm3, kbm2, kb6, kb7, kb8, kb9, kb10, kb11, kb16, kb19, kb20, kb30, kb31, kb32, kb34, kb40, kb64, kb100, kb127, kim1, ki0, ki1, ki2, ki3, ki4, ki5, ks128, ks400, ks999, ks1000, ks4010]
        rw [show nI (8 * i) + Int32.ofInt 8 = nI (8 * (i + 1)) from nI_add (8 * i) 8]
        exact ih (i := i + 1) hW ⟨_, _, _, _, _, _, _, hI.up (by omega), hm, hj, hS2, by omega, by omega⟩ (by omega) (by omega)
theorem lJ0 : lJ 0 hD0 := by
  obtain ⟨c1, c2, c3⟩ := mC0
  have z : ∀ q i, q ∈ mQ → i < mlen q → mA0 q i = 0 := c2
  refine ⟨0, mS0, mA0, mB0, 0, 0, 0, cI0, c1, ⟨⟨rfl, by decide, by decide, ⟨fun s hs => z 59 s (by decide) hs, fun n hn => absurd hn (Nat.not_lt_zero n), fun n hn => absurd hn (Nat.not_lt_zero n)⟩, ⟨rfl, by decide, fun v hv => absurd hv (Nat.not_lt_zero v)⟩, rfl, by decide, fun d hd => ⟨fun _ => ⟨z 70 d (by decide) hd, z 71 d (by decide) hd⟩, 0, 0, 0, z 71 d (by decide) hd, z 72 d (by decide) hd, z 73 d (by decide) hd, by decide, by decide, by decide, fun _ => ⟨rfl, rfl⟩, fun q => ?_, fun q => ?_, fun k hk => absurd hk (Nat.not_lt_zero k), fun k hk => absurd hk (Nat.not_lt_zero k)⟩⟩, rfl⟩, rfl, by rw [hD0_1]; decide, by have := hD0_2; omega⟩
  · rw [z 70 d (by decide) hd] at q; exact absurd q (by decide)
  · rw [z 70 d (by decide) hd] at q; exact absurd q (by decide)
theorem law_holds : xLaw := fun X hX => by
  obtain ⟨n, r, h', h1, h2, h3⟩ := law_start (Q := lQ) (law_loop hX _ (i := 0) hD0_wf lJ0 (by decide) (Nat.lt_succ_self _))
  exact ⟨n, h', by rw [← h2]; exact h1, h3⟩
