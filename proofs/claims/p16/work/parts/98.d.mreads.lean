/-! THE MODEL: reads, exactly -/
set_option maxRecDepth 20000 in
set_option maxHeartbeats 4000000 in
/-- ToldHouseModel.isHappening(I)Z -/
theorem me100 {X : Nat × (Nat → Int32)} {S : Nat → Int32} {A : Nat → Nat → Int32} {B : Nat → Nat → Int64} {h : xH} {x1 : Int32} (hW : xWF h) (hm : mC S A B h)  : okM X 100 [.ref 57, .int x1] h (fun v h' => (v = some (.int 1) ∧ 0 ≤ x1 ∧ x1 ≤ S 1 - 1) ∨ (v = some (.int 0) ∧ ¬ (0 ≤ x1 ∧ x1 ≤ S 1 - 1))) := by
  show ok X cd100 (0, [some (.ref 57), some (.int x1)], []) h _
  iterate 3 (refine ok_st rfl rfl ?_; simp only [okS_some, xst, xp0, xp1, xp2, xp3, xp4, xp5, xload, xstore, xget_0, xget_s, xs_0, xs_1n, xs_1i, xs_1r, xs_1u, xs_1l, xs_s, xt_0, xt_1n, xt_1i, xt_1r, xt_1u, xt_1l, xt_s, xisref, xq0, Value.category, xcat, List.map_nil, List.map_cons, List.sum_nil, List.sum_cons, List.length_cons, List.length_nil, List.getElem?_cons_zero, List.getElem?_cons_succ, xmap_s, if_true, and_self, Nat.reduceAdd, Nat.reduceLT, Nat.reduceLeDiff, Nat.reduceEqDiff, Nat.lt_add_one, Nat.zero_le, Nat.le_refl, Nat.le_zero_eq, Nat.zero_lt_succ, xldc, kbm10, kbm9, kbm8, kbm7, kbm6, kbm5, kbm4, kbm3, kbm2, kb6, kb7, kb8, kb9, kb10, kb11, kb16, kb19, kb20, kb30, kb31, kb32, kb34, kb40, kb64, kb100, kb127, kim1, ki0, ki1, ki2, ki3, ki4, ki5, ks128, ks400, ks999, ks1000, ks4010])
  refine ok_st rfl rfl ?_
  simp only [okS_some, xst, xp0, xp1, xp2, xp3, xp4, xp5, xload, xstore, xget_0, xget_s, xs_0, xs_1n, xs_1i, xs_1r, xs_1u, xs_1l, xs_s, xt_0, xt_1n, xt_1i, xt_1r, xt_1u, xt_1l, xt_s, xisref, xq0, Value.category, xcat, List.map_nil, List.map_cons, List.sum_nil, List.sum_cons, List.length_cons, List.length_nil, List.getElem?_cons_zero, List.getElem?_cons_succ, xmap_s, if_true, and_self, Nat.reduceAdd, Nat.reduceLT, Nat.reduceLeDiff, Nat.reduceEqDiff, Nat.lt_add_one, Nat.zero_le, Nat.le_refl, Nat.le_zero_eq, Nat.zero_lt_succ, xldc, kbm10, kbm9, kbm8, kbm7, kbm6, kbm5, kbm4, kbm3, kbm2, kb6, kb7, kb8, kb9, kb10, kb11, kb16, kb19, kb20, kb30, kb31, kb32, kb34, kb40, kb64, kb100, kb127, kim1, ki0, ki1, ki2, ki3, ki4, ki5, ks128, ks400, ks999, ks1000, ks4010, hm.1, mF]
  iterate 2 (refine ok_st rfl rfl ?_; simp only [okS_some, xst, xp0, xp1, xp2, xp3, xp4, xp5, xload, xstore, xget_0, xget_s, xs_0, xs_1n, xs_1i, xs_1r, xs_1u, xs_1l, xs_s, xt_0, xt_1n, xt_1i, xt_1r, xt_1u, xt_1l, xt_s, xisref, xq0, Value.category, xcat, List.map_nil, List.map_cons, List.sum_nil, List.sum_cons, List.length_cons, List.length_nil, List.getElem?_cons_zero, List.getElem?_cons_succ, xmap_s, if_true, and_self, Nat.reduceAdd, Nat.reduceLT, Nat.reduceLeDiff, Nat.reduceEqDiff, Nat.lt_add_one, Nat.zero_le, Nat.le_refl, Nat.le_zero_eq, Nat.zero_lt_succ, xldc, kbm10, kbm9, kbm8, kbm7, kbm6, kbm5, kbm4, kbm3, kbm2, kb6, kb7, kb8, kb9, kb10, kb11, kb16, kb19, kb20, kb30, kb31, kb32, kb34, kb40, kb64, kb100, kb127, kim1, ki0, ki1, ki2, ki3, ki4, ki5, ks128, ks400, ks999, ks1000, ks4010])
  try simp (disch := omega) only [nx10, nx4, nx32, nxa0, nxa1, nxa2, nxa3, nxa4, nxa5, nxa6, nxa7, nxa8, nxa9, nxa10, nxs1, nxs10, nxss, nI_add, nI_clamp, mnar0, mnar1, Nat.add_sub_cancel]
  refine ok_cm (vs := [_, _, _]) rfl rfl rfl rfl (Nat.le_of_ble_eq_true rfl) (Nat.le_of_ble_eq_true rfl) rfl (by decide) hW (sp87 hW hm) ?_
  rintro _ h1 (⟨rfl, c5, c6⟩ | ⟨rfl, c7⟩) k2 al3
  · dsimp only [Option.toList, List.cons_append, List.nil_append, Nat.reduceAdd]
    have s8 := al3 rfl
    have hW := k2.1
    have hm := hm.kp k2 rfl
    refine ok_r1 rfl rfl rfl rfl ?_
    exact Or.inl ⟨rfl, by assumption, by assumption⟩
  · dsimp only [Option.toList, List.cons_append, List.nil_append, Nat.reduceAdd]
    have s9 := al3 rfl
    have hW := k2.1
    have hm := hm.kp k2 rfl
    refine ok_r1 rfl rfl rfl rfl ?_
    exact Or.inr ⟨rfl, by assumption⟩
set_option maxRecDepth 20000 in
set_option maxHeartbeats 4000000 in
theorem lx101_73 {X : Nat × (Nat → Int32)} {S : Nat → Int32} {A : Nat → Nat → Int32} {B : Nat → Nat → Int64} {Q : Option Value → xH → Prop} {n j : Nat} {x2 : Int32} (hj1 : j < 400) (hj2 : A 60 j = nI n) (kk : ∀ {h : xH} {i : Nat}, xWF h → mC S A B h → i ≤ j → A 60 i = nI n → ok X cd101 (89, [some (.ref 57), some (.int (nI n)), some (.int x2), some (.int (nI i))], []) h Q) : ∀ (k : Nat) {h : xH} {i : Nat}, xWF h → mC S A B h → i ≤ j → j - i < k → ok X cd101 (73, [some (.ref 57), some (.int (nI n)), some (.int (x2)), some (.int (nI i))], []) h Q := by
  intro k
  induction k with
  | zero =>
    intro h i hW hm hij hk0
    exact absurd hk0 (by omega)
  | succ k ih =>
    intro h i hW hm hij hk0
    refine ok_st rfl rfl ?_
    simp only [okS_some, xst, xp0, xp1, xp2, xp3, xp4, xp5, xload, xstore, xget_0, xget_s, xs_0, xs_1n, xs_1i, xs_1r, xs_1u, xs_1l, xs_s, xt_0, xt_1n, xt_1i, xt_1r, xt_1u, xt_1l, xt_s, xisref, xq0, Value.category, xcat, List.map_nil, List.map_cons, List.sum_nil, List.sum_cons, List.length_cons, List.length_nil, List.getElem?_cons_zero, List.getElem?_cons_succ, xmap_s, if_true, and_self, Nat.reduceAdd, Nat.reduceLT, Nat.reduceLeDiff, Nat.reduceEqDiff, Nat.lt_add_one, Nat.zero_le, Nat.le_refl, Nat.le_zero_eq, Nat.zero_lt_succ, xldc, kbm10, kbm9, kbm8, kbm7, kbm6, kbm5, kbm4, kbm3, kbm2, kb6, kb7, kb8, kb9, kb10, kb11, kb16, kb19, kb20, kb30, kb31, kb32, kb34, kb40, kb64, kb100, kb127, kim1, ki0, ki1, ki2, ki3, ki4, ki5, ks128, ks400, ks999, ks1000, ks4010]
    refine ok_st rfl rfl ?_
    simp only [okS_some, xst, xp0, xp1, xp2, xp3, xp4, xp5, xload, xstore, xget_0, xget_s, xs_0, xs_1n, xs_1i, xs_1r, xs_1u, xs_1l, xs_s, xt_0, xt_1n, xt_1i, xt_1r, xt_1u, xt_1l, xt_s, xisref, xq0, Value.category, xcat, List.map_nil, List.map_cons, List.sum_nil, List.sum_cons, List.length_cons, List.length_nil, List.getElem?_cons_zero, List.getElem?_cons_succ, xmap_s, if_true, and_self, Nat.reduceAdd, Nat.reduceLT, Nat.reduceLeDiff, Nat.reduceEqDiff, Nat.lt_add_one, Nat.zero_le, Nat.le_refl, Nat.le_zero_eq, Nat.zero_lt_succ, xldc, kbm10, kbm9, kbm8, kbm7, kbm6, kbm5, kbm4, kbm3, kbm2, kb6, kb7, kb8, kb9, kb10, kb11, kb16, kb19, kb20, kb30, kb31, kb32, kb34, kb40, kb64, kb100, kb127, kim1, ki0, ki1, ki2, ki3, ki4, ki5, ks128, ks400, ks999, ks1000, ks4010, hm.1, mF]
    refine ok_st rfl rfl ?_
    simp only [okS_some, xst, xp0, xp1, xp2, xp3, xp4, xp5, xload, xstore, xget_0, xget_s, xs_0, xs_1n, xs_1i, xs_1r, xs_1u, xs_1l, xs_s, xt_0, xt_1n, xt_1i, xt_1r, xt_1u, xt_1l, xt_s, xisref, xq0, Value.category, xcat, List.map_nil, List.map_cons, List.sum_nil, List.sum_cons, List.length_cons, List.length_nil, List.getElem?_cons_zero, List.getElem?_cons_succ, xmap_s, if_true, and_self, Nat.reduceAdd, Nat.reduceLT, Nat.reduceLeDiff, Nat.reduceEqDiff, Nat.lt_add_one, Nat.zero_le, Nat.le_refl, Nat.le_zero_eq, Nat.zero_lt_succ, xldc, kbm10, kbm9, kbm8, kbm7, kbm6, kbm5, kbm4, kbm3, kbm2, kb6, kb7, kb8, kb9, kb10, kb11, kb16, kb19, kb20, kb30, kb31, kb32, kb34, kb40, kb64, kb100, kb127, kim1, ki0, ki1, ki2, ki3, ki4, ki5, ks128, ks400, ks999, ks1000, ks4010]
    refine m_il rfl hm (by decide) rfl (nIn (show _ < 400 by omega) (by decide)) ?_
    try dsimp only [Nat.reduceAdd]
    try simp (disch := omega) only [nx10, nx4, nx32, nxa0, nxa1, nxa2, nxa3, nxa4, nxa5, nxa6, nxa7, nxa8, nxa9, nxa10, nxs1, nxs10, nxss, nI_add, nI_clamp, mnar0, mnar1, Nat.add_sub_cancel]
    iterate 2 (refine ok_st rfl rfl ?_; simp only [okS_some, xst, xp0, xp1, xp2, xp3, xp4, xp5, xload, xstore, xget_0, xget_s, xs_0, xs_1n, xs_1i, xs_1r, xs_1u, xs_1l, xs_s, xt_0, xt_1n, xt_1i, xt_1r, xt_1u, xt_1l, xt_s, xisref, xq0, Value.category, xcat, List.map_nil, List.map_cons, List.sum_nil, List.sum_cons, List.length_cons, List.length_nil, List.getElem?_cons_zero, List.getElem?_cons_succ, xmap_s, if_true, and_self, Nat.reduceAdd, Nat.reduceLT, Nat.reduceLeDiff, Nat.reduceEqDiff, Nat.lt_add_one, Nat.zero_le, Nat.le_refl, Nat.le_zero_eq, Nat.zero_lt_succ, xldc, kbm10, kbm9, kbm8, kbm7, kbm6, kbm5, kbm4, kbm3, kbm2, kb6, kb7, kb8, kb9, kb10, kb11, kb16, kb19, kb20, kb30, kb31, kb32, kb34, kb40, kb64, kb100, kb127, kim1, ki0, ki1, ki2, ki3, ki4, ki5, ks128, ks400, ks999, ks1000, ks4010])
    refine ok_if (fun c101 => ?_) (fun c101 => ?_)
    · simp only [xcnd, decide_eq_true_eq, decide_eq_false_iff_not, Bool.not_eq_true', Bool.not_eq_false'] at c101
      try simp (disch := omega) only [Int32.not_lt, Int32.not_le, nI_ltI, nI_leI, nI_eq, nk0e, nk1e, nk4e, nk10e, nk400e, nk0l, nk1l, nk0g, nk1g, nk0n, nk0p, lg_cmp_ge, lg_cmp_le, lg_cmp_gt, lg_cmp_lt, lg_cmp_eq, Int64.not_lt, Int64.not_le, Nat.not_lt, Nat.not_le] at c101
      exact kk hW hm (by omega) (by assumption)
    · simp only [xcnd, decide_eq_true_eq, decide_eq_false_iff_not, Bool.not_eq_true', Bool.not_eq_false'] at c101
      try simp (disch := omega) only [Int32.not_lt, Int32.not_le, nI_ltI, nI_leI, nI_eq, nk0e, nk1e, nk4e, nk10e, nk400e, nk0l, nk1l, nk0g, nk1g, nk0n, nk0p, lg_cmp_ge, lg_cmp_le, lg_cmp_gt, lg_cmp_lt, lg_cmp_eq, Int64.not_lt, Int64.not_le, Nat.not_lt, Nat.not_le] at c101
      refine ok_st rfl rfl ?_
      simp only [okS_some, xst, xp0, xp1, xp2, xp3, xp4, xp5, xload, xstore, xget_0, xget_s, xs_0, xs_1n, xs_1i, xs_1r, xs_1u, xs_1l, xs_s, xt_0, xt_1n, xt_1i, xt_1r, xt_1u, xt_1l, xt_s, xisref, xq0, Value.category, xcat, List.map_nil, List.map_cons, List.sum_nil, List.sum_cons, List.length_cons, List.length_nil, List.getElem?_cons_zero, List.getElem?_cons_succ, xmap_s, if_true, and_self, Nat.reduceAdd, Nat.reduceLT, Nat.reduceLeDiff, Nat.reduceEqDiff, Nat.lt_add_one, Nat.zero_le, Nat.le_refl, Nat.le_zero_eq, Nat.zero_lt_succ, xldc, kbm10, kbm9, kbm8, kbm7, kbm6, kbm5, kbm4, kbm3, kbm2, kb6, kb7, kb8, kb9, kb10, kb11, kb16, kb19, kb20, kb30, kb31, kb32, kb34, kb40, kb64, kb100, kb127, kim1, ki0, ki1, ki2, ki3, ki4, ki5, ks128, ks400, ks999, ks1000, ks4010]
      try simp (disch := omega) only [nx10, nx4, nx32, nxa0, nxa1, nxa2, nxa3, nxa4, nxa5, nxa6, nxa7, nxa8, nxa9, nxa10, nxs1, nxs10, nxss, nI_add, nI_clamp, mnar0, mnar1, Nat.add_sub_cancel]
      refine ok_st rfl rfl ?_
      simp only [okS_some, xst, xp0, xp1, xp2, xp3, xp4, xp5, xload, xstore, xget_0, xget_s, xs_0, xs_1n, xs_1i, xs_1r, xs_1u, xs_1l, xs_s, xt_0, xt_1n, xt_1i, xt_1r, xt_1u, xt_1l, xt_s, xisref, xq0, Value.category, xcat, List.map_nil, List.map_cons, List.sum_nil, List.sum_cons, List.length_cons, List.length_nil, List.getElem?_cons_zero, List.getElem?_cons_succ, xmap_s, if_true, and_self, Nat.reduceAdd, Nat.reduceLT, Nat.reduceLeDiff, Nat.reduceEqDiff, Nat.lt_add_one, Nat.zero_le, Nat.le_refl, Nat.le_zero_eq, Nat.zero_lt_succ, xldc, kbm10, kbm9, kbm8, kbm7, kbm6, kbm5, kbm4, kbm3, kbm2, kb6, kb7, kb8, kb9, kb10, kb11, kb16, kb19, kb20, kb30, kb31, kb32, kb34, kb40, kb64, kb100, kb127, kim1, ki0, ki1, ki2, ki3, ki4, ki5, ks128, ks400, ks999, ks1000, ks4010]
      have hlt : i < j := by
        rcases Nat.lt_or_ge i j with q | q
        · exact q
        · have q2 : i = j := by omega
          subst q2
          contradiction
      exact ih (i := i + 1) hW hm (by omega) (by omega)
/-! . -/
set_option maxRecDepth 20000 in
set_option maxHeartbeats 4000000 in
/-- ToldHouseModel.happening(II)I -/
theorem me101 {X : Nat × (Nat → Int32)} {S : Nat → Int32} {A : Nat → Nat → Int32} {B : Nat → Nat → Int64} {h : xH} {x1 : Int32} {x2 : Int32}{M V D : Nat} (hW : xWF h) (hm : mC S A B h) (hj : mJ S A M V D) : okM X 101 [.ref 57, .int x1, .int x2] h (fun v h' => (v = some (.int (-1)) ∧ ¬ ((∃ n, n < M ∧ x1 = nI n) ∧ (0 ≤ x2 ∧ x2 ≤ 11))) ∨ ∃ n w, n < M ∧ x1 = nI n ∧ w ≤ 11 ∧ x2 = nI w ∧ ((w < 10 ∧ v = some (.int (A 58 (10 * n + w)))) ∨ (w = 11 ∧ v = some (.int (mrd S A n).toInt32)) ∨ (w = 10 ∧ ∃ A' B' i, mG S A B (A 58 (10 * n)) 999 M A' B' ∧ i < mcn (mpg S A (A 58 (10 * n)) 999) M ∧ A' 60 i = nI n ∧ v = some (.int (if A' 64 i = 0 then 0 else 1))))) := by
  have hS1 := hj.1.1
  have hM := hj.1.2.1
  have hS15 := hj.1.2.2.2.2.1.1
  have hV := hj.1.2.2.2.2.1.2.1
  have hS20 := hj.1.2.2.2.2.2.1
  have hD := hj.1.2.2.2.2.2.2.1
  show ok X cd101 (0, [some (.ref 57), some (.int x1), some (.int x2), none], []) h _
  iterate 2 (refine ok_st rfl rfl ?_; simp only [okS_some, xst, xp0, xp1, xp2, xp3, xp4, xp5, xload, xstore, xget_0, xget_s, xs_0, xs_1n, xs_1i, xs_1r, xs_1u, xs_1l, xs_s, xt_0, xt_1n, xt_1i, xt_1r, xt_1u, xt_1l, xt_s, xisref, xq0, Value.category, xcat, List.map_nil, List.map_cons, List.sum_nil, List.sum_cons, List.length_cons, List.length_nil, List.getElem?_cons_zero, List.getElem?_cons_succ, xmap_s, if_true, and_self, Nat.reduceAdd, Nat.reduceLT, Nat.reduceLeDiff, Nat.reduceEqDiff, Nat.lt_add_one, Nat.zero_le, Nat.le_refl, Nat.le_zero_eq, Nat.zero_lt_succ, xldc, kbm10, kbm9, kbm8, kbm7, kbm6, kbm5, kbm4, kbm3, kbm2, kb6, kb7, kb8, kb9, kb10, kb11, kb16, kb19, kb20, kb30, kb31, kb32, kb34, kb40, kb64, kb100, kb127, kim1, ki0, ki1, ki2, ki3, ki4, ki5, ks128, ks400, ks999, ks1000, ks4010])
  refine ok_cm (vs := [_, _]) rfl rfl rfl rfl (Nat.le_of_ble_eq_true rfl) (Nat.le_of_ble_eq_true rfl) (by show xcl0 2 9 _ _ = true; simp [xcl0, hm.1]) (by decide) hW (me100 hW hm) ?_
  rintro _ h1 (⟨rfl, c5, c6⟩ | ⟨rfl, hnn⟩) k2 al3
  · dsimp only [Option.toList, List.cons_append, List.nil_append, Nat.reduceAdd]
    have s7 := al3 rfl
    have hW := k2.1
    have hm := hm.kp k2 rfl
    rw [hS1] at c6
    obtain ⟨n, hn, rfl⟩ := inr9 (by omega) c5 c6
    refine ok_st rfl rfl ?_
    simp only [okS_some, xst, xp0, xp1, xp2, xp3, xp4, xp5, xload, xstore, xget_0, xget_s, xs_0, xs_1n, xs_1i, xs_1r, xs_1u, xs_1l, xs_s, xt_0, xt_1n, xt_1i, xt_1r, xt_1u, xt_1l, xt_s, xisref, xq0, Value.category, xcat, List.map_nil, List.map_cons, List.sum_nil, List.sum_cons, List.length_cons, List.length_nil, List.getElem?_cons_zero, List.getElem?_cons_succ, xmap_s, if_true, and_self, Nat.reduceAdd, Nat.reduceLT, Nat.reduceLeDiff, Nat.reduceEqDiff, Nat.lt_add_one, Nat.zero_le, Nat.le_refl, Nat.le_zero_eq, Nat.zero_lt_succ, xldc, kbm10, kbm9, kbm8, kbm7, kbm6, kbm5, kbm4, kbm3, kbm2, kb6, kb7, kb8, kb9, kb10, kb11, kb16, kb19, kb20, kb30, kb31, kb32, kb34, kb40, kb64, kb100, kb127, kim1, ki0, ki1, ki2, ki3, ki4, ki5, ks128, ks400, ks999, ks1000, ks4010]
    refine ok_bf rfl ?_
    iterate 3 (refine ok_st rfl rfl ?_; simp only [okS_some, xst, xp0, xp1, xp2, xp3, xp4, xp5, xload, xstore, xget_0, xget_s, xs_0, xs_1n, xs_1i, xs_1r, xs_1u, xs_1l, xs_s, xt_0, xt_1n, xt_1i, xt_1r, xt_1u, xt_1l, xt_s, xisref, xq0, Value.category, xcat, List.map_nil, List.map_cons, List.sum_nil, List.sum_cons, List.length_cons, List.length_nil, List.getElem?_cons_zero, List.getElem?_cons_succ, xmap_s, if_true, and_self, Nat.reduceAdd, Nat.reduceLT, Nat.reduceLeDiff, Nat.reduceEqDiff, Nat.lt_add_one, Nat.zero_le, Nat.le_refl, Nat.le_zero_eq, Nat.zero_lt_succ, xldc, kbm10, kbm9, kbm8, kbm7, kbm6, kbm5, kbm4, kbm3, kbm2, kb6, kb7, kb8, kb9, kb10, kb11, kb16, kb19, kb20, kb30, kb31, kb32, kb34, kb40, kb64, kb100, kb127, kim1, ki0, ki1, ki2, ki3, ki4, ki5, ks128, ks400, ks999, ks1000, ks4010])
    refine ok_cm (vs := [_, _, _]) rfl rfl rfl rfl (Nat.le_of_ble_eq_true rfl) (Nat.le_of_ble_eq_true rfl) rfl (by decide) hW (sp87 hW hm) ?_
    rintro _ h8 (⟨rfl, c12, c13⟩ | ⟨rfl, c14⟩) k9 al10
    · dsimp only [Option.toList, List.cons_append, List.nil_append, Nat.reduceAdd]
      have s15 := al10 rfl
      have hW := k9.1
      have hm := hm.kp k9 rfl
      obtain ⟨w, hw, rfl⟩ := inK (K := 11) (by decide) c12 c13
      refine ok_st rfl rfl ?_
      simp only [okS_some, xst, xp0, xp1, xp2, xp3, xp4, xp5, xload, xstore, xget_0, xget_s, xs_0, xs_1n, xs_1i, xs_1r, xs_1u, xs_1l, xs_s, xt_0, xt_1n, xt_1i, xt_1r, xt_1u, xt_1l, xt_s, xisref, xq0, Value.category, xcat, List.map_nil, List.map_cons, List.sum_nil, List.sum_cons, List.length_cons, List.length_nil, List.getElem?_cons_zero, List.getElem?_cons_succ, xmap_s, if_true, and_self, Nat.reduceAdd, Nat.reduceLT, Nat.reduceLeDiff, Nat.reduceEqDiff, Nat.lt_add_one, Nat.zero_le, Nat.le_refl, Nat.le_zero_eq, Nat.zero_lt_succ, xldc, kbm10, kbm9, kbm8, kbm7, kbm6, kbm5, kbm4, kbm3, kbm2, kb6, kb7, kb8, kb9, kb10, kb11, kb16, kb19, kb20, kb30, kb31, kb32, kb34, kb40, kb64, kb100, kb127, kim1, ki0, ki1, ki2, ki3, ki4, ki5, ks128, ks400, ks999, ks1000, ks4010]
      refine ok_bt rfl ?_
      iterate 3 (refine ok_st rfl rfl ?_; simp only [okS_some, xst, xp0, xp1, xp2, xp3, xp4, xp5, xload, xstore, xget_0, xget_s, xs_0, xs_1n, xs_1i, xs_1r, xs_1u, xs_1l, xs_s, xt_0, xt_1n, xt_1i, xt_1r, xt_1u, xt_1l, xt_s, xisref, xq0, Value.category, xcat, List.map_nil, List.map_cons, List.sum_nil, List.sum_cons, List.length_cons, List.length_nil, List.getElem?_cons_zero, List.getElem?_cons_succ, xmap_s, if_true, and_self, Nat.reduceAdd, Nat.reduceLT, Nat.reduceLeDiff, Nat.reduceEqDiff, Nat.lt_add_one, Nat.zero_le, Nat.le_refl, Nat.le_zero_eq, Nat.zero_lt_succ, xldc, kbm10, kbm9, kbm8, kbm7, kbm6, kbm5, kbm4, kbm3, kbm2, kb6, kb7, kb8, kb9, kb10, kb11, kb16, kb19, kb20, kb30, kb31, kb32, kb34, kb40, kb64, kb100, kb127, kim1, ki0, ki1, ki2, ki3, ki4, ki5, ks128, ks400, ks999, ks1000, ks4010])
      refine ok_if (fun c16 => ?_) (fun c16 => ?_)
      · simp only [xcnd, decide_eq_true_eq, decide_eq_false_iff_not, Bool.not_eq_true', Bool.not_eq_false'] at c16
        try simp (disch := omega) only [Int32.not_lt, Int32.not_le, nI_ltI, nI_leI, nI_eq, nk0e, nk1e, nk4e, nk10e, nk400e, nk0l, nk1l, nk0g, nk1g, nk0n, nk0p, lg_cmp_ge, lg_cmp_le, lg_cmp_gt, lg_cmp_lt, lg_cmp_eq, Int64.not_lt, Int64.not_le, Nat.not_lt, Nat.not_le] at c16
        have q23 := c16
        simp only [Int32.le_iff_toInt_le, Int32.lt_iff_toInt_lt, Int32.not_le, Int32.not_lt, ← Int32.toInt_inj, nI_toInt (show w < 2 ^ 31 by omega), kt10, kt11] at q23
        iterate 3 (refine ok_st rfl rfl ?_; simp only [okS_some, xst, xp0, xp1, xp2, xp3, xp4, xp5, xload, xstore, xget_0, xget_s, xs_0, xs_1n, xs_1i, xs_1r, xs_1u, xs_1l, xs_s, xt_0, xt_1n, xt_1i, xt_1r, xt_1u, xt_1l, xt_s, xisref, xq0, Value.category, xcat, List.map_nil, List.map_cons, List.sum_nil, List.sum_cons, List.length_cons, List.length_nil, List.getElem?_cons_zero, List.getElem?_cons_succ, xmap_s, if_true, and_self, Nat.reduceAdd, Nat.reduceLT, Nat.reduceLeDiff, Nat.reduceEqDiff, Nat.lt_add_one, Nat.zero_le, Nat.le_refl, Nat.le_zero_eq, Nat.zero_lt_succ, xldc, kbm10, kbm9, kbm8, kbm7, kbm6, kbm5, kbm4, kbm3, kbm2, kb6, kb7, kb8, kb9, kb10, kb11, kb16, kb19, kb20, kb30, kb31, kb32, kb34, kb40, kb64, kb100, kb127, kim1, ki0, ki1, ki2, ki3, ki4, ki5, ks128, ks400, ks999, ks1000, ks4010])
        refine ok_if (fun c17 => ?_) (fun c17 => ?_)
        · simp only [xcnd, decide_eq_true_eq, decide_eq_false_iff_not, Bool.not_eq_true', Bool.not_eq_false'] at c17
          try simp (disch := omega) only [Int32.not_lt, Int32.not_le, nI_ltI, nI_leI, nI_eq, nk0e, nk1e, nk4e, nk10e, nk400e, nk0l, nk1l, nk0g, nk1g, nk0n, nk0p, lg_cmp_ge, lg_cmp_le, lg_cmp_gt, lg_cmp_lt, lg_cmp_eq, Int64.not_lt, Int64.not_le, Nat.not_lt, Nat.not_le] at c17
          have q41 := c17
          simp only [Int32.le_iff_toInt_le, Int32.lt_iff_toInt_lt, Int32.not_le, Int32.not_lt, ← Int32.toInt_inj, nI_toInt (show w < 2 ^ 31 by omega), kt10, kt11] at q41
          iterate 2 (refine ok_st rfl rfl ?_; simp only [okS_some, xst, xp0, xp1, xp2, xp3, xp4, xp5, xload, xstore, xget_0, xget_s, xs_0, xs_1n, xs_1i, xs_1r, xs_1u, xs_1l, xs_s, xt_0, xt_1n, xt_1i, xt_1r, xt_1u, xt_1l, xt_s, xisref, xq0, Value.category, xcat, List.map_nil, List.map_cons, List.sum_nil, List.sum_cons, List.length_cons, List.length_nil, List.getElem?_cons_zero, List.getElem?_cons_succ, xmap_s, if_true, and_self, Nat.reduceAdd, Nat.reduceLT, Nat.reduceLeDiff, Nat.reduceEqDiff, Nat.lt_add_one, Nat.zero_le, Nat.le_refl, Nat.le_zero_eq, Nat.zero_lt_succ, xldc, kbm10, kbm9, kbm8, kbm7, kbm6, kbm5, kbm4, kbm3, kbm2, kb6, kb7, kb8, kb9, kb10, kb11, kb16, kb19, kb20, kb30, kb31, kb32, kb34, kb40, kb64, kb100, kb127, kim1, ki0, ki1, ki2, ki3, ki4, ki5, ks128, ks400, ks999, ks1000, ks4010])
          refine ok_st rfl rfl ?_
          simp only [okS_some, xst, xp0, xp1, xp2, xp3, xp4, xp5, xload, xstore, xget_0, xget_s, xs_0, xs_1n, xs_1i, xs_1r, xs_1u, xs_1l, xs_s, xt_0, xt_1n, xt_1i, xt_1r, xt_1u, xt_1l, xt_s, xisref, xq0, Value.category, xcat, List.map_nil, List.map_cons, List.sum_nil, List.sum_cons, List.length_cons, List.length_nil, List.getElem?_cons_zero, List.getElem?_cons_succ, xmap_s, if_true, and_self, Nat.reduceAdd, Nat.reduceLT, Nat.reduceLeDiff, Nat.reduceEqDiff, Nat.lt_add_one, Nat.zero_le, Nat.le_refl, Nat.le_zero_eq, Nat.zero_lt_succ, xldc, kbm10, kbm9, kbm8, kbm7, kbm6, kbm5, kbm4, kbm3, kbm2, kb6, kb7, kb8, kb9, kb10, kb11, kb16, kb19, kb20, kb30, kb31, kb32, kb34, kb40, kb64, kb100, kb127, kim1, ki0, ki1, ki2, ki3, ki4, ki5, ks128, ks400, ks999, ks1000, ks4010, hm.1, mF]
          iterate 3 (refine ok_st rfl rfl ?_; simp only [okS_some, xst, xp0, xp1, xp2, xp3, xp4, xp5, xload, xstore, xget_0, xget_s, xs_0, xs_1n, xs_1i, xs_1r, xs_1u, xs_1l, xs_s, xt_0, xt_1n, xt_1i, xt_1r, xt_1u, xt_1l, xt_s, xisref, xq0, Value.category, xcat, List.map_nil, List.map_cons, List.sum_nil, List.sum_cons, List.length_cons, List.length_nil, List.getElem?_cons_zero, List.getElem?_cons_succ, xmap_s, if_true, and_self, Nat.reduceAdd, Nat.reduceLT, Nat.reduceLeDiff, Nat.reduceEqDiff, Nat.lt_add_one, Nat.zero_le, Nat.le_refl, Nat.le_zero_eq, Nat.zero_lt_succ, xldc, kbm10, kbm9, kbm8, kbm7, kbm6, kbm5, kbm4, kbm3, kbm2, kb6, kb7, kb8, kb9, kb10, kb11, kb16, kb19, kb20, kb30, kb31, kb32, kb34, kb40, kb64, kb100, kb127, kim1, ki0, ki1, ki2, ki3, ki4, ki5, ks128, ks400, ks999, ks1000, ks4010])
          try simp (disch := omega) only [nx10, nx4, nx32, nxa0, nxa1, nxa2, nxa3, nxa4, nxa5, nxa6, nxa7, nxa8, nxa9, nxa10, nxs1, nxs10, nxss, nI_add, nI_clamp, mnar0, mnar1, Nat.add_sub_cancel]
          refine m_il rfl hm (by decide) rfl (nIn (show _ < 4010 by omega) (by decide)) ?_
          try dsimp only [Nat.reduceAdd]
          try simp (disch := omega) only [nx10, nx4, nx32, nxa0, nxa1, nxa2, nxa3, nxa4, nxa5, nxa6, nxa7, nxa8, nxa9, nxa10, nxs1, nxs10, nxss, nI_add, nI_clamp, mnar0, mnar1, Nat.add_sub_cancel]
          refine ok_st rfl rfl ?_
          simp only [okS_some, xst, xp0, xp1, xp2, xp3, xp4, xp5, xload, xstore, xget_0, xget_s, xs_0, xs_1n, xs_1i, xs_1r, xs_1u, xs_1l, xs_s, xt_0, xt_1n, xt_1i, xt_1r, xt_1u, xt_1l, xt_s, xisref, xq0, Value.category, xcat, List.map_nil, List.map_cons, List.sum_nil, List.sum_cons, List.length_cons, List.length_nil, List.getElem?_cons_zero, List.getElem?_cons_succ, xmap_s, if_true, and_self, Nat.reduceAdd, Nat.reduceLT, Nat.reduceLeDiff, Nat.reduceEqDiff, Nat.lt_add_one, Nat.zero_le, Nat.le_refl, Nat.le_zero_eq, Nat.zero_lt_succ, xldc, kbm10, kbm9, kbm8, kbm7, kbm6, kbm5, kbm4, kbm3, kbm2, kb6, kb7, kb8, kb9, kb10, kb11, kb16, kb19, kb20, kb30, kb31, kb32, kb34, kb40, kb64, kb100, kb127, kim1, ki0, ki1, ki2, ki3, ki4, ki5, ks128, ks400, ks999, ks1000, ks4010]
          refine ok_st rfl rfl ?_
          simp only [okS_some, xst, xp0, xp1, xp2, xp3, xp4, xp5, xload, xstore, xget_0, xget_s, xs_0, xs_1n, xs_1i, xs_1r, xs_1u, xs_1l, xs_s, xt_0, xt_1n, xt_1i, xt_1r, xt_1u, xt_1l, xt_s, xisref, xq0, Value.category, xcat, List.map_nil, List.map_cons, List.sum_nil, List.sum_cons, List.length_cons, List.length_nil, List.getElem?_cons_zero, List.getElem?_cons_succ, xmap_s, if_true, and_self, Nat.reduceAdd, Nat.reduceLT, Nat.reduceLeDiff, Nat.reduceEqDiff, Nat.lt_add_one, Nat.zero_le, Nat.le_refl, Nat.le_zero_eq, Nat.zero_lt_succ, xldc, kbm10, kbm9, kbm8, kbm7, kbm6, kbm5, kbm4, kbm3, kbm2, kb6, kb7, kb8, kb9, kb10, kb11, kb16, kb19, kb20, kb30, kb31, kb32, kb34, kb40, kb64, kb100, kb127, kim1, ki0, ki1, ki2, ki3, ki4, ki5, ks128, ks400, ks999, ks1000, ks4010, hm.1, mF]
          try simp (disch := decide) only [mP_s, mP_n, hS1]
          refine ok_st rfl rfl ?_
          simp only [okS_some, xst, xp0, xp1, xp2, xp3, xp4, xp5, xload, xstore, xget_0, xget_s, xs_0, xs_1n, xs_1i, xs_1r, xs_1u, xs_1l, xs_s, xt_0, xt_1n, xt_1i, xt_1r, xt_1u, xt_1l, xt_s, xisref, xq0, Value.category, xcat, List.map_nil, List.map_cons, List.sum_nil, List.sum_cons, List.length_cons, List.length_nil, List.getElem?_cons_zero, List.getElem?_cons_succ, xmap_s, if_true, and_self, Nat.reduceAdd, Nat.reduceLT, Nat.reduceLeDiff, Nat.reduceEqDiff, Nat.lt_add_one, Nat.zero_le, Nat.le_refl, Nat.le_zero_eq, Nat.zero_lt_succ, xldc, kbm10, kbm9, kbm8, kbm7, kbm6, kbm5, kbm4, kbm3, kbm2, kb6, kb7, kb8, kb9, kb10, kb11, kb16, kb19, kb20, kb30, kb31, kb32, kb34, kb40, kb64, kb100, kb127, kim1, ki0, ki1, ki2, ki3, ki4, ki5, ks128, ks400, ks999, ks1000, ks4010]
          refine ok_cm (vs := [_, _, _, _]) rfl rfl rfl rfl (Nat.le_of_ble_eq_true rfl) (Nat.le_of_ble_eq_true rfl) (by show xcl0 2 9 _ _ = true; simp [xcl0, hm.1]) (by decide) hW (sp91 (T := M) hW hm hM) ?_
          rintro _ h18 ⟨rfl, A22, B23, hm, hG24⟩ k19 al20
          have s25 := al20 rfl
          have hW := k19.1
          dsimp only [Option.toList, List.nil_append, Nat.reduceAdd]
          iterate 2 (refine ok_st rfl rfl ?_; simp only [okS_some, xst, xp0, xp1, xp2, xp3, xp4, xp5, xload, xstore, xget_0, xget_s, xs_0, xs_1n, xs_1i, xs_1r, xs_1u, xs_1l, xs_s, xt_0, xt_1n, xt_1i, xt_1r, xt_1u, xt_1l, xt_s, xisref, xq0, Value.category, xcat, List.map_nil, List.map_cons, List.sum_nil, List.sum_cons, List.length_cons, List.length_nil, List.getElem?_cons_zero, List.getElem?_cons_succ, xmap_s, if_true, and_self, Nat.reduceAdd, Nat.reduceLT, Nat.reduceLeDiff, Nat.reduceEqDiff, Nat.lt_add_one, Nat.zero_le, Nat.le_refl, Nat.le_zero_eq, Nat.zero_lt_succ, xldc, kbm10, kbm9, kbm8, kbm7, kbm6, kbm5, kbm4, kbm3, kbm2, kb6, kb7, kb8, kb9, kb10, kb11, kb16, kb19, kb20, kb30, kb31, kb32, kb34, kb40, kb64, kb100, kb127, kim1, ki0, ki1, ki2, ki3, ki4, ki5, ks128, ks400, ks999, ks1000, ks4010])
          obtain ⟨j, hj1, hj2⟩ := mlist_has hj hn hG24
          have hj0 := mcn_le (mpg S A (A 58 (10 * n)) 999) M
          refine lx101_73 (i := 0) (j := j) (by omega) hj2 ?_ _ hW hm (Nat.zero_le _) (Nat.lt_succ_self _)
          intro h26 i hW hm hi hi60
          refine ok_st rfl rfl ?_
          simp only [okS_some, xst, xp0, xp1, xp2, xp3, xp4, xp5, xload, xstore, xget_0, xget_s, xs_0, xs_1n, xs_1i, xs_1r, xs_1u, xs_1l, xs_s, xt_0, xt_1n, xt_1i, xt_1r, xt_1u, xt_1l, xt_s, xisref, xq0, Value.category, xcat, List.map_nil, List.map_cons, List.sum_nil, List.sum_cons, List.length_cons, List.length_nil, List.getElem?_cons_zero, List.getElem?_cons_succ, xmap_s, if_true, and_self, Nat.reduceAdd, Nat.reduceLT, Nat.reduceLeDiff, Nat.reduceEqDiff, Nat.lt_add_one, Nat.zero_le, Nat.le_refl, Nat.le_zero_eq, Nat.zero_lt_succ, xldc, kbm10, kbm9, kbm8, kbm7, kbm6, kbm5, kbm4, kbm3, kbm2, kb6, kb7, kb8, kb9, kb10, kb11, kb16, kb19, kb20, kb30, kb31, kb32, kb34, kb40, kb64, kb100, kb127, kim1, ki0, ki1, ki2, ki3, ki4, ki5, ks128, ks400, ks999, ks1000, ks4010]
          refine ok_st rfl rfl ?_
          simp only [okS_some, xst, xp0, xp1, xp2, xp3, xp4, xp5, xload, xstore, xget_0, xget_s, xs_0, xs_1n, xs_1i, xs_1r, xs_1u, xs_1l, xs_s, xt_0, xt_1n, xt_1i, xt_1r, xt_1u, xt_1l, xt_s, xisref, xq0, Value.category, xcat, List.map_nil, List.map_cons, List.sum_nil, List.sum_cons, List.length_cons, List.length_nil, List.getElem?_cons_zero, List.getElem?_cons_succ, xmap_s, if_true, and_self, Nat.reduceAdd, Nat.reduceLT, Nat.reduceLeDiff, Nat.reduceEqDiff, Nat.lt_add_one, Nat.zero_le, Nat.le_refl, Nat.le_zero_eq, Nat.zero_lt_succ, xldc, kbm10, kbm9, kbm8, kbm7, kbm6, kbm5, kbm4, kbm3, kbm2, kb6, kb7, kb8, kb9, kb10, kb11, kb16, kb19, kb20, kb30, kb31, kb32, kb34, kb40, kb64, kb100, kb127, kim1, ki0, ki1, ki2, ki3, ki4, ki5, ks128, ks400, ks999, ks1000, ks4010, hm.1, mF]
          refine ok_st rfl rfl ?_
          simp only [okS_some, xst, xp0, xp1, xp2, xp3, xp4, xp5, xload, xstore, xget_0, xget_s, xs_0, xs_1n, xs_1i, xs_1r, xs_1u, xs_1l, xs_s, xt_0, xt_1n, xt_1i, xt_1r, xt_1u, xt_1l, xt_s, xisref, xq0, Value.category, xcat, List.map_nil, List.map_cons, List.sum_nil, List.sum_cons, List.length_cons, List.length_nil, List.getElem?_cons_zero, List.getElem?_cons_succ, xmap_s, if_true, and_self, Nat.reduceAdd, Nat.reduceLT, Nat.reduceLeDiff, Nat.reduceEqDiff, Nat.lt_add_one, Nat.zero_le, Nat.le_refl, Nat.le_zero_eq, Nat.zero_lt_succ, xldc, kbm10, kbm9, kbm8, kbm7, kbm6, kbm5, kbm4, kbm3, kbm2, kb6, kb7, kb8, kb9, kb10, kb11, kb16, kb19, kb20, kb30, kb31, kb32, kb34, kb40, kb64, kb100, kb127, kim1, ki0, ki1, ki2, ki3, ki4, ki5, ks128, ks400, ks999, ks1000, ks4010]
          refine m_bl rfl hm (by decide) rfl (nIn (show _ < 400 by omega) (by decide)) ?_
          try dsimp only [Nat.reduceAdd]
          try simp (disch := omega) only [nx10, nx4, nx32, nxa0, nxa1, nxa2, nxa3, nxa4, nxa5, nxa6, nxa7, nxa8, nxa9, nxa10, nxs1, nxs10, nxss, nI_add, nI_clamp, mnar0, mnar1, Nat.add_sub_cancel]
          refine ok_st rfl rfl ?_
          simp only [okS_some, xst, xp0, xp1, xp2, xp3, xp4, xp5, xload, xstore, xget_0, xget_s, xs_0, xs_1n, xs_1i, xs_1r, xs_1u, xs_1l, xs_s, xt_0, xt_1n, xt_1i, xt_1r, xt_1u, xt_1l, xt_s, xisref, xq0, Value.category, xcat, List.map_nil, List.map_cons, List.sum_nil, List.sum_cons, List.length_cons, List.length_nil, List.getElem?_cons_zero, List.getElem?_cons_succ, xmap_s, if_true, and_self, Nat.reduceAdd, Nat.reduceLT, Nat.reduceLeDiff, Nat.reduceEqDiff, Nat.lt_add_one, Nat.zero_le, Nat.le_refl, Nat.le_zero_eq, Nat.zero_lt_succ, xldc, kbm10, kbm9, kbm8, kbm7, kbm6, kbm5, kbm4, kbm3, kbm2, kb6, kb7, kb8, kb9, kb10, kb11, kb16, kb19, kb20, kb30, kb31, kb32, kb34, kb40, kb64, kb100, kb127, kim1, ki0, ki1, ki2, ki3, ki4, ki5, ks128, ks400, ks999, ks1000, ks4010]
          refine ok_if (fun c27 => ?_) (fun c27 => ?_)
          · simp only [xcnd, decide_eq_true_eq, decide_eq_false_iff_not, Bool.not_eq_true', Bool.not_eq_false'] at c27
            try simp (disch := omega) only [Int32.not_lt, Int32.not_le, nI_ltI, nI_leI, nI_eq, nk0e, nk1e, nk4e, nk10e, nk400e, nk0l, nk1l, nk0g, nk1g, nk0n, nk0p, lg_cmp_ge, lg_cmp_le, lg_cmp_gt, lg_cmp_lt, lg_cmp_eq, Int64.not_lt, Int64.not_le, Nat.not_lt, Nat.not_le] at c27
            refine ok_st rfl rfl ?_
            simp only [okS_some, xst, xp0, xp1, xp2, xp3, xp4, xp5, xload, xstore, xget_0, xget_s, xs_0, xs_1n, xs_1i, xs_1r, xs_1u, xs_1l, xs_s, xt_0, xt_1n, xt_1i, xt_1r, xt_1u, xt_1l, xt_s, xisref, xq0, Value.category, xcat, List.map_nil, List.map_cons, List.sum_nil, List.sum_cons, List.length_cons, List.length_nil, List.getElem?_cons_zero, List.getElem?_cons_succ, xmap_s, if_true, and_self, Nat.reduceAdd, Nat.reduceLT, Nat.reduceLeDiff, Nat.reduceEqDiff, Nat.lt_add_one, Nat.zero_le, Nat.le_refl, Nat.le_zero_eq, Nat.zero_lt_succ, xldc, kbm10, kbm9, kbm8, kbm7, kbm6, kbm5, kbm4, kbm3, kbm2, kb6, kb7, kb8, kb9, kb10, kb11, kb16, kb19, kb20, kb30, kb31, kb32, kb34, kb40, kb64, kb100, kb127, kim1, ki0, ki1, ki2, ki3, ki4, ki5, ks128, ks400, ks999, ks1000, ks4010]
            refine ok_r1 rfl rfl rfl rfl ?_
            refine Or.inr ⟨n, w, hn, rfl, hw, rfl, ?_⟩
            exact Or.inr (Or.inr ⟨by omega, A22, B23, i, hG24, by omega, hi60, by first | rw [if_neg (by assumption)] | rw [if_pos (by assumption)]⟩)
          · simp only [xcnd, decide_eq_true_eq, decide_eq_false_iff_not, Bool.not_eq_true', Bool.not_eq_false'] at c27
            try simp (disch := omega) only [Int32.not_lt, Int32.not_le, nI_ltI, nI_leI, nI_eq, nk0e, nk1e, nk4e, nk10e, nk400e, nk0l, nk1l, nk0g, nk1g, nk0n, nk0p, lg_cmp_ge, lg_cmp_le, lg_cmp_gt, lg_cmp_lt, lg_cmp_eq, Int64.not_lt, Int64.not_le, Nat.not_lt, Nat.not_le] at c27
            iterate 2 (refine ok_st rfl rfl ?_; simp only [okS_some, xst, xp0, xp1, xp2, xp3, xp4, xp5, xload, xstore, xget_0, xget_s, xs_0, xs_1n, xs_1i, xs_1r, xs_1u, xs_1l, xs_s, xt_0, xt_1n, xt_1i, xt_1r, xt_1u, xt_1l, xt_s, xisref, xq0, Value.category, xcat, List.map_nil, List.map_cons, List.sum_nil, List.sum_cons, List.length_cons, List.length_nil, List.getElem?_cons_zero, List.getElem?_cons_succ, xmap_s, if_true, and_self, Nat.reduceAdd, Nat.reduceLT, Nat.reduceLeDiff, Nat.reduceEqDiff, Nat.lt_add_one, Nat.zero_le, Nat.le_refl, Nat.le_zero_eq, Nat.zero_lt_succ, xldc, kbm10, kbm9, kbm8, kbm7, kbm6, kbm5, kbm4, kbm3, kbm2, kb6, kb7, kb8, kb9, kb10, kb11, kb16, kb19, kb20, kb30, kb31, kb32, kb34, kb40, kb64, kb100, kb127, kim1, ki0, ki1, ki2, ki3, ki4, ki5, ks128, ks400, ks999, ks1000, ks4010])
            refine ok_r1 rfl rfl rfl rfl ?_
            refine Or.inr ⟨n, w, hn, rfl, hw, rfl, ?_⟩
            exact Or.inr (Or.inr ⟨by omega, A22, B23, i, hG24, by omega, hi60, by first | rw [if_neg (by assumption)] | rw [if_pos (by assumption)]⟩)
        · simp only [xcnd, decide_eq_true_eq, decide_eq_false_iff_not, Bool.not_eq_true', Bool.not_eq_false'] at c17
          try simp (disch := omega) only [Int32.not_lt, Int32.not_le, nI_ltI, nI_leI, nI_eq, nk0e, nk1e, nk4e, nk10e, nk400e, nk0l, nk1l, nk0g, nk1g, nk0n, nk0p, lg_cmp_ge, lg_cmp_le, lg_cmp_gt, lg_cmp_lt, lg_cmp_eq, Int64.not_lt, Int64.not_le, Nat.not_lt, Nat.not_le] at c17
          have q41 := c17
          simp only [Int32.le_iff_toInt_le, Int32.lt_iff_toInt_lt, Int32.not_le, Int32.not_lt, ← Int32.toInt_inj, nI_toInt (show w < 2 ^ 31 by omega), kt10, kt11] at q41
          iterate 2 (refine ok_st rfl rfl ?_; simp only [okS_some, xst, xp0, xp1, xp2, xp3, xp4, xp5, xload, xstore, xget_0, xget_s, xs_0, xs_1n, xs_1i, xs_1r, xs_1u, xs_1l, xs_s, xt_0, xt_1n, xt_1i, xt_1r, xt_1u, xt_1l, xt_s, xisref, xq0, Value.category, xcat, List.map_nil, List.map_cons, List.sum_nil, List.sum_cons, List.length_cons, List.length_nil, List.getElem?_cons_zero, List.getElem?_cons_succ, xmap_s, if_true, and_self, Nat.reduceAdd, Nat.reduceLT, Nat.reduceLeDiff, Nat.reduceEqDiff, Nat.lt_add_one, Nat.zero_le, Nat.le_refl, Nat.le_zero_eq, Nat.zero_lt_succ, xldc, kbm10, kbm9, kbm8, kbm7, kbm6, kbm5, kbm4, kbm3, kbm2, kb6, kb7, kb8, kb9, kb10, kb11, kb16, kb19, kb20, kb30, kb31, kb32, kb34, kb40, kb64, kb100, kb127, kim1, ki0, ki1, ki2, ki3, ki4, ki5, ks128, ks400, ks999, ks1000, ks4010])
          refine ok_cm (vs := [_, _]) rfl rfl rfl rfl (Nat.le_of_ble_eq_true rfl) (Nat.le_of_ble_eq_true rfl) (by show xcl0 2 9 _ _ = true; simp [xcl0, hm.1]) (by decide) hW (sp90 hW hm (by omega)) ?_
          rintro _ h28 rfl k29 al30
          have s32 := al30 rfl
          have hW := k29.1
          have hm := hm.kp k29 rfl
          dsimp only [Option.toList, List.cons_append, List.nil_append, Nat.reduceAdd]
          refine ok_st rfl rfl ?_
          simp only [okS_some, xst, xp0, xp1, xp2, xp3, xp4, xp5, xload, xstore, xget_0, xget_s, xs_0, xs_1n, xs_1i, xs_1r, xs_1u, xs_1l, xs_s, xt_0, xt_1n, xt_1i, xt_1r, xt_1u, xt_1l, xt_s, xisref, xq0, Value.category, xcat, List.map_nil, List.map_cons, List.sum_nil, List.sum_cons, List.length_cons, List.length_nil, List.getElem?_cons_zero, List.getElem?_cons_succ, xmap_s, if_true, and_self, Nat.reduceAdd, Nat.reduceLT, Nat.reduceLeDiff, Nat.reduceEqDiff, Nat.lt_add_one, Nat.zero_le, Nat.le_refl, Nat.le_zero_eq, Nat.zero_lt_succ, xldc, kbm10, kbm9, kbm8, kbm7, kbm6, kbm5, kbm4, kbm3, kbm2, kb6, kb7, kb8, kb9, kb10, kb11, kb16, kb19, kb20, kb30, kb31, kb32, kb34, kb40, kb64, kb100, kb127, kim1, ki0, ki1, ki2, ki3, ki4, ki5, ks128, ks400, ks999, ks1000, ks4010]
          refine ok_r1 rfl rfl rfl rfl ?_
          refine Or.inr ⟨n, w, hn, rfl, hw, rfl, ?_⟩
          first
          | exact Or.inl ⟨by omega, rfl⟩
          | exact Or.inr (Or.inl ⟨by omega, rfl⟩)
      · simp only [xcnd, decide_eq_true_eq, decide_eq_false_iff_not, Bool.not_eq_true', Bool.not_eq_false'] at c16
        try simp (disch := omega) only [Int32.not_lt, Int32.not_le, nI_ltI, nI_leI, nI_eq, nk0e, nk1e, nk4e, nk10e, nk400e, nk0l, nk1l, nk0g, nk1g, nk0n, nk0p, lg_cmp_ge, lg_cmp_le, lg_cmp_gt, lg_cmp_lt, lg_cmp_eq, Int64.not_lt, Int64.not_le, Nat.not_lt, Nat.not_le] at c16
        have q23 := c16
        simp only [Int32.le_iff_toInt_le, Int32.lt_iff_toInt_lt, Int32.not_le, Int32.not_lt, ← Int32.toInt_inj, nI_toInt (show w < 2 ^ 31 by omega), kt10, kt11] at q23
        refine ok_st rfl rfl ?_
        simp only [okS_some, xst, xp0, xp1, xp2, xp3, xp4, xp5, xload, xstore, xget_0, xget_s, xs_0, xs_1n, xs_1i, xs_1r, xs_1u, xs_1l, xs_s, xt_0, xt_1n, xt_1i, xt_1r, xt_1u, xt_1l, xt_s, xisref, xq0, Value.category, xcat, List.map_nil, List.map_cons, List.sum_nil, List.sum_cons, List.length_cons, List.length_nil, List.getElem?_cons_zero, List.getElem?_cons_succ, xmap_s, if_true, and_self, Nat.reduceAdd, Nat.reduceLT, Nat.reduceLeDiff, Nat.reduceEqDiff, Nat.lt_add_one, Nat.zero_le, Nat.le_refl, Nat.le_zero_eq, Nat.zero_lt_succ, xldc, kbm10, kbm9, kbm8, kbm7, kbm6, kbm5, kbm4, kbm3, kbm2, kb6, kb7, kb8, kb9, kb10, kb11, kb16, kb19, kb20, kb30, kb31, kb32, kb34, kb40, kb64, kb100, kb127, kim1, ki0, ki1, ki2, ki3, ki4, ki5, ks128, ks400, ks999, ks1000, ks4010]
        refine ok_st rfl rfl ?_
        simp only [okS_some, xst, xp0, xp1, xp2, xp3, xp4, xp5, xload, xstore, xget_0, xget_s, xs_0, xs_1n, xs_1i, xs_1r, xs_1u, xs_1l, xs_s, xt_0, xt_1n, xt_1i, xt_1r, xt_1u, xt_1l, xt_s, xisref, xq0, Value.category, xcat, List.map_nil, List.map_cons, List.sum_nil, List.sum_cons, List.length_cons, List.length_nil, List.getElem?_cons_zero, List.getElem?_cons_succ, xmap_s, if_true, and_self, Nat.reduceAdd, Nat.reduceLT, Nat.reduceLeDiff, Nat.reduceEqDiff, Nat.lt_add_one, Nat.zero_le, Nat.le_refl, Nat.le_zero_eq, Nat.zero_lt_succ, xldc, kbm10, kbm9, kbm8, kbm7, kbm6, kbm5, kbm4, kbm3, kbm2, kb6, kb7, kb8, kb9, kb10, kb11, kb16, kb19, kb20, kb30, kb31, kb32, kb34, kb40, kb64, kb100, kb127, kim1, ki0, ki1, ki2, ki3, ki4, ki5, ks128, ks400, ks999, ks1000, ks4010, hm.1, mF]
        iterate 3 (refine ok_st rfl rfl ?_; simp only [okS_some, xst, xp0, xp1, xp2, xp3, xp4, xp5, xload, xstore, xget_0, xget_s, xs_0, xs_1n, xs_1i, xs_1r, xs_1u, xs_1l, xs_s, xt_0, xt_1n, xt_1i, xt_1r, xt_1u, xt_1l, xt_s, xisref, xq0, Value.category, xcat, List.map_nil, List.map_cons, List.sum_nil, List.sum_cons, List.length_cons, List.length_nil, List.getElem?_cons_zero, List.getElem?_cons_succ, xmap_s, if_true, and_self, Nat.reduceAdd, Nat.reduceLT, Nat.reduceLeDiff, Nat.reduceEqDiff, Nat.lt_add_one, Nat.zero_le, Nat.le_refl, Nat.le_zero_eq, Nat.zero_lt_succ, xldc, kbm10, kbm9, kbm8, kbm7, kbm6, kbm5, kbm4, kbm3, kbm2, kb6, kb7, kb8, kb9, kb10, kb11, kb16, kb19, kb20, kb30, kb31, kb32, kb34, kb40, kb64, kb100, kb127, kim1, ki0, ki1, ki2, ki3, ki4, ki5, ks128, ks400, ks999, ks1000, ks4010])
        try simp (disch := omega) only [nx10, nx4, nx32, nxa0, nxa1, nxa2, nxa3, nxa4, nxa5, nxa6, nxa7, nxa8, nxa9, nxa10, nxs1, nxs10, nxss, nI_add, nI_clamp, mnar0, mnar1, Nat.add_sub_cancel]
        iterate 2 (refine ok_st rfl rfl ?_; simp only [okS_some, xst, xp0, xp1, xp2, xp3, xp4, xp5, xload, xstore, xget_0, xget_s, xs_0, xs_1n, xs_1i, xs_1r, xs_1u, xs_1l, xs_s, xt_0, xt_1n, xt_1i, xt_1r, xt_1u, xt_1l, xt_s, xisref, xq0, Value.category, xcat, List.map_nil, List.map_cons, List.sum_nil, List.sum_cons, List.length_cons, List.length_nil, List.getElem?_cons_zero, List.getElem?_cons_succ, xmap_s, if_true, and_self, Nat.reduceAdd, Nat.reduceLT, Nat.reduceLeDiff, Nat.reduceEqDiff, Nat.lt_add_one, Nat.zero_le, Nat.le_refl, Nat.le_zero_eq, Nat.zero_lt_succ, xldc, kbm10, kbm9, kbm8, kbm7, kbm6, kbm5, kbm4, kbm3, kbm2, kb6, kb7, kb8, kb9, kb10, kb11, kb16, kb19, kb20, kb30, kb31, kb32, kb34, kb40, kb64, kb100, kb127, kim1, ki0, ki1, ki2, ki3, ki4, ki5, ks128, ks400, ks999, ks1000, ks4010])
        try simp (disch := omega) only [nx10, nx4, nx32, nxa0, nxa1, nxa2, nxa3, nxa4, nxa5, nxa6, nxa7, nxa8, nxa9, nxa10, nxs1, nxs10, nxss, nI_add, nI_clamp, mnar0, mnar1, Nat.add_sub_cancel]
        refine m_il rfl hm (by decide) rfl (nIn (show _ < 4010 by omega) (by decide)) ?_
        try dsimp only [Nat.reduceAdd]
        try simp (disch := omega) only [nx10, nx4, nx32, nxa0, nxa1, nxa2, nxa3, nxa4, nxa5, nxa6, nxa7, nxa8, nxa9, nxa10, nxs1, nxs10, nxss, nI_add, nI_clamp, mnar0, mnar1, Nat.add_sub_cancel]
        refine ok_r1 rfl rfl rfl rfl ?_
        refine Or.inr ⟨n, w, hn, rfl, hw, rfl, ?_⟩
        first
        | exact Or.inl ⟨by omega, rfl⟩
        | exact Or.inr (Or.inl ⟨by omega, rfl⟩)
    · dsimp only [Option.toList, List.cons_append, List.nil_append, Nat.reduceAdd]
      have s33 := al10 rfl
      have hW := k9.1
      have hm := hm.kp k9 rfl
      refine ok_st rfl rfl ?_
      simp only [okS_some, xst, xp0, xp1, xp2, xp3, xp4, xp5, xload, xstore, xget_0, xget_s, xs_0, xs_1n, xs_1i, xs_1r, xs_1u, xs_1l, xs_s, xt_0, xt_1n, xt_1i, xt_1r, xt_1u, xt_1l, xt_s, xisref, xq0, Value.category, xcat, List.map_nil, List.map_cons, List.sum_nil, List.sum_cons, List.length_cons, List.length_nil, List.getElem?_cons_zero, List.getElem?_cons_succ, xmap_s, if_true, and_self, Nat.reduceAdd, Nat.reduceLT, Nat.reduceLeDiff, Nat.reduceEqDiff, Nat.lt_add_one, Nat.zero_le, Nat.le_refl, Nat.le_zero_eq, Nat.zero_lt_succ, xldc, kbm10, kbm9, kbm8, kbm7, kbm6, kbm5, kbm4, kbm3, kbm2, kb6, kb7, kb8, kb9, kb10, kb11, kb16, kb19, kb20, kb30, kb31, kb32, kb34, kb40, kb64, kb100, kb127, kim1, ki0, ki1, ki2, ki3, ki4, ki5, ks128, ks400, ks999, ks1000, ks4010]
      refine ok_bf rfl ?_
      refine ok_st rfl rfl ?_
      simp only [okS_some, xst, xp0, xp1, xp2, xp3, xp4, xp5, xload, xstore, xget_0, xget_s, xs_0, xs_1n, xs_1i, xs_1r, xs_1u, xs_1l, xs_s, xt_0, xt_1n, xt_1i, xt_1r, xt_1u, xt_1l, xt_s, xisref, xq0, Value.category, xcat, List.map_nil, List.map_cons, List.sum_nil, List.sum_cons, List.length_cons, List.length_nil, List.getElem?_cons_zero, List.getElem?_cons_succ, xmap_s, if_true, and_self, Nat.reduceAdd, Nat.reduceLT, Nat.reduceLeDiff, Nat.reduceEqDiff, Nat.lt_add_one, Nat.zero_le, Nat.le_refl, Nat.le_zero_eq, Nat.zero_lt_succ, xldc, kbm10, kbm9, kbm8, kbm7, kbm6, kbm5, kbm4, kbm3, kbm2, kb6, kb7, kb8, kb9, kb10, kb11, kb16, kb19, kb20, kb30, kb31, kb32, kb34, kb40, kb64, kb100, kb127, kim1, ki0, ki1, ki2, ki3, ki4, ki5, ks128, ks400, ks999, ks1000, ks4010]
      refine ok_r1 rfl rfl rfl rfl ?_
      exact Or.inl ⟨rfl, fun z => by first | exact hnn z.1 | exact absurd z.2 (by assumption)⟩
  · dsimp only [Option.toList, List.cons_append, List.nil_append, Nat.reduceAdd]
    have s34 := al3 rfl
    have hW := k2.1
    have hm := hm.kp k2 rfl
    rw [hS1] at hnn
    have hnn := fun z => hnn ((cnt_in (D := M) (by omega)).mpr z)
    refine ok_st rfl rfl ?_
    simp only [okS_some, xst, xp0, xp1, xp2, xp3, xp4, xp5, xload, xstore, xget_0, xget_s, xs_0, xs_1n, xs_1i, xs_1r, xs_1u, xs_1l, xs_s, xt_0, xt_1n, xt_1i, xt_1r, xt_1u, xt_1l, xt_s, xisref, xq0, Value.category, xcat, List.map_nil, List.map_cons, List.sum_nil, List.sum_cons, List.length_cons, List.length_nil, List.getElem?_cons_zero, List.getElem?_cons_succ, xmap_s, if_true, and_self, Nat.reduceAdd, Nat.reduceLT, Nat.reduceLeDiff, Nat.reduceEqDiff, Nat.lt_add_one, Nat.zero_le, Nat.le_refl, Nat.le_zero_eq, Nat.zero_lt_succ, xldc, kbm10, kbm9, kbm8, kbm7, kbm6, kbm5, kbm4, kbm3, kbm2, kb6, kb7, kb8, kb9, kb10, kb11, kb16, kb19, kb20, kb30, kb31, kb32, kb34, kb40, kb64, kb100, kb127, kim1, ki0, ki1, ki2, ki3, ki4, ki5, ks128, ks400, ks999, ks1000, ks4010]
    refine ok_bt rfl ?_
    refine ok_st rfl rfl ?_
    simp only [okS_some, xst, xp0, xp1, xp2, xp3, xp4, xp5, xload, xstore, xget_0, xget_s, xs_0, xs_1n, xs_1i, xs_1r, xs_1u, xs_1l, xs_s, xt_0, xt_1n, xt_1i, xt_1r, xt_1u, xt_1l, xt_s, xisref, xq0, Value.category, xcat, List.map_nil, List.map_cons, List.sum_nil, List.sum_cons, List.length_cons, List.length_nil, List.getElem?_cons_zero, List.getElem?_cons_succ, xmap_s, if_true, and_self, Nat.reduceAdd, Nat.reduceLT, Nat.reduceLeDiff, Nat.reduceEqDiff, Nat.lt_add_one, Nat.zero_le, Nat.le_refl, Nat.le_zero_eq, Nat.zero_lt_succ, xldc, kbm10, kbm9, kbm8, kbm7, kbm6, kbm5, kbm4, kbm3, kbm2, kb6, kb7, kb8, kb9, kb10, kb11, kb16, kb19, kb20, kb30, kb31, kb32, kb34, kb40, kb64, kb100, kb127, kim1, ki0, ki1, ki2, ki3, ki4, ki5, ks128, ks400, ks999, ks1000, ks4010]
    refine ok_r1 rfl rfl rfl rfl ?_
    exact Or.inl ⟨rfl, fun z => by first | exact hnn z.1 | exact absurd z.2 (by assumption)⟩
set_option maxRecDepth 20000 in
set_option maxHeartbeats 4000000 in
/-- ToldHouseModel.isAsked(III)Z -/
theorem me105 {X : Nat × (Nat → Int32)} {S : Nat → Int32} {A : Nat → Nat → Int32} {B : Nat → Nat → Int64} {h : xH} {x1 : Int32} {x2 : Int32} {x3 : Int32} (hW : xWF h) (hm : mC S A B h)  : okM X 105 [.int x1, .int x2, .int x3] h (fun v h' => (v = some (.int 1) ∧ ((0 ≤ x1 ∧ x1 ≤ 19) ∧ (0 ≤ x2 ∧ x2 ≤ 999) ∧ (0 ≤ x3 ∧ x3 ≤ 999))) ∨ (v = some (.int 0) ∧ ¬ ((0 ≤ x1 ∧ x1 ≤ 19) ∧ (0 ≤ x2 ∧ x2 ≤ 999) ∧ (0 ≤ x3 ∧ x3 ≤ 999)))) := by
  show ok X cd105 (0, [some (.int x1), some (.int x2), some (.int x3)], []) h _
  iterate 3 (refine ok_st rfl rfl ?_; simp only [okS_some, xst, xp0, xp1, xp2, xp3, xp4, xp5, xload, xstore, xget_0, xget_s, xs_0, xs_1n, xs_1i, xs_1r, xs_1u, xs_1l, xs_s, xt_0, xt_1n, xt_1i, xt_1r, xt_1u, xt_1l, xt_s, xisref, xq0, Value.category, xcat, List.map_nil, List.map_cons, List.sum_nil, List.sum_cons, List.length_cons, List.length_nil, List.getElem?_cons_zero, List.getElem?_cons_succ, xmap_s, if_true, and_self, Nat.reduceAdd, Nat.reduceLT, Nat.reduceLeDiff, Nat.reduceEqDiff, Nat.lt_add_one, Nat.zero_le, Nat.le_refl, Nat.le_zero_eq, Nat.zero_lt_succ, xldc, kbm10, kbm9, kbm8, kbm7, kbm6, kbm5, kbm4, kbm3, kbm2, kb6, kb7, kb8, kb9, kb10, kb11, kb16, kb19, kb20, kb30, kb31, kb32, kb34, kb40, kb64, kb100, kb127, kim1, ki0, ki1, ki2, ki3, ki4, ki5, ks128, ks400, ks999, ks1000, ks4010])
  refine ok_cm (vs := [_, _, _]) rfl rfl rfl rfl (Nat.le_of_ble_eq_true rfl) (Nat.le_of_ble_eq_true rfl) rfl (by decide) hW (sp87 hW hm) ?_
  rintro _ h1 (⟨rfl, c5, c6⟩ | ⟨rfl, c7⟩) k2 al3
  · dsimp only [Option.toList, List.cons_append, List.nil_append, Nat.reduceAdd]
    have s8 := al3 rfl
    have hW := k2.1
    have hm := hm.kp k2 rfl
    refine ok_st rfl rfl ?_
    simp only [okS_some, xst, xp0, xp1, xp2, xp3, xp4, xp5, xload, xstore, xget_0, xget_s, xs_0, xs_1n, xs_1i, xs_1r, xs_1u, xs_1l, xs_s, xt_0, xt_1n, xt_1i, xt_1r, xt_1u, xt_1l, xt_s, xisref, xq0, Value.category, xcat, List.map_nil, List.map_cons, List.sum_nil, List.sum_cons, List.length_cons, List.length_nil, List.getElem?_cons_zero, List.getElem?_cons_succ, xmap_s, if_true, and_self, Nat.reduceAdd, Nat.reduceLT, Nat.reduceLeDiff, Nat.reduceEqDiff, Nat.lt_add_one, Nat.zero_le, Nat.le_refl, Nat.le_zero_eq, Nat.zero_lt_succ, xldc, kbm10, kbm9, kbm8, kbm7, kbm6, kbm5, kbm4, kbm3, kbm2, kb6, kb7, kb8, kb9, kb10, kb11, kb16, kb19, kb20, kb30, kb31, kb32, kb34, kb40, kb64, kb100, kb127, kim1, ki0, ki1, ki2, ki3, ki4, ki5, ks128, ks400, ks999, ks1000, ks4010]
    refine ok_bf rfl ?_
    iterate 3 (refine ok_st rfl rfl ?_; simp only [okS_some, xst, xp0, xp1, xp2, xp3, xp4, xp5, xload, xstore, xget_0, xget_s, xs_0, xs_1n, xs_1i, xs_1r, xs_1u, xs_1l, xs_s, xt_0, xt_1n, xt_1i, xt_1r, xt_1u, xt_1l, xt_s, xisref, xq0, Value.category, xcat, List.map_nil, List.map_cons, List.sum_nil, List.sum_cons, List.length_cons, List.length_nil, List.getElem?_cons_zero, List.getElem?_cons_succ, xmap_s, if_true, and_self, Nat.reduceAdd, Nat.reduceLT, Nat.reduceLeDiff, Nat.reduceEqDiff, Nat.lt_add_one, Nat.zero_le, Nat.le_refl, Nat.le_zero_eq, Nat.zero_lt_succ, xldc, kbm10, kbm9, kbm8, kbm7, kbm6, kbm5, kbm4, kbm3, kbm2, kb6, kb7, kb8, kb9, kb10, kb11, kb16, kb19, kb20, kb30, kb31, kb32, kb34, kb40, kb64, kb100, kb127, kim1, ki0, ki1, ki2, ki3, ki4, ki5, ks128, ks400, ks999, ks1000, ks4010])
    refine ok_cm (vs := [_, _, _]) rfl rfl rfl rfl (Nat.le_of_ble_eq_true rfl) (Nat.le_of_ble_eq_true rfl) rfl (by decide) hW (sp87 hW hm) ?_
    rintro _ h9 (⟨rfl, c13, c14⟩ | ⟨rfl, c15⟩) k10 al11
    · dsimp only [Option.toList, List.cons_append, List.nil_append, Nat.reduceAdd]
      have s16 := al11 rfl
      have hW := k10.1
      have hm := hm.kp k10 rfl
      refine ok_st rfl rfl ?_
      simp only [okS_some, xst, xp0, xp1, xp2, xp3, xp4, xp5, xload, xstore, xget_0, xget_s, xs_0, xs_1n, xs_1i, xs_1r, xs_1u, xs_1l, xs_s, xt_0, xt_1n, xt_1i, xt_1r, xt_1u, xt_1l, xt_s, xisref, xq0, Value.category, xcat, List.map_nil, List.map_cons, List.sum_nil, List.sum_cons, List.length_cons, List.length_nil, List.getElem?_cons_zero, List.getElem?_cons_succ, xmap_s, if_true, and_self, Nat.reduceAdd, Nat.reduceLT, Nat.reduceLeDiff, Nat.reduceEqDiff, Nat.lt_add_one, Nat.zero_le, Nat.le_refl, Nat.le_zero_eq, Nat.zero_lt_succ, xldc, kbm10, kbm9, kbm8, kbm7, kbm6, kbm5, kbm4, kbm3, kbm2, kb6, kb7, kb8, kb9, kb10, kb11, kb16, kb19, kb20, kb30, kb31, kb32, kb34, kb40, kb64, kb100, kb127, kim1, ki0, ki1, ki2, ki3, ki4, ki5, ks128, ks400, ks999, ks1000, ks4010]
      refine ok_bf rfl ?_
      iterate 3 (refine ok_st rfl rfl ?_; simp only [okS_some, xst, xp0, xp1, xp2, xp3, xp4, xp5, xload, xstore, xget_0, xget_s, xs_0, xs_1n, xs_1i, xs_1r, xs_1u, xs_1l, xs_s, xt_0, xt_1n, xt_1i, xt_1r, xt_1u, xt_1l, xt_s, xisref, xq0, Value.category, xcat, List.map_nil, List.map_cons, List.sum_nil, List.sum_cons, List.length_cons, List.length_nil, List.getElem?_cons_zero, List.getElem?_cons_succ, xmap_s, if_true, and_self, Nat.reduceAdd, Nat.reduceLT, Nat.reduceLeDiff, Nat.reduceEqDiff, Nat.lt_add_one, Nat.zero_le, Nat.le_refl, Nat.le_zero_eq, Nat.zero_lt_succ, xldc, kbm10, kbm9, kbm8, kbm7, kbm6, kbm5, kbm4, kbm3, kbm2, kb6, kb7, kb8, kb9, kb10, kb11, kb16, kb19, kb20, kb30, kb31, kb32, kb34, kb40, kb64, kb100, kb127, kim1, ki0, ki1, ki2, ki3, ki4, ki5, ks128, ks400, ks999, ks1000, ks4010])
      refine ok_cm (vs := [_, _, _]) rfl rfl rfl rfl (Nat.le_of_ble_eq_true rfl) (Nat.le_of_ble_eq_true rfl) rfl (by decide) hW (sp87 hW hm) ?_
      rintro _ h17 (⟨rfl, c21, c22⟩ | ⟨rfl, c23⟩) k18 al19
      · dsimp only [Option.toList, List.cons_append, List.nil_append, Nat.reduceAdd]
        have s24 := al19 rfl
        have hW := k18.1
        have hm := hm.kp k18 rfl
        refine ok_st rfl rfl ?_
        simp only [okS_some, xst, xp0, xp1, xp2, xp3, xp4, xp5, xload, xstore, xget_0, xget_s, xs_0, xs_1n, xs_1i, xs_1r, xs_1u, xs_1l, xs_s, xt_0, xt_1n, xt_1i, xt_1r, xt_1u, xt_1l, xt_s, xisref, xq0, Value.category, xcat, List.map_nil, List.map_cons, List.sum_nil, List.sum_cons, List.length_cons, List.length_nil, List.getElem?_cons_zero, List.getElem?_cons_succ, xmap_s, if_true, and_self, Nat.reduceAdd, Nat.reduceLT, Nat.reduceLeDiff, Nat.reduceEqDiff, Nat.lt_add_one, Nat.zero_le, Nat.le_refl, Nat.le_zero_eq, Nat.zero_lt_succ, xldc, kbm10, kbm9, kbm8, kbm7, kbm6, kbm5, kbm4, kbm3, kbm2, kb6, kb7, kb8, kb9, kb10, kb11, kb16, kb19, kb20, kb30, kb31, kb32, kb34, kb40, kb64, kb100, kb127, kim1, ki0, ki1, ki2, ki3, ki4, ki5, ks128, ks400, ks999, ks1000, ks4010]
        refine ok_bf rfl ?_
        iterate 2 (refine ok_st rfl rfl ?_; simp only [okS_some, xst, xp0, xp1, xp2, xp3, xp4, xp5, xload, xstore, xget_0, xget_s, xs_0, xs_1n, xs_1i, xs_1r, xs_1u, xs_1l, xs_s, xt_0, xt_1n, xt_1i, xt_1r, xt_1u, xt_1l, xt_s, xisref, xq0, Value.category, xcat, List.map_nil, List.map_cons, List.sum_nil, List.sum_cons, List.length_cons, List.length_nil, List.getElem?_cons_zero, List.getElem?_cons_succ, xmap_s, if_true, and_self, Nat.reduceAdd, Nat.reduceLT, Nat.reduceLeDiff, Nat.reduceEqDiff, Nat.lt_add_one, Nat.zero_le, Nat.le_refl, Nat.le_zero_eq, Nat.zero_lt_succ, xldc, kbm10, kbm9, kbm8, kbm7, kbm6, kbm5, kbm4, kbm3, kbm2, kb6, kb7, kb8, kb9, kb10, kb11, kb16, kb19, kb20, kb30, kb31, kb32, kb34, kb40, kb64, kb100, kb127, kim1, ki0, ki1, ki2, ki3, ki4, ki5, ks128, ks400, ks999, ks1000, ks4010])
        refine ok_r1 rfl rfl rfl rfl ?_
        exact Or.inl ⟨rfl, ⟨by assumption, by assumption⟩, ⟨by assumption, by assumption⟩, ⟨by assumption, by assumption⟩⟩
      · dsimp only [Option.toList, List.cons_append, List.nil_append, Nat.reduceAdd]
        have s25 := al19 rfl
        have hW := k18.1
        have hm := hm.kp k18 rfl
        refine ok_st rfl rfl ?_
        simp only [okS_some, xst, xp0, xp1, xp2, xp3, xp4, xp5, xload, xstore, xget_0, xget_s, xs_0, xs_1n, xs_1i, xs_1r, xs_1u, xs_1l, xs_s, xt_0, xt_1n, xt_1i, xt_1r, xt_1u, xt_1l, xt_s, xisref, xq0, Value.category, xcat, List.map_nil, List.map_cons, List.sum_nil, List.sum_cons, List.length_cons, List.length_nil, List.getElem?_cons_zero, List.getElem?_cons_succ, xmap_s, if_true, and_self, Nat.reduceAdd, Nat.reduceLT, Nat.reduceLeDiff, Nat.reduceEqDiff, Nat.lt_add_one, Nat.zero_le, Nat.le_refl, Nat.le_zero_eq, Nat.zero_lt_succ, xldc, kbm10, kbm9, kbm8, kbm7, kbm6, kbm5, kbm4, kbm3, kbm2, kb6, kb7, kb8, kb9, kb10, kb11, kb16, kb19, kb20, kb30, kb31, kb32, kb34, kb40, kb64, kb100, kb127, kim1, ki0, ki1, ki2, ki3, ki4, ki5, ks128, ks400, ks999, ks1000, ks4010]
        refine ok_bt rfl ?_
        refine ok_st rfl rfl ?_
        simp only [okS_some, xst, xp0, xp1, xp2, xp3, xp4, xp5, xload, xstore, xget_0, xget_s, xs_0, xs_1n, xs_1i, xs_1r, xs_1u, xs_1l, xs_s, xt_0, xt_1n, xt_1i, xt_1r, xt_1u, xt_1l, xt_s, xisref, xq0, Value.category, xcat, List.map_nil, List.map_cons, List.sum_nil, List.sum_cons, List.length_cons, List.length_nil, List.getElem?_cons_zero, List.getElem?_cons_succ, xmap_s, if_true, and_self, Nat.reduceAdd, Nat.reduceLT, Nat.reduceLeDiff, Nat.reduceEqDiff, Nat.lt_add_one, Nat.zero_le, Nat.le_refl, Nat.le_zero_eq, Nat.zero_lt_succ, xldc, kbm10, kbm9, kbm8, kbm7, kbm6, kbm5, kbm4, kbm3, kbm2, kb6, kb7, kb8, kb9, kb10, kb11, kb16, kb19, kb20, kb30, kb31, kb32, kb34, kb40, kb64, kb100, kb127, kim1, ki0, ki1, ki2, ki3, ki4, ki5, ks128, ks400, ks999, ks1000, ks4010]
        refine ok_r1 rfl rfl rfl rfl ?_
        exact Or.inr ⟨rfl, fun z => by first | exact absurd z.1 (by assumption) | exact absurd z.2.1 (by assumption) | exact absurd z.2.2 (by assumption)⟩
    · dsimp only [Option.toList, List.cons_append, List.nil_append, Nat.reduceAdd]
      have s26 := al11 rfl
      have hW := k10.1
      have hm := hm.kp k10 rfl
      refine ok_st rfl rfl ?_
      simp only [okS_some, xst, xp0, xp1, xp2, xp3, xp4, xp5, xload, xstore, xget_0, xget_s, xs_0, xs_1n, xs_1i, xs_1r, xs_1u, xs_1l, xs_s, xt_0, xt_1n, xt_1i, xt_1r, xt_1u, xt_1l, xt_s, xisref, xq0, Value.category, xcat, List.map_nil, List.map_cons, List.sum_nil, List.sum_cons, List.length_cons, List.length_nil, List.getElem?_cons_zero, List.getElem?_cons_succ, xmap_s, if_true, and_self, Nat.reduceAdd, Nat.reduceLT, Nat.reduceLeDiff, Nat.reduceEqDiff, Nat.lt_add_one, Nat.zero_le, Nat.le_refl, Nat.le_zero_eq, Nat.zero_lt_succ, xldc, kbm10, kbm9, kbm8, kbm7, kbm6, kbm5, kbm4, kbm3, kbm2, kb6, kb7, kb8, kb9, kb10, kb11, kb16, kb19, kb20, kb30, kb31, kb32, kb34, kb40, kb64, kb100, kb127, kim1, ki0, ki1, ki2, ki3, ki4, ki5, ks128, ks400, ks999, ks1000, ks4010]
      refine ok_bt rfl ?_
      refine ok_st rfl rfl ?_
      simp only [okS_some, xst, xp0, xp1, xp2, xp3, xp4, xp5, xload, xstore, xget_0, xget_s, xs_0, xs_1n, xs_1i, xs_1r, xs_1u, xs_1l, xs_s, xt_0, xt_1n, xt_1i, xt_1r, xt_1u, xt_1l, xt_s, xisref, xq0, Value.category, xcat, List.map_nil, List.map_cons, List.sum_nil, List.sum_cons, List.length_cons, List.length_nil, List.getElem?_cons_zero, List.getElem?_cons_succ, xmap_s, if_true, and_self, Nat.reduceAdd, Nat.reduceLT, Nat.reduceLeDiff, Nat.reduceEqDiff, Nat.lt_add_one, Nat.zero_le, Nat.le_refl, Nat.le_zero_eq, Nat.zero_lt_succ, xldc, kbm10, kbm9, kbm8, kbm7, kbm6, kbm5, kbm4, kbm3, kbm2, kb6, kb7, kb8, kb9, kb10, kb11, kb16, kb19, kb20, kb30, kb31, kb32, kb34, kb40, kb64, kb100, kb127, kim1, ki0, ki1, ki2, ki3, ki4, ki5, ks128, ks400, ks999, ks1000, ks4010]
      refine ok_r1 rfl rfl rfl rfl ?_
      exact Or.inr ⟨rfl, fun z => by first | exact absurd z.1 (by assumption) | exact absurd z.2.1 (by assumption) | exact absurd z.2.2 (by assumption)⟩
  · dsimp only [Option.toList, List.cons_append, List.nil_append, Nat.reduceAdd]
    have s27 := al3 rfl
    have hW := k2.1
    have hm := hm.kp k2 rfl
    refine ok_st rfl rfl ?_
    simp only [okS_some, xst, xp0, xp1, xp2, xp3, xp4, xp5, xload, xstore, xget_0, xget_s, xs_0, xs_1n, xs_1i, xs_1r, xs_1u, xs_1l, xs_s, xt_0, xt_1n, xt_1i, xt_1r, xt_1u, xt_1l, xt_s, xisref, xq0, Value.category, xcat, List.map_nil, List.map_cons, List.sum_nil, List.sum_cons, List.length_cons, List.length_nil, List.getElem?_cons_zero, List.getElem?_cons_succ, xmap_s, if_true, and_self, Nat.reduceAdd, Nat.reduceLT, Nat.reduceLeDiff, Nat.reduceEqDiff, Nat.lt_add_one, Nat.zero_le, Nat.le_refl, Nat.le_zero_eq, Nat.zero_lt_succ, xldc, kbm10, kbm9, kbm8, kbm7, kbm6, kbm5, kbm4, kbm3, kbm2, kb6, kb7, kb8, kb9, kb10, kb11, kb16, kb19, kb20, kb30, kb31, kb32, kb34, kb40, kb64, kb100, kb127, kim1, ki0, ki1, ki2, ki3, ki4, ki5, ks128, ks400, ks999, ks1000, ks4010]
    refine ok_bt rfl ?_
    refine ok_st rfl rfl ?_
    simp only [okS_some, xst, xp0, xp1, xp2, xp3, xp4, xp5, xload, xstore, xget_0, xget_s, xs_0, xs_1n, xs_1i, xs_1r, xs_1u, xs_1l, xs_s, xt_0, xt_1n, xt_1i, xt_1r, xt_1u, xt_1l, xt_s, xisref, xq0, Value.category, xcat, List.map_nil, List.map_cons, List.sum_nil, List.sum_cons, List.length_cons, List.length_nil, List.getElem?_cons_zero, List.getElem?_cons_succ, xmap_s, if_true, and_self, Nat.reduceAdd, Nat.reduceLT, Nat.reduceLeDiff, Nat.reduceEqDiff, Nat.lt_add_one, Nat.zero_le, Nat.le_refl, Nat.le_zero_eq, Nat.zero_lt_succ, xldc, kbm10, kbm9, kbm8, kbm7, kbm6, kbm5, kbm4, kbm3, kbm2, kb6, kb7, kb8, kb9, kb10, kb11, kb16, kb19, kb20, kb30, kb31, kb32, kb34, kb40, kb64, kb100, kb127, kim1, ki0, ki1, ki2, ki3, ki4, ki5, ks128, ks400, ks999, ks1000, ks4010]
    refine ok_r1 rfl rfl rfl rfl ?_
    exact Or.inr ⟨rfl, fun z => by first | exact absurd z.1 (by assumption) | exact absurd z.2.1 (by assumption) | exact absurd z.2.2 (by assumption)⟩
set_option maxRecDepth 20000 in
set_option maxHeartbeats 4000000 in
/-- ToldHouseModel.sum(IIII)J -/
theorem me106 {X : Nat × (Nat → Int32)} {S : Nat → Int32} {A : Nat → Nat → Int32} {B : Nat → Nat → Int64} {h : xH} {x1 : Int32} {x2 : Int32} {x3 : Int32} {x4 : Int32}{M V D : Nat} (hW : xWF h) (hm : mC S A B h) (hj : mJ S A M V D) : okM X 106 [.ref 57, .int x1, .int x2, .int x3, .int x4] h (fun v h' => (v = some (.long 0) ∧ ¬ (((0 ≤ x1 ∧ x1 ≤ 19) ∧ (0 ≤ x2 ∧ x2 ≤ 999) ∧ (0 ≤ x3 ∧ x3 ≤ 999)) ∧ (0 ≤ x4 ∧ x4 ≤ 10))) ∨ (((0 ≤ x1 ∧ x1 ≤ 19) ∧ (0 ≤ x2 ∧ x2 ≤ 999) ∧ (0 ≤ x3 ∧ x3 ≤ 999)) ∧ (0 ≤ x4 ∧ x4 ≤ 10) ∧ ∃ A' B', mG S A B x1 x3 M A' B' ∧ v = some (.long (mss (mps A' x2 x4) (B' 63) (mcn (mpg S A x1 x3) M))))) := by
  have hS1 := hj.1.1
  have hM := hj.1.2.1
  have hS15 := hj.1.2.2.2.2.1.1
  have hV := hj.1.2.2.2.2.1.2.1
  have hS20 := hj.1.2.2.2.2.2.1
  have hD := hj.1.2.2.2.2.2.2.1
  show ok X cd106 (0, [some (.ref 57), some (.int x1), some (.int x2), some (.int x3), some (.int x4)], []) h _
  iterate 3 (refine ok_st rfl rfl ?_; simp only [okS_some, xst, xp0, xp1, xp2, xp3, xp4, xp5, xload, xstore, xget_0, xget_s, xs_0, xs_1n, xs_1i, xs_1r, xs_1u, xs_1l, xs_s, xt_0, xt_1n, xt_1i, xt_1r, xt_1u, xt_1l, xt_s, xisref, xq0, Value.category, xcat, List.map_nil, List.map_cons, List.sum_nil, List.sum_cons, List.length_cons, List.length_nil, List.getElem?_cons_zero, List.getElem?_cons_succ, xmap_s, if_true, and_self, Nat.reduceAdd, Nat.reduceLT, Nat.reduceLeDiff, Nat.reduceEqDiff, Nat.lt_add_one, Nat.zero_le, Nat.le_refl, Nat.le_zero_eq, Nat.zero_lt_succ, xldc, kbm10, kbm9, kbm8, kbm7, kbm6, kbm5, kbm4, kbm3, kbm2, kb6, kb7, kb8, kb9, kb10, kb11, kb16, kb19, kb20, kb30, kb31, kb32, kb34, kb40, kb64, kb100, kb127, kim1, ki0, ki1, ki2, ki3, ki4, ki5, ks128, ks400, ks999, ks1000, ks4010])
  refine ok_cm (vs := [_, _, _]) rfl rfl rfl rfl (Nat.le_of_ble_eq_true rfl) (Nat.le_of_ble_eq_true rfl) rfl (by decide) hW (me105 hW hm) ?_
  rintro _ h1 (⟨rfl, ha⟩ | ⟨rfl, hna⟩) k2 al3
  · dsimp only [Option.toList, List.cons_append, List.nil_append, Nat.reduceAdd]
    have s5 := al3 rfl
    have hW := k2.1
    have hm := hm.kp k2 rfl
    refine ok_st rfl rfl ?_
    simp only [okS_some, xst, xp0, xp1, xp2, xp3, xp4, xp5, xload, xstore, xget_0, xget_s, xs_0, xs_1n, xs_1i, xs_1r, xs_1u, xs_1l, xs_s, xt_0, xt_1n, xt_1i, xt_1r, xt_1u, xt_1l, xt_s, xisref, xq0, Value.category, xcat, List.map_nil, List.map_cons, List.sum_nil, List.sum_cons, List.length_cons, List.length_nil, List.getElem?_cons_zero, List.getElem?_cons_succ, xmap_s, if_true, and_self, Nat.reduceAdd, Nat.reduceLT, Nat.reduceLeDiff, Nat.reduceEqDiff, Nat.lt_add_one, Nat.zero_le, Nat.le_refl, Nat.le_zero_eq, Nat.zero_lt_succ, xldc, kbm10, kbm9, kbm8, kbm7, kbm6, kbm5, kbm4, kbm3, kbm2, kb6, kb7, kb8, kb9, kb10, kb11, kb16, kb19, kb20, kb30, kb31, kb32, kb34, kb40, kb64, kb100, kb127, kim1, ki0, ki1, ki2, ki3, ki4, ki5, ks128, ks400, ks999, ks1000, ks4010]
    refine ok_bf rfl ?_
    iterate 3 (refine ok_st rfl rfl ?_; simp only [okS_some, xst, xp0, xp1, xp2, xp3, xp4, xp5, xload, xstore, xget_0, xget_s, xs_0, xs_1n, xs_1i, xs_1r, xs_1u, xs_1l, xs_s, xt_0, xt_1n, xt_1i, xt_1r, xt_1u, xt_1l, xt_s, xisref, xq0, Value.category, xcat, List.map_nil, List.map_cons, List.sum_nil, List.sum_cons, List.length_cons, List.length_nil, List.getElem?_cons_zero, List.getElem?_cons_succ, xmap_s, if_true, and_self, Nat.reduceAdd, Nat.reduceLT, Nat.reduceLeDiff, Nat.reduceEqDiff, Nat.lt_add_one, Nat.zero_le, Nat.le_refl, Nat.le_zero_eq, Nat.zero_lt_succ, xldc, kbm10, kbm9, kbm8, kbm7, kbm6, kbm5, kbm4, kbm3, kbm2, kb6, kb7, kb8, kb9, kb10, kb11, kb16, kb19, kb20, kb30, kb31, kb32, kb34, kb40, kb64, kb100, kb127, kim1, ki0, ki1, ki2, ki3, ki4, ki5, ks128, ks400, ks999, ks1000, ks4010])
    refine ok_cm (vs := [_, _, _]) rfl rfl rfl rfl (Nat.le_of_ble_eq_true rfl) (Nat.le_of_ble_eq_true rfl) rfl (by decide) hW (sp87 hW hm) ?_
    rintro _ h6 (⟨rfl, c10, c11⟩ | ⟨rfl, c12⟩) k7 al8
    · dsimp only [Option.toList, List.cons_append, List.nil_append, Nat.reduceAdd]
      have s13 := al8 rfl
      have hW := k7.1
      have hm := hm.kp k7 rfl
      refine ok_st rfl rfl ?_
      simp only [okS_some, xst, xp0, xp1, xp2, xp3, xp4, xp5, xload, xstore, xget_0, xget_s, xs_0, xs_1n, xs_1i, xs_1r, xs_1u, xs_1l, xs_s, xt_0, xt_1n, xt_1i, xt_1r, xt_1u, xt_1l, xt_s, xisref, xq0, Value.category, xcat, List.map_nil, List.map_cons, List.sum_nil, List.sum_cons, List.length_cons, List.length_nil, List.getElem?_cons_zero, List.getElem?_cons_succ, xmap_s, if_true, and_self, Nat.reduceAdd, Nat.reduceLT, Nat.reduceLeDiff, Nat.reduceEqDiff, Nat.lt_add_one, Nat.zero_le, Nat.le_refl, Nat.le_zero_eq, Nat.zero_lt_succ, xldc, kbm10, kbm9, kbm8, kbm7, kbm6, kbm5, kbm4, kbm3, kbm2, kb6, kb7, kb8, kb9, kb10, kb11, kb16, kb19, kb20, kb30, kb31, kb32, kb34, kb40, kb64, kb100, kb127, kim1, ki0, ki1, ki2, ki3, ki4, ki5, ks128, ks400, ks999, ks1000, ks4010]
      refine ok_bt rfl ?_
      iterate 3 (refine ok_st rfl rfl ?_; simp only [okS_some, xst, xp0, xp1, xp2, xp3, xp4, xp5, xload, xstore, xget_0, xget_s, xs_0, xs_1n, xs_1i, xs_1r, xs_1u, xs_1l, xs_s, xt_0, xt_1n, xt_1i, xt_1r, xt_1u, xt_1l, xt_s, xisref, xq0, Value.category, xcat, List.map_nil, List.map_cons, List.sum_nil, List.sum_cons, List.length_cons, List.length_nil, List.getElem?_cons_zero, List.getElem?_cons_succ, xmap_s, if_true, and_self, Nat.reduceAdd, Nat.reduceLT, Nat.reduceLeDiff, Nat.reduceEqDiff, Nat.lt_add_one, Nat.zero_le, Nat.le_refl, Nat.le_zero_eq, Nat.zero_lt_succ, xldc, kbm10, kbm9, kbm8, kbm7, kbm6, kbm5, kbm4, kbm3, kbm2, kb6, kb7, kb8, kb9, kb10, kb11, kb16, kb19, kb20, kb30, kb31, kb32, kb34, kb40, kb64, kb100, kb127, kim1, ki0, ki1, ki2, ki3, ki4, ki5, ks128, ks400, ks999, ks1000, ks4010])
      refine ok_st rfl rfl ?_
      simp only [okS_some, xst, xp0, xp1, xp2, xp3, xp4, xp5, xload, xstore, xget_0, xget_s, xs_0, xs_1n, xs_1i, xs_1r, xs_1u, xs_1l, xs_s, xt_0, xt_1n, xt_1i, xt_1r, xt_1u, xt_1l, xt_s, xisref, xq0, Value.category, xcat, List.map_nil, List.map_cons, List.sum_nil, List.sum_cons, List.length_cons, List.length_nil, List.getElem?_cons_zero, List.getElem?_cons_succ, xmap_s, if_true, and_self, Nat.reduceAdd, Nat.reduceLT, Nat.reduceLeDiff, Nat.reduceEqDiff, Nat.lt_add_one, Nat.zero_le, Nat.le_refl, Nat.le_zero_eq, Nat.zero_lt_succ, xldc, kbm10, kbm9, kbm8, kbm7, kbm6, kbm5, kbm4, kbm3, kbm2, kb6, kb7, kb8, kb9, kb10, kb11, kb16, kb19, kb20, kb30, kb31, kb32, kb34, kb40, kb64, kb100, kb127, kim1, ki0, ki1, ki2, ki3, ki4, ki5, ks128, ks400, ks999, ks1000, ks4010, hm.1, mF]
      try simp (disch := decide) only [mP_s, mP_n, hS1]
      refine ok_st rfl rfl ?_
      simp only [okS_some, xst, xp0, xp1, xp2, xp3, xp4, xp5, xload, xstore, xget_0, xget_s, xs_0, xs_1n, xs_1i, xs_1r, xs_1u, xs_1l, xs_s, xt_0, xt_1n, xt_1i, xt_1r, xt_1u, xt_1l, xt_s, xisref, xq0, Value.category, xcat, List.map_nil, List.map_cons, List.sum_nil, List.sum_cons, List.length_cons, List.length_nil, List.getElem?_cons_zero, List.getElem?_cons_succ, xmap_s, if_true, and_self, Nat.reduceAdd, Nat.reduceLT, Nat.reduceLeDiff, Nat.reduceEqDiff, Nat.lt_add_one, Nat.zero_le, Nat.le_refl, Nat.le_zero_eq, Nat.zero_lt_succ, xldc, kbm10, kbm9, kbm8, kbm7, kbm6, kbm5, kbm4, kbm3, kbm2, kb6, kb7, kb8, kb9, kb10, kb11, kb16, kb19, kb20, kb30, kb31, kb32, kb34, kb40, kb64, kb100, kb127, kim1, ki0, ki1, ki2, ki3, ki4, ki5, ks128, ks400, ks999, ks1000, ks4010]
      refine ok_cm (vs := [_, _, _, _]) rfl rfl rfl rfl (Nat.le_of_ble_eq_true rfl) (Nat.le_of_ble_eq_true rfl) (by show xcl0 2 9 _ _ = true; simp [xcl0, hm.1]) (by decide) hW (sp91 (T := M) hW hm hM) ?_
      rintro _ h14 ⟨rfl, A18, B19, hm, hG20⟩ k15 al16
      have s21 := al16 rfl
      have hW := k15.1
      dsimp only [Option.toList, List.nil_append, Nat.reduceAdd]
      iterate 3 (refine ok_st rfl rfl ?_; simp only [okS_some, xst, xp0, xp1, xp2, xp3, xp4, xp5, xload, xstore, xget_0, xget_s, xs_0, xs_1n, xs_1i, xs_1r, xs_1u, xs_1l, xs_s, xt_0, xt_1n, xt_1i, xt_1r, xt_1u, xt_1l, xt_s, xisref, xq0, Value.category, xcat, List.map_nil, List.map_cons, List.sum_nil, List.sum_cons, List.length_cons, List.length_nil, List.getElem?_cons_zero, List.getElem?_cons_succ, xmap_s, if_true, and_self, Nat.reduceAdd, Nat.reduceLT, Nat.reduceLeDiff, Nat.reduceEqDiff, Nat.lt_add_one, Nat.zero_le, Nat.le_refl, Nat.le_zero_eq, Nat.zero_lt_succ, xldc, kbm10, kbm9, kbm8, kbm7, kbm6, kbm5, kbm4, kbm3, kbm2, kb6, kb7, kb8, kb9, kb10, kb11, kb16, kb19, kb20, kb30, kb31, kb32, kb34, kb40, kb64, kb100, kb127, kim1, ki0, ki1, ki2, ki3, ki4, ki5, ks128, ks400, ks999, ks1000, ks4010])
      refine ok_cm (vs := [_, _, _]) rfl rfl rfl rfl (Nat.le_of_ble_eq_true rfl) (Nat.le_of_ble_eq_true rfl) (by show xcl0 2 9 _ _ = true; simp [xcl0, hm.1]) (by decide) hW (sp93 hW hm mP_s (by have := mcn_le (mpg S A x1 x3) M; omega)) ?_
      rintro _ h22 rfl k23 al24
      have s26 := al24 rfl
      have hW := k23.1
      have hm := hm.kp k23 rfl
      dsimp only [Option.toList, List.cons_append, List.nil_append, Nat.reduceAdd]
      refine ok_r1 rfl rfl rfl rfl ?_
      exact Or.inr ⟨ha, ⟨by assumption, by assumption⟩, A18, B19, hG20, rfl⟩
    · dsimp only [Option.toList, List.cons_append, List.nil_append, Nat.reduceAdd]
      have s27 := al8 rfl
      have hW := k7.1
      have hm := hm.kp k7 rfl
      refine ok_st rfl rfl ?_
      simp only [okS_some, xst, xp0, xp1, xp2, xp3, xp4, xp5, xload, xstore, xget_0, xget_s, xs_0, xs_1n, xs_1i, xs_1r, xs_1u, xs_1l, xs_s, xt_0, xt_1n, xt_1i, xt_1r, xt_1u, xt_1l, xt_s, xisref, xq0, Value.category, xcat, List.map_nil, List.map_cons, List.sum_nil, List.sum_cons, List.length_cons, List.length_nil, List.getElem?_cons_zero, List.getElem?_cons_succ, xmap_s, if_true, and_self, Nat.reduceAdd, Nat.reduceLT, Nat.reduceLeDiff, Nat.reduceEqDiff, Nat.lt_add_one, Nat.zero_le, Nat.le_refl, Nat.le_zero_eq, Nat.zero_lt_succ, xldc, kbm10, kbm9, kbm8, kbm7, kbm6, kbm5, kbm4, kbm3, kbm2, kb6, kb7, kb8, kb9, kb10, kb11, kb16, kb19, kb20, kb30, kb31, kb32, kb34, kb40, kb64, kb100, kb127, kim1, ki0, ki1, ki2, ki3, ki4, ki5, ks128, ks400, ks999, ks1000, ks4010]
      refine ok_bf rfl ?_
      refine ok_st rfl rfl ?_
      simp only [okS_some, xst, xp0, xp1, xp2, xp3, xp4, xp5, xload, xstore, xget_0, xget_s, xs_0, xs_1n, xs_1i, xs_1r, xs_1u, xs_1l, xs_s, xt_0, xt_1n, xt_1i, xt_1r, xt_1u, xt_1l, xt_s, xisref, xq0, Value.category, xcat, List.map_nil, List.map_cons, List.sum_nil, List.sum_cons, List.length_cons, List.length_nil, List.getElem?_cons_zero, List.getElem?_cons_succ, xmap_s, if_true, and_self, Nat.reduceAdd, Nat.reduceLT, Nat.reduceLeDiff, Nat.reduceEqDiff, Nat.lt_add_one, Nat.zero_le, Nat.le_refl, Nat.le_zero_eq, Nat.zero_lt_succ, xldc, kbm10, kbm9, kbm8, kbm7, kbm6, kbm5, kbm4, kbm3, kbm2, kb6, kb7, kb8, kb9, kb10, kb11, kb16, kb19, kb20, kb30, kb31, kb32, kb34, kb40, kb64, kb100, kb127, kim1, ki0, ki1, ki2, ki3, ki4, ki5, ks128, ks400, ks999, ks1000, ks4010, kl0, kl1]
      refine ok_r1 rfl rfl rfl rfl ?_
      exact Or.inl ⟨rfl, fun z => by first | exact hna z.1 | exact absurd z.2 (by assumption)⟩
  · dsimp only [Option.toList, List.cons_append, List.nil_append, Nat.reduceAdd]
    have s28 := al3 rfl
    have hW := k2.1
    have hm := hm.kp k2 rfl
    refine ok_st rfl rfl ?_
    simp only [okS_some, xst, xp0, xp1, xp2, xp3, xp4, xp5, xload, xstore, xget_0, xget_s, xs_0, xs_1n, xs_1i, xs_1r, xs_1u, xs_1l, xs_s, xt_0, xt_1n, xt_1i, xt_1r, xt_1u, xt_1l, xt_s, xisref, xq0, Value.category, xcat, List.map_nil, List.map_cons, List.sum_nil, List.sum_cons, List.length_cons, List.length_nil, List.getElem?_cons_zero, List.getElem?_cons_succ, xmap_s, if_true, and_self, Nat.reduceAdd, Nat.reduceLT, Nat.reduceLeDiff, Nat.reduceEqDiff, Nat.lt_add_one, Nat.zero_le, Nat.le_refl, Nat.le_zero_eq, Nat.zero_lt_succ, xldc, kbm10, kbm9, kbm8, kbm7, kbm6, kbm5, kbm4, kbm3, kbm2, kb6, kb7, kb8, kb9, kb10, kb11, kb16, kb19, kb20, kb30, kb31, kb32, kb34, kb40, kb64, kb100, kb127, kim1, ki0, ki1, ki2, ki3, ki4, ki5, ks128, ks400, ks999, ks1000, ks4010]
    refine ok_bt rfl ?_
    refine ok_st rfl rfl ?_
    simp only [okS_some, xst, xp0, xp1, xp2, xp3, xp4, xp5, xload, xstore, xget_0, xget_s, xs_0, xs_1n, xs_1i, xs_1r, xs_1u, xs_1l, xs_s, xt_0, xt_1n, xt_1i, xt_1r, xt_1u, xt_1l, xt_s, xisref, xq0, Value.category, xcat, List.map_nil, List.map_cons, List.sum_nil, List.sum_cons, List.length_cons, List.length_nil, List.getElem?_cons_zero, List.getElem?_cons_succ, xmap_s, if_true, and_self, Nat.reduceAdd, Nat.reduceLT, Nat.reduceLeDiff, Nat.reduceEqDiff, Nat.lt_add_one, Nat.zero_le, Nat.le_refl, Nat.le_zero_eq, Nat.zero_lt_succ, xldc, kbm10, kbm9, kbm8, kbm7, kbm6, kbm5, kbm4, kbm3, kbm2, kb6, kb7, kb8, kb9, kb10, kb11, kb16, kb19, kb20, kb30, kb31, kb32, kb34, kb40, kb64, kb100, kb127, kim1, ki0, ki1, ki2, ki3, ki4, ki5, ks128, ks400, ks999, ks1000, ks4010, kl0, kl1]
    refine ok_r1 rfl rfl rfl rfl ?_
    exact Or.inl ⟨rfl, fun z => by first | exact hna z.1 | exact absurd z.2 (by assumption)⟩
theorem sby_3 (k : Int32) : sby k = 0 ∨ sby k = 1 ∨ sby k = 2 := by
  unfold sby
  split
  · exact Or.inr (Or.inl rfl)
  · split
    · exact Or.inr (Or.inr rfl)
    · exact Or.inl rfl
theorem mx3 {x y : Int32} (hx : x = 0 ∨ x = 1 ∨ x = 2) (hy : y = 0 ∨ y = 1 ∨ y = 2) : (if x < y then y else x) = 0 ∨ (if x < y then y else x) = 1 ∨ (if x < y then y else x) = 2 := by
  by_cases h : x < y
  · rw [if_pos h]; exact hy
  · rw [if_neg h]; exact hx
theorem stF_3 {P : Nat → Bool} {kd : Nat → Int32} : ∀ n, stF P kd n = 0 ∨ stF P kd n = 1 ∨ stF P kd n = 2
  | 0 => Or.inl rfl
  | n + 1 => by
    cases h : P n with
    | true => rw [stF_t h]; exact mx3 (stF_3 n) (sby_3 _)
    | false => rw [stF_f h]; exact stF_3 n
theorem stF_2 {P : Nat → Bool} {kd : Nat → Int32} {i : Nat} (hp : P i = true) (hk : kd i = 2) : ∀ n, i < n → stF P kd n = 2
  | 0 => fun h => absurd h (Nat.not_lt_zero i)
  | n + 1 => fun h => by
    by_cases he : i = n
    · subst he
      rw [stF_t hp, hk]
      rcases stF_3 (P := P) (kd := kd) i with e | e | e <;> rw [e] <;> decide
    · have ih := stF_2 hp hk n (by omega)
      cases h : P n with
      | true => rw [stF_t h, ih]; rcases sby_3 (kd n) with e | e | e <;> rw [e] <;> decide
      | false => rw [stF_f h]; exact ih
theorem stF_c {P Q : Nat → Bool} {kd ke : Nat → Int32} : ∀ {n}, (∀ i, i < n → P i = Q i) → (∀ i, i < n → kd i = ke i) → stF P kd n = stF Q ke n
  | 0, _, _ => rfl
  | n + 1, h1, h2 => by
    have ih := stF_c (n := n) (fun i hi => h1 i (by omega)) (fun i hi => h2 i (by omega))
    cases h : P n with
    | true => rw [stF_t h, stF_t (by rw [← h1 n (by omega)]; exact h), ih, h2 n (by omega)]
    | false => rw [stF_f h, stF_f (by rw [← h1 n (by omega)]; exact h), ih]
def mpt (A : Nat → Nat → Int32) (t : Int32) (i : Nat) : Bool := decide (¬ A 65 i = 0 ∧ A 61 i ≤ t)
def mkd (S : Nat → Int32) (A : Nat → Nat → Int32) (i : Nat) : Int32 := mof S A (A 60 i).toNatClampNeg 2
set_option maxRecDepth 20000 in
set_option maxHeartbeats 4000000 in
theorem lx107_27 {X : Nat × (Nat → Int32)} {S : Nat → Int32} {A : Nat → Nat → Int32} {B : Nat → Nat → Int64} {l T : Nat} (hl : mll A l T) (hS13 : S 13 = nI l) (hl4 : l ≤ 400) (hT : T ≤ 401) {x1 x2 x3 : Int32} : ∀ (k : Nat) {h : xH} {x4 : Int32} {i : Nat}, xWF h → mC S A B h → i ≤ l → x4 = stF (mpt A x2) (mkd S A) i → ¬ stF (mpt A x2) (mkd S A) i = 2 → l - i < k → ok X cd107 (27, [some (.ref 57), some (.int (x1)), some (.int (x2)), some (.int (x3)), some (.int (x4)), some (.int (nI i))], []) h (fun v _ => v = some (.int (stF (mpt A x2) (mkd S A) l))) := by
  intro k
  induction k with
  | zero =>
    intro h x4 i hW hm hil hx4 hne hk0
    exact absurd hk0 (by omega)
  | succ k ih =>
    intro h x4 i hW hm hil hx4 hne hk0
    iterate 2 (refine ok_st rfl rfl ?_; simp only [okS_some, xst, xp0, xp1, xp2, xp3, xp4, xp5, xload, xstore, xget_0, xget_s, xs_0, xs_1n, xs_1i, xs_1r, xs_1u, xs_1l, xs_s, xt_0, xt_1n, xt_1i, xt_1r, xt_1u, xt_1l, xt_s, xisref, xq0, Value.category, xcat, List.map_nil, List.map_cons, List.sum_nil, List.sum_cons, List.length_cons, List.length_nil, List.getElem?_cons_zero, List.getElem?_cons_succ, xmap_s, if_true, and_self, Nat.reduceAdd, Nat.reduceLT, Nat.reduceLeDiff, Nat.reduceEqDiff, Nat.lt_add_one, Nat.zero_le, Nat.le_refl, Nat.le_zero_eq, Nat.zero_lt_succ, xldc, kbm10, kbm9, kbm8, kbm7, kbm6, kbm5, kbm4, kbm3, kbm2, kb6, kb7, kb8, kb9, kb10, kb11, kb16, kb19, kb20, kb30, kb31, kb32, kb34, kb40, kb64, kb100, kb127, kim1, ki0, ki1, ki2, ki3, ki4, ki5, ks128, ks400, ks999, ks1000, ks4010])
    refine ok_st rfl rfl ?_
    simp only [okS_some, xst, xp0, xp1, xp2, xp3, xp4, xp5, xload, xstore, xget_0, xget_s, xs_0, xs_1n, xs_1i, xs_1r, xs_1u, xs_1l, xs_s, xt_0, xt_1n, xt_1i, xt_1r, xt_1u, xt_1l, xt_s, xisref, xq0, Value.category, xcat, List.map_nil, List.map_cons, List.sum_nil, List.sum_cons, List.length_cons, List.length_nil, List.getElem?_cons_zero, List.getElem?_cons_succ, xmap_s, if_true, and_self, Nat.reduceAdd, Nat.reduceLT, Nat.reduceLeDiff, Nat.reduceEqDiff, Nat.lt_add_one, Nat.zero_le, Nat.le_refl, Nat.le_zero_eq, Nat.zero_lt_succ, xldc, kbm10, kbm9, kbm8, kbm7, kbm6, kbm5, kbm4, kbm3, kbm2, kb6, kb7, kb8, kb9, kb10, kb11, kb16, kb19, kb20, kb30, kb31, kb32, kb34, kb40, kb64, kb100, kb127, kim1, ki0, ki1, ki2, ki3, ki4, ki5, ks128, ks400, ks999, ks1000, ks4010, hm.1, mF]
    try rw [hS13]
    refine ok_st rfl rfl ?_
    simp only [okS_some, xst, xp0, xp1, xp2, xp3, xp4, xp5, xload, xstore, xget_0, xget_s, xs_0, xs_1n, xs_1i, xs_1r, xs_1u, xs_1l, xs_s, xt_0, xt_1n, xt_1i, xt_1r, xt_1u, xt_1l, xt_s, xisref, xq0, Value.category, xcat, List.map_nil, List.map_cons, List.sum_nil, List.sum_cons, List.length_cons, List.length_nil, List.getElem?_cons_zero, List.getElem?_cons_succ, xmap_s, if_true, and_self, Nat.reduceAdd, Nat.reduceLT, Nat.reduceLeDiff, Nat.reduceEqDiff, Nat.lt_add_one, Nat.zero_le, Nat.le_refl, Nat.le_zero_eq, Nat.zero_lt_succ, xldc, kbm10, kbm9, kbm8, kbm7, kbm6, kbm5, kbm4, kbm3, kbm2, kb6, kb7, kb8, kb9, kb10, kb11, kb16, kb19, kb20, kb30, kb31, kb32, kb34, kb40, kb64, kb100, kb127, kim1, ki0, ki1, ki2, ki3, ki4, ki5, ks128, ks400, ks999, ks1000, ks4010]
    refine ok_if (fun c101 => ?_) (fun c101 => ?_)
    · simp only [xcnd, decide_eq_true_eq, decide_eq_false_iff_not, Bool.not_eq_true', Bool.not_eq_false'] at c101
      try simp (disch := omega) only [Int32.not_lt, Int32.not_le, nI_ltI, nI_leI, nI_eq, nk0e, nk1e, nk4e, nk10e, nk400e, nk0l, nk1l, nk0g, nk1g, nk0n, nk0p, lg_cmp_ge, lg_cmp_le, lg_cmp_gt, lg_cmp_lt, lg_cmp_eq, Int64.not_lt, Int64.not_le, Nat.not_lt, Nat.not_le] at c101
      refine ok_st rfl rfl ?_
      simp only [okS_some, xst, xp0, xp1, xp2, xp3, xp4, xp5, xload, xstore, xget_0, xget_s, xs_0, xs_1n, xs_1i, xs_1r, xs_1u, xs_1l, xs_s, xt_0, xt_1n, xt_1i, xt_1r, xt_1u, xt_1l, xt_s, xisref, xq0, Value.category, xcat, List.map_nil, List.map_cons, List.sum_nil, List.sum_cons, List.length_cons, List.length_nil, List.getElem?_cons_zero, List.getElem?_cons_succ, xmap_s, if_true, and_self, Nat.reduceAdd, Nat.reduceLT, Nat.reduceLeDiff, Nat.reduceEqDiff, Nat.lt_add_one, Nat.zero_le, Nat.le_refl, Nat.le_zero_eq, Nat.zero_lt_succ, xldc, kbm10, kbm9, kbm8, kbm7, kbm6, kbm5, kbm4, kbm3, kbm2, kb6, kb7, kb8, kb9, kb10, kb11, kb16, kb19, kb20, kb30, kb31, kb32, kb34, kb40, kb64, kb100, kb127, kim1, ki0, ki1, ki2, ki3, ki4, ki5, ks128, ks400, ks999, ks1000, ks4010]
      refine ok_r1 rfl rfl rfl rfl ?_
      obtain rfl : i = l := by omega
      rw [hx4]
    · simp only [xcnd, decide_eq_true_eq, decide_eq_false_iff_not, Bool.not_eq_true', Bool.not_eq_false'] at c101
      try simp (disch := omega) only [Int32.not_lt, Int32.not_le, nI_ltI, nI_leI, nI_eq, nk0e, nk1e, nk4e, nk10e, nk400e, nk0l, nk1l, nk0g, nk1g, nk0n, nk0p, lg_cmp_ge, lg_cmp_le, lg_cmp_gt, lg_cmp_lt, lg_cmp_eq, Int64.not_lt, Int64.not_le, Nat.not_lt, Nat.not_le] at c101
      refine ok_st rfl rfl ?_
      simp only [okS_some, xst, xp0, xp1, xp2, xp3, xp4, xp5, xload, xstore, xget_0, xget_s, xs_0, xs_1n, xs_1i, xs_1r, xs_1u, xs_1l, xs_s, xt_0, xt_1n, xt_1i, xt_1r, xt_1u, xt_1l, xt_s, xisref, xq0, Value.category, xcat, List.map_nil, List.map_cons, List.sum_nil, List.sum_cons, List.length_cons, List.length_nil, List.getElem?_cons_zero, List.getElem?_cons_succ, xmap_s, if_true, and_self, Nat.reduceAdd, Nat.reduceLT, Nat.reduceLeDiff, Nat.reduceEqDiff, Nat.lt_add_one, Nat.zero_le, Nat.le_refl, Nat.le_zero_eq, Nat.zero_lt_succ, xldc, kbm10, kbm9, kbm8, kbm7, kbm6, kbm5, kbm4, kbm3, kbm2, kb6, kb7, kb8, kb9, kb10, kb11, kb16, kb19, kb20, kb30, kb31, kb32, kb34, kb40, kb64, kb100, kb127, kim1, ki0, ki1, ki2, ki3, ki4, ki5, ks128, ks400, ks999, ks1000, ks4010]
      refine ok_st rfl rfl ?_
      simp only [okS_some, xst, xp0, xp1, xp2, xp3, xp4, xp5, xload, xstore, xget_0, xget_s, xs_0, xs_1n, xs_1i, xs_1r, xs_1u, xs_1l, xs_s, xt_0, xt_1n, xt_1i, xt_1r, xt_1u, xt_1l, xt_s, xisref, xq0, Value.category, xcat, List.map_nil, List.map_cons, List.sum_nil, List.sum_cons, List.length_cons, List.length_nil, List.getElem?_cons_zero, List.getElem?_cons_succ, xmap_s, if_true, and_self, Nat.reduceAdd, Nat.reduceLT, Nat.reduceLeDiff, Nat.reduceEqDiff, Nat.lt_add_one, Nat.zero_le, Nat.le_refl, Nat.le_zero_eq, Nat.zero_lt_succ, xldc, kbm10, kbm9, kbm8, kbm7, kbm6, kbm5, kbm4, kbm3, kbm2, kb6, kb7, kb8, kb9, kb10, kb11, kb16, kb19, kb20, kb30, kb31, kb32, kb34, kb40, kb64, kb100, kb127, kim1, ki0, ki1, ki2, ki3, ki4, ki5, ks128, ks400, ks999, ks1000, ks4010, hm.1, mF]
      refine ok_st rfl rfl ?_
      simp only [okS_some, xst, xp0, xp1, xp2, xp3, xp4, xp5, xload, xstore, xget_0, xget_s, xs_0, xs_1n, xs_1i, xs_1r, xs_1u, xs_1l, xs_s, xt_0, xt_1n, xt_1i, xt_1r, xt_1u, xt_1l, xt_s, xisref, xq0, Value.category, xcat, List.map_nil, List.map_cons, List.sum_nil, List.sum_cons, List.length_cons, List.length_nil, List.getElem?_cons_zero, List.getElem?_cons_succ, xmap_s, if_true, and_self, Nat.reduceAdd, Nat.reduceLT, Nat.reduceLeDiff, Nat.reduceEqDiff, Nat.lt_add_one, Nat.zero_le, Nat.le_refl, Nat.le_zero_eq, Nat.zero_lt_succ, xldc, kbm10, kbm9, kbm8, kbm7, kbm6, kbm5, kbm4, kbm3, kbm2, kb6, kb7, kb8, kb9, kb10, kb11, kb16, kb19, kb20, kb30, kb31, kb32, kb34, kb40, kb64, kb100, kb127, kim1, ki0, ki1, ki2, ki3, ki4, ki5, ks128, ks400, ks999, ks1000, ks4010]
      refine m_bl rfl hm (by decide) rfl (nIn (show _ < 400 by omega) (by decide)) ?_
      try dsimp only [Nat.reduceAdd]
      try simp (disch := omega) only [nx10, nx4, nx32, nxa0, nxa1, nxa2, nxa3, nxa4, nxa5, nxa6, nxa7, nxa8, nxa9, nxa10, nxs1, nxs10, nxss, nI_add, nI_clamp, mnar0, mnar1, Nat.add_sub_cancel]
      refine ok_st rfl rfl ?_
      simp only [okS_some, xst, xp0, xp1, xp2, xp3, xp4, xp5, xload, xstore, xget_0, xget_s, xs_0, xs_1n, xs_1i, xs_1r, xs_1u, xs_1l, xs_s, xt_0, xt_1n, xt_1i, xt_1r, xt_1u, xt_1l, xt_s, xisref, xq0, Value.category, xcat, List.map_nil, List.map_cons, List.sum_nil, List.sum_cons, List.length_cons, List.length_nil, List.getElem?_cons_zero, List.getElem?_cons_succ, xmap_s, if_true, and_self, Nat.reduceAdd, Nat.reduceLT, Nat.reduceLeDiff, Nat.reduceEqDiff, Nat.lt_add_one, Nat.zero_le, Nat.le_refl, Nat.le_zero_eq, Nat.zero_lt_succ, xldc, kbm10, kbm9, kbm8, kbm7, kbm6, kbm5, kbm4, kbm3, kbm2, kb6, kb7, kb8, kb9, kb10, kb11, kb16, kb19, kb20, kb30, kb31, kb32, kb34, kb40, kb64, kb100, kb127, kim1, ki0, ki1, ki2, ki3, ki4, ki5, ks128, ks400, ks999, ks1000, ks4010]
      refine ok_if (fun c102 => ?_) (fun c102 => ?_)
      · simp only [xcnd, decide_eq_true_eq, decide_eq_false_iff_not, Bool.not_eq_true', Bool.not_eq_false'] at c102
        try simp (disch := omega) only [Int32.not_lt, Int32.not_le, nI_ltI, nI_leI, nI_eq, nk0e, nk1e, nk4e, nk10e, nk400e, nk0l, nk1l, nk0g, nk1g, nk0n, nk0p, lg_cmp_ge, lg_cmp_le, lg_cmp_gt, lg_cmp_lt, lg_cmp_eq, Int64.not_lt, Int64.not_le, Nat.not_lt, Nat.not_le] at c102
        refine ok_st rfl rfl ?_
        simp only [okS_some, xst, xp0, xp1, xp2, xp3, xp4, xp5, xload, xstore, xget_0, xget_s, xs_0, xs_1n, xs_1i, xs_1r, xs_1u, xs_1l, xs_s, xt_0, xt_1n, xt_1i, xt_1r, xt_1u, xt_1l, xt_s, xisref, xq0, Value.category, xcat, List.map_nil, List.map_cons, List.sum_nil, List.sum_cons, List.length_cons, List.length_nil, List.getElem?_cons_zero, List.getElem?_cons_succ, xmap_s, if_true, and_self, Nat.reduceAdd, Nat.reduceLT, Nat.reduceLeDiff, Nat.reduceEqDiff, Nat.lt_add_one, Nat.zero_le, Nat.le_refl, Nat.le_zero_eq, Nat.zero_lt_succ, xldc, kbm10, kbm9, kbm8, kbm7, kbm6, kbm5, kbm4, kbm3, kbm2, kb6, kb7, kb8, kb9, kb10, kb11, kb16, kb19, kb20, kb30, kb31, kb32, kb34, kb40, kb64, kb100, kb127, kim1, ki0, ki1, ki2, ki3, ki4, ki5, ks128, ks400, ks999, ks1000, ks4010]
        try simp (disch := omega) only [nx10, nx4, nx32, nxa0, nxa1, nxa2, nxa3, nxa4, nxa5, nxa6, nxa7, nxa8, nxa9, nxa10, nxs1, nxs10, nxss, nI_add, nI_clamp, mnar0, mnar1, Nat.add_sub_cancel]
        refine ok_st rfl rfl ?_
        simp only [okS_some, xst, xp0, xp1, xp2, xp3, xp4, xp5, xload, xstore, xget_0, xget_s, xs_0, xs_1n, xs_1i, xs_1r, xs_1u, xs_1l, xs_s, xt_0, xt_1n, xt_1i, xt_1r, xt_1u, xt_1l, xt_s, xisref, xq0, Value.category, xcat, List.map_nil, List.map_cons, List.sum_nil, List.sum_cons, List.length_cons, List.length_nil, List.getElem?_cons_zero, List.getElem?_cons_succ, xmap_s, if_true, and_self, Nat.reduceAdd, Nat.reduceLT, Nat.reduceLeDiff, Nat.reduceEqDiff, Nat.lt_add_one, Nat.zero_le, Nat.le_refl, Nat.le_zero_eq, Nat.zero_lt_succ, xldc, kbm10, kbm9, kbm8, kbm7, kbm6, kbm5, kbm4, kbm3, kbm2, kb6, kb7, kb8, kb9, kb10, kb11, kb16, kb19, kb20, kb30, kb31, kb32, kb34, kb40, kb64, kb100, kb127, kim1, ki0, ki1, ki2, ki3, ki4, ki5, ks128, ks400, ks999, ks1000, ks4010]
        refine ih (i := i + 1) hW hm (by omega) ?_ ?_ (by omega)
        · first
          | (rw [stF_f (decide_eq_false (fun z => by first | exact absurd z.1 (not_not_intro (by assumption)) | exact absurd z.2 (Int32.not_le.mpr (by assumption))))]; exact hx4)
          | (have hK : mkd S A i = 0 := by unfold mkd; rw [ex, nI_clamp (by omega)]; assumption
             rw [stF_t (decide_eq_true ⟨by assumption, by assumption⟩), hK]
             rcases stF_3 (P := mpt A x2) (kd := mkd S A) i with e | e | e
             · rw [e]; decide
             · rw [e]; decide
             · exact absurd e hne)
          | (have hK0 : ¬ mkd S A i = 0 := by unfold mkd; rw [ex, nI_clamp (by omega)]; assumption
             have hK2 : ¬ mkd S A i = 2 := by unfold mkd; rw [ex, nI_clamp (by omega)]; assumption
             rw [stF_t (decide_eq_true ⟨by assumption, by assumption⟩), show sby (mkd S A i) = 0 by unfold sby; rw [if_neg hK0, if_neg hK2], hx4]
             rcases stF_3 (P := mpt A x2) (kd := mkd S A) i with e | e | e <;> rw [e] <;> decide)
        · first
          | (rw [stF_f (decide_eq_false (fun z => by first | exact absurd z.1 (not_not_intro (by assumption)) | exact absurd z.2 (Int32.not_le.mpr (by assumption))))]; exact hne)
          | (have hK : ¬ mkd S A i = 2 := by unfold mkd; rw [ex, nI_clamp (by omega)]; assumption
             rw [stF_t (decide_eq_true ⟨by assumption, by assumption⟩)]
             have h2 : ¬ sby (mkd S A i) = 2 := by
               unfold sby
               split
               · decide
               · first | decide | (rw [if_neg hK]; decide)
             intro z
             by_cases hc : stF (mpt A x2) (mkd S A) i < sby (mkd S A i)
             · rw [if_pos hc] at z; exact h2 z
             · rw [if_neg hc] at z; exact hne z)
      · simp only [xcnd, decide_eq_true_eq, decide_eq_false_iff_not, Bool.not_eq_true', Bool.not_eq_false'] at c102
        try simp (disch := omega) only [Int32.not_lt, Int32.not_le, nI_ltI, nI_leI, nI_eq, nk0e, nk1e, nk4e, nk10e, nk400e, nk0l, nk1l, nk0g, nk1g, nk0n, nk0p, lg_cmp_ge, lg_cmp_le, lg_cmp_gt, lg_cmp_lt, lg_cmp_eq, Int64.not_lt, Int64.not_le, Nat.not_lt, Nat.not_le] at c102
        refine ok_st rfl rfl ?_
        simp only [okS_some, xst, xp0, xp1, xp2, xp3, xp4, xp5, xload, xstore, xget_0, xget_s, xs_0, xs_1n, xs_1i, xs_1r, xs_1u, xs_1l, xs_s, xt_0, xt_1n, xt_1i, xt_1r, xt_1u, xt_1l, xt_s, xisref, xq0, Value.category, xcat, List.map_nil, List.map_cons, List.sum_nil, List.sum_cons, List.length_cons, List.length_nil, List.getElem?_cons_zero, List.getElem?_cons_succ, xmap_s, if_true, and_self, Nat.reduceAdd, Nat.reduceLT, Nat.reduceLeDiff, Nat.reduceEqDiff, Nat.lt_add_one, Nat.zero_le, Nat.le_refl, Nat.le_zero_eq, Nat.zero_lt_succ, xldc, kbm10, kbm9, kbm8, kbm7, kbm6, kbm5, kbm4, kbm3, kbm2, kb6, kb7, kb8, kb9, kb10, kb11, kb16, kb19, kb20, kb30, kb31, kb32, kb34, kb40, kb64, kb100, kb127, kim1, ki0, ki1, ki2, ki3, ki4, ki5, ks128, ks400, ks999, ks1000, ks4010]
        refine ok_st rfl rfl ?_
        simp only [okS_some, xst, xp0, xp1, xp2, xp3, xp4, xp5, xload, xstore, xget_0, xget_s, xs_0, xs_1n, xs_1i, xs_1r, xs_1u, xs_1l, xs_s, xt_0, xt_1n, xt_1i, xt_1r, xt_1u, xt_1l, xt_s, xisref, xq0, Value.category, xcat, List.map_nil, List.map_cons, List.sum_nil, List.sum_cons, List.length_cons, List.length_nil, List.getElem?_cons_zero, List.getElem?_cons_succ, xmap_s, if_true, and_self, Nat.reduceAdd, Nat.reduceLT, Nat.reduceLeDiff, Nat.reduceEqDiff, Nat.lt_add_one, Nat.zero_le, Nat.le_refl, Nat.le_zero_eq, Nat.zero_lt_succ, xldc, kbm10, kbm9, kbm8, kbm7, kbm6, kbm5, kbm4, kbm3, kbm2, kb6, kb7, kb8, kb9, kb10, kb11, kb16, kb19, kb20, kb30, kb31, kb32, kb34, kb40, kb64, kb100, kb127, kim1, ki0, ki1, ki2, ki3, ki4, ki5, ks128, ks400, ks999, ks1000, ks4010, hm.1, mF]
        refine ok_st rfl rfl ?_
        simp only [okS_some, xst, xp0, xp1, xp2, xp3, xp4, xp5, xload, xstore, xget_0, xget_s, xs_0, xs_1n, xs_1i, xs_1r, xs_1u, xs_1l, xs_s, xt_0, xt_1n, xt_1i, xt_1r, xt_1u, xt_1l, xt_s, xisref, xq0, Value.category, xcat, List.map_nil, List.map_cons, List.sum_nil, List.sum_cons, List.length_cons, List.length_nil, List.getElem?_cons_zero, List.getElem?_cons_succ, xmap_s, if_true, and_self, Nat.reduceAdd, Nat.reduceLT, Nat.reduceLeDiff, Nat.reduceEqDiff, Nat.lt_add_one, Nat.zero_le, Nat.le_refl, Nat.le_zero_eq, Nat.zero_lt_succ, xldc, kbm10, kbm9, kbm8, kbm7, kbm6, kbm5, kbm4, kbm3, kbm2, kb6, kb7, kb8, kb9, kb10, kb11, kb16, kb19, kb20, kb30, kb31, kb32, kb34, kb40, kb64, kb100, kb127, kim1, ki0, ki1, ki2, ki3, ki4, ki5, ks128, ks400, ks999, ks1000, ks4010]
        refine m_il rfl hm (by decide) rfl (nIn (show _ < 400 by omega) (by decide)) ?_
        try dsimp only [Nat.reduceAdd]
        try simp (disch := omega) only [nx10, nx4, nx32, nxa0, nxa1, nxa2, nxa3, nxa4, nxa5, nxa6, nxa7, nxa8, nxa9, nxa10, nxs1, nxs10, nxss, nI_add, nI_clamp, mnar0, mnar1, Nat.add_sub_cancel]
        iterate 2 (refine ok_st rfl rfl ?_; simp only [okS_some, xst, xp0, xp1, xp2, xp3, xp4, xp5, xload, xstore, xget_0, xget_s, xs_0, xs_1n, xs_1i, xs_1r, xs_1u, xs_1l, xs_s, xt_0, xt_1n, xt_1i, xt_1r, xt_1u, xt_1l, xt_s, xisref, xq0, Value.category, xcat, List.map_nil, List.map_cons, List.sum_nil, List.sum_cons, List.length_cons, List.length_nil, List.getElem?_cons_zero, List.getElem?_cons_succ, xmap_s, if_true, and_self, Nat.reduceAdd, Nat.reduceLT, Nat.reduceLeDiff, Nat.reduceEqDiff, Nat.lt_add_one, Nat.zero_le, Nat.le_refl, Nat.le_zero_eq, Nat.zero_lt_succ, xldc, kbm10, kbm9, kbm8, kbm7, kbm6, kbm5, kbm4, kbm3, kbm2, kb6, kb7, kb8, kb9, kb10, kb11, kb16, kb19, kb20, kb30, kb31, kb32, kb34, kb40, kb64, kb100, kb127, kim1, ki0, ki1, ki2, ki3, ki4, ki5, ks128, ks400, ks999, ks1000, ks4010])
        refine ok_if (fun c103 => ?_) (fun c103 => ?_)
        · simp only [xcnd, decide_eq_true_eq, decide_eq_false_iff_not, Bool.not_eq_true', Bool.not_eq_false'] at c103
          try simp (disch := omega) only [Int32.not_lt, Int32.not_le, nI_ltI, nI_leI, nI_eq, nk0e, nk1e, nk4e, nk10e, nk400e, nk0l, nk1l, nk0g, nk1g, nk0n, nk0p, lg_cmp_ge, lg_cmp_le, lg_cmp_gt, lg_cmp_lt, lg_cmp_eq, Int64.not_lt, Int64.not_le, Nat.not_lt, Nat.not_le] at c103
          iterate 2 (refine ok_st rfl rfl ?_; simp only [okS_some, xst, xp0, xp1, xp2, xp3, xp4, xp5, xload, xstore, xget_0, xget_s, xs_0, xs_1n, xs_1i, xs_1r, xs_1u, xs_1l, xs_s, xt_0, xt_1n, xt_1i, xt_1r, xt_1u, xt_1l, xt_s, xisref, xq0, Value.category, xcat, List.map_nil, List.map_cons, List.sum_nil, List.sum_cons, List.length_cons, List.length_nil, List.getElem?_cons_zero, List.getElem?_cons_succ, xmap_s, if_true, and_self, Nat.reduceAdd, Nat.reduceLT, Nat.reduceLeDiff, Nat.reduceEqDiff, Nat.lt_add_one, Nat.zero_le, Nat.le_refl, Nat.le_zero_eq, Nat.zero_lt_succ, xldc, kbm10, kbm9, kbm8, kbm7, kbm6, kbm5, kbm4, kbm3, kbm2, kb6, kb7, kb8, kb9, kb10, kb11, kb16, kb19, kb20, kb30, kb31, kb32, kb34, kb40, kb64, kb100, kb127, kim1, ki0, ki1, ki2, ki3, ki4, ki5, ks128, ks400, ks999, ks1000, ks4010])
          refine ok_st rfl rfl ?_
          simp only [okS_some, xst, xp0, xp1, xp2, xp3, xp4, xp5, xload, xstore, xget_0, xget_s, xs_0, xs_1n, xs_1i, xs_1r, xs_1u, xs_1l, xs_s, xt_0, xt_1n, xt_1i, xt_1r, xt_1u, xt_1l, xt_s, xisref, xq0, Value.category, xcat, List.map_nil, List.map_cons, List.sum_nil, List.sum_cons, List.length_cons, List.length_nil, List.getElem?_cons_zero, List.getElem?_cons_succ, xmap_s, if_true, and_self, Nat.reduceAdd, Nat.reduceLT, Nat.reduceLeDiff, Nat.reduceEqDiff, Nat.lt_add_one, Nat.zero_le, Nat.le_refl, Nat.le_zero_eq, Nat.zero_lt_succ, xldc, kbm10, kbm9, kbm8, kbm7, kbm6, kbm5, kbm4, kbm3, kbm2, kb6, kb7, kb8, kb9, kb10, kb11, kb16, kb19, kb20, kb30, kb31, kb32, kb34, kb40, kb64, kb100, kb127, kim1, ki0, ki1, ki2, ki3, ki4, ki5, ks128, ks400, ks999, ks1000, ks4010, hm.1, mF]
          refine ok_st rfl rfl ?_
          simp only [okS_some, xst, xp0, xp1, xp2, xp3, xp4, xp5, xload, xstore, xget_0, xget_s, xs_0, xs_1n, xs_1i, xs_1r, xs_1u, xs_1l, xs_s, xt_0, xt_1n, xt_1i, xt_1r, xt_1u, xt_1l, xt_s, xisref, xq0, Value.category, xcat, List.map_nil, List.map_cons, List.sum_nil, List.sum_cons, List.length_cons, List.length_nil, List.getElem?_cons_zero, List.getElem?_cons_succ, xmap_s, if_true, and_self, Nat.reduceAdd, Nat.reduceLT, Nat.reduceLeDiff, Nat.reduceEqDiff, Nat.lt_add_one, Nat.zero_le, Nat.le_refl, Nat.le_zero_eq, Nat.zero_lt_succ, xldc, kbm10, kbm9, kbm8, kbm7, kbm6, kbm5, kbm4, kbm3, kbm2, kb6, kb7, kb8, kb9, kb10, kb11, kb16, kb19, kb20, kb30, kb31, kb32, kb34, kb40, kb64, kb100, kb127, kim1, ki0, ki1, ki2, ki3, ki4, ki5, ks128, ks400, ks999, ks1000, ks4010]
          refine m_il rfl hm (by decide) rfl (nIn (show _ < 400 by omega) (by decide)) ?_
          try dsimp only [Nat.reduceAdd]
          try simp (disch := omega) only [nx10, nx4, nx32, nxa0, nxa1, nxa2, nxa3, nxa4, nxa5, nxa6, nxa7, nxa8, nxa9, nxa10, nxs1, nxs10, nxss, nI_add, nI_clamp, mnar0, mnar1, Nat.add_sub_cancel]
          obtain ⟨x, hx, ex⟩ := hl i (by omega)
          rw [ex]
          refine ok_st rfl rfl ?_
          simp only [okS_some, xst, xp0, xp1, xp2, xp3, xp4, xp5, xload, xstore, xget_0, xget_s, xs_0, xs_1n, xs_1i, xs_1r, xs_1u, xs_1l, xs_s, xt_0, xt_1n, xt_1i, xt_1r, xt_1u, xt_1l, xt_s, xisref, xq0, Value.category, xcat, List.map_nil, List.map_cons, List.sum_nil, List.sum_cons, List.length_cons, List.length_nil, List.getElem?_cons_zero, List.getElem?_cons_succ, xmap_s, if_true, and_self, Nat.reduceAdd, Nat.reduceLT, Nat.reduceLeDiff, Nat.reduceEqDiff, Nat.lt_add_one, Nat.zero_le, Nat.le_refl, Nat.le_zero_eq, Nat.zero_lt_succ, xldc, kbm10, kbm9, kbm8, kbm7, kbm6, kbm5, kbm4, kbm3, kbm2, kb6, kb7, kb8, kb9, kb10, kb11, kb16, kb19, kb20, kb30, kb31, kb32, kb34, kb40, kb64, kb100, kb127, kim1, ki0, ki1, ki2, ki3, ki4, ki5, ks128, ks400, ks999, ks1000, ks4010]
          refine ok_cm (vs := [_, _, _]) rfl rfl rfl rfl (Nat.le_of_ble_eq_true rfl) (Nat.le_of_ble_eq_true rfl) (by show xcl0 2 9 _ _ = true; simp [xcl0, hm.1]) (by decide) hW (sp89 hW hm (k := 2) (by omega) (by decide)) ?_
          rintro _ h104 rfl k105 al106
          have s108 := al106 rfl
          have hW := k105.1
          have hm := hm.kp k105 rfl
          dsimp only [Option.toList, List.cons_append, List.nil_append, Nat.reduceAdd]
          iterate 2 (refine ok_st rfl rfl ?_; simp only [okS_some, xst, xp0, xp1, xp2, xp3, xp4, xp5, xload, xstore, xget_0, xget_s, xs_0, xs_1n, xs_1i, xs_1r, xs_1u, xs_1l, xs_s, xt_0, xt_1n, xt_1i, xt_1r, xt_1u, xt_1l, xt_s, xisref, xq0, Value.category, xcat, List.map_nil, List.map_cons, List.sum_nil, List.sum_cons, List.length_cons, List.length_nil, List.getElem?_cons_zero, List.getElem?_cons_succ, xmap_s, if_true, and_self, Nat.reduceAdd, Nat.reduceLT, Nat.reduceLeDiff, Nat.reduceEqDiff, Nat.lt_add_one, Nat.zero_le, Nat.le_refl, Nat.le_zero_eq, Nat.zero_lt_succ, xldc, kbm10, kbm9, kbm8, kbm7, kbm6, kbm5, kbm4, kbm3, kbm2, kb6, kb7, kb8, kb9, kb10, kb11, kb16, kb19, kb20, kb30, kb31, kb32, kb34, kb40, kb64, kb100, kb127, kim1, ki0, ki1, ki2, ki3, ki4, ki5, ks128, ks400, ks999, ks1000, ks4010])
          refine ok_if (fun c109 => ?_) (fun c109 => ?_)
          · simp only [xcnd, decide_eq_true_eq, decide_eq_false_iff_not, Bool.not_eq_true', Bool.not_eq_false'] at c109
            try simp (disch := omega) only [Int32.not_lt, Int32.not_le, nI_ltI, nI_leI, nI_eq, nk0e, nk1e, nk4e, nk10e, nk400e, nk0l, nk1l, nk0g, nk1g, nk0n, nk0p, lg_cmp_ge, lg_cmp_le, lg_cmp_gt, lg_cmp_lt, lg_cmp_eq, Int64.not_lt, Int64.not_le, Nat.not_lt, Nat.not_le] at c109
            iterate 2 (refine ok_st rfl rfl ?_; simp only [okS_some, xst, xp0, xp1, xp2, xp3, xp4, xp5, xload, xstore, xget_0, xget_s, xs_0, xs_1n, xs_1i, xs_1r, xs_1u, xs_1l, xs_s, xt_0, xt_1n, xt_1i, xt_1r, xt_1u, xt_1l, xt_s, xisref, xq0, Value.category, xcat, List.map_nil, List.map_cons, List.sum_nil, List.sum_cons, List.length_cons, List.length_nil, List.getElem?_cons_zero, List.getElem?_cons_succ, xmap_s, if_true, and_self, Nat.reduceAdd, Nat.reduceLT, Nat.reduceLeDiff, Nat.reduceEqDiff, Nat.lt_add_one, Nat.zero_le, Nat.le_refl, Nat.le_zero_eq, Nat.zero_lt_succ, xldc, kbm10, kbm9, kbm8, kbm7, kbm6, kbm5, kbm4, kbm3, kbm2, kb6, kb7, kb8, kb9, kb10, kb11, kb16, kb19, kb20, kb30, kb31, kb32, kb34, kb40, kb64, kb100, kb127, kim1, ki0, ki1, ki2, ki3, ki4, ki5, ks128, ks400, ks999, ks1000, ks4010])
            refine ok_st rfl rfl ?_
            simp only [okS_some, xst, xp0, xp1, xp2, xp3, xp4, xp5, xload, xstore, xget_0, xget_s, xs_0, xs_1n, xs_1i, xs_1r, xs_1u, xs_1l, xs_s, xt_0, xt_1n, xt_1i, xt_1r, xt_1u, xt_1l, xt_s, xisref, xq0, Value.category, xcat, List.map_nil, List.map_cons, List.sum_nil, List.sum_cons, List.length_cons, List.length_nil, List.getElem?_cons_zero, List.getElem?_cons_succ, xmap_s, if_true, and_self, Nat.reduceAdd, Nat.reduceLT, Nat.reduceLeDiff, Nat.reduceEqDiff, Nat.lt_add_one, Nat.zero_le, Nat.le_refl, Nat.le_zero_eq, Nat.zero_lt_succ, xldc, kbm10, kbm9, kbm8, kbm7, kbm6, kbm5, kbm4, kbm3, kbm2, kb6, kb7, kb8, kb9, kb10, kb11, kb16, kb19, kb20, kb30, kb31, kb32, kb34, kb40, kb64, kb100, kb127, kim1, ki0, ki1, ki2, ki3, ki4, ki5, ks128, ks400, ks999, ks1000, ks4010, hm.1, mF]
            refine ok_st rfl rfl ?_
            simp only [okS_some, xst, xp0, xp1, xp2, xp3, xp4, xp5, xload, xstore, xget_0, xget_s, xs_0, xs_1n, xs_1i, xs_1r, xs_1u, xs_1l, xs_s, xt_0, xt_1n, xt_1i, xt_1r, xt_1u, xt_1l, xt_s, xisref, xq0, Value.category, xcat, List.map_nil, List.map_cons, List.sum_nil, List.sum_cons, List.length_cons, List.length_nil, List.getElem?_cons_zero, List.getElem?_cons_succ, xmap_s, if_true, and_self, Nat.reduceAdd, Nat.reduceLT, Nat.reduceLeDiff, Nat.reduceEqDiff, Nat.lt_add_one, Nat.zero_le, Nat.le_refl, Nat.le_zero_eq, Nat.zero_lt_succ, xldc, kbm10, kbm9, kbm8, kbm7, kbm6, kbm5, kbm4, kbm3, kbm2, kb6, kb7, kb8, kb9, kb10, kb11, kb16, kb19, kb20, kb30, kb31, kb32, kb34, kb40, kb64, kb100, kb127, kim1, ki0, ki1, ki2, ki3, ki4, ki5, ks128, ks400, ks999, ks1000, ks4010]
            refine m_il rfl hm (by decide) rfl (nIn (show _ < 400 by omega) (by decide)) ?_
            try dsimp only [Nat.reduceAdd]
            try simp (disch := omega) only [nx10, nx4, nx32, nxa0, nxa1, nxa2, nxa3, nxa4, nxa5, nxa6, nxa7, nxa8, nxa9, nxa10, nxs1, nxs10, nxss, nI_add, nI_clamp, mnar0, mnar1, Nat.add_sub_cancel]
            rw [ex]
            refine ok_st rfl rfl ?_
            simp only [okS_some, xst, xp0, xp1, xp2, xp3, xp4, xp5, xload, xstore, xget_0, xget_s, xs_0, xs_1n, xs_1i, xs_1r, xs_1u, xs_1l, xs_s, xt_0, xt_1n, xt_1i, xt_1r, xt_1u, xt_1l, xt_s, xisref, xq0, Value.category, xcat, List.map_nil, List.map_cons, List.sum_nil, List.sum_cons, List.length_cons, List.length_nil, List.getElem?_cons_zero, List.getElem?_cons_succ, xmap_s, if_true, and_self, Nat.reduceAdd, Nat.reduceLT, Nat.reduceLeDiff, Nat.reduceEqDiff, Nat.lt_add_one, Nat.zero_le, Nat.le_refl, Nat.le_zero_eq, Nat.zero_lt_succ, xldc, kbm10, kbm9, kbm8, kbm7, kbm6, kbm5, kbm4, kbm3, kbm2, kb6, kb7, kb8, kb9, kb10, kb11, kb16, kb19, kb20, kb30, kb31, kb32, kb34, kb40, kb64, kb100, kb127, kim1, ki0, ki1, ki2, ki3, ki4, ki5, ks128, ks400, ks999, ks1000, ks4010]
            refine ok_cm (vs := [_, _, _]) rfl rfl rfl rfl (Nat.le_of_ble_eq_true rfl) (Nat.le_of_ble_eq_true rfl) (by show xcl0 2 9 _ _ = true; simp [xcl0, hm.1]) (by decide) hW (sp89 hW hm (k := 2) (by omega) (by decide)) ?_
            rintro _ h110 rfl k111 al112
            have s114 := al112 rfl
            have hW := k111.1
            have hm := hm.kp k111 rfl
            dsimp only [Option.toList, List.cons_append, List.nil_append, Nat.reduceAdd]
            refine ok_st rfl rfl ?_
            simp only [okS_some, xst, xp0, xp1, xp2, xp3, xp4, xp5, xload, xstore, xget_0, xget_s, xs_0, xs_1n, xs_1i, xs_1r, xs_1u, xs_1l, xs_s, xt_0, xt_1n, xt_1i, xt_1r, xt_1u, xt_1l, xt_s, xisref, xq0, Value.category, xcat, List.map_nil, List.map_cons, List.sum_nil, List.sum_cons, List.length_cons, List.length_nil, List.getElem?_cons_zero, List.getElem?_cons_succ, xmap_s, if_true, and_self, Nat.reduceAdd, Nat.reduceLT, Nat.reduceLeDiff, Nat.reduceEqDiff, Nat.lt_add_one, Nat.zero_le, Nat.le_refl, Nat.le_zero_eq, Nat.zero_lt_succ, xldc, kbm10, kbm9, kbm8, kbm7, kbm6, kbm5, kbm4, kbm3, kbm2, kb6, kb7, kb8, kb9, kb10, kb11, kb16, kb19, kb20, kb30, kb31, kb32, kb34, kb40, kb64, kb100, kb127, kim1, ki0, ki1, ki2, ki3, ki4, ki5, ks128, ks400, ks999, ks1000, ks4010]
            refine ok_if (fun c115 => ?_) (fun c115 => ?_)
            · simp only [xcnd, decide_eq_true_eq, decide_eq_false_iff_not, Bool.not_eq_true', Bool.not_eq_false'] at c115
              try simp (disch := omega) only [Int32.not_lt, Int32.not_le, nI_ltI, nI_leI, nI_eq, nk0e, nk1e, nk4e, nk10e, nk400e, nk0l, nk1l, nk0g, nk1g, nk0n, nk0p, lg_cmp_ge, lg_cmp_le, lg_cmp_gt, lg_cmp_lt, lg_cmp_eq, Int64.not_lt, Int64.not_le, Nat.not_lt, Nat.not_le] at c115
              refine ok_st rfl rfl ?_
              simp only [okS_some, xst, xp0, xp1, xp2, xp3, xp4, xp5, xload, xstore, xget_0, xget_s, xs_0, xs_1n, xs_1i, xs_1r, xs_1u, xs_1l, xs_s, xt_0, xt_1n, xt_1i, xt_1r, xt_1u, xt_1l, xt_s, xisref, xq0, Value.category, xcat, List.map_nil, List.map_cons, List.sum_nil, List.sum_cons, List.length_cons, List.length_nil, List.getElem?_cons_zero, List.getElem?_cons_succ, xmap_s, if_true, and_self, Nat.reduceAdd, Nat.reduceLT, Nat.reduceLeDiff, Nat.reduceEqDiff, Nat.lt_add_one, Nat.zero_le, Nat.le_refl, Nat.le_zero_eq, Nat.zero_lt_succ, xldc, kbm10, kbm9, kbm8, kbm7, kbm6, kbm5, kbm4, kbm3, kbm2, kb6, kb7, kb8, kb9, kb10, kb11, kb16, kb19, kb20, kb30, kb31, kb32, kb34, kb40, kb64, kb100, kb127, kim1, ki0, ki1, ki2, ki3, ki4, ki5, ks128, ks400, ks999, ks1000, ks4010]
              try simp (disch := omega) only [nx10, nx4, nx32, nxa0, nxa1, nxa2, nxa3, nxa4, nxa5, nxa6, nxa7, nxa8, nxa9, nxa10, nxs1, nxs10, nxss, nI_add, nI_clamp, mnar0, mnar1, Nat.add_sub_cancel]
              refine ok_st rfl rfl ?_
              simp only [okS_some, xst, xp0, xp1, xp2, xp3, xp4, xp5, xload, xstore, xget_0, xget_s, xs_0, xs_1n, xs_1i, xs_1r, xs_1u, xs_1l, xs_s, xt_0, xt_1n, xt_1i, xt_1r, xt_1u, xt_1l, xt_s, xisref, xq0, Value.category, xcat, List.map_nil, List.map_cons, List.sum_nil, List.sum_cons, List.length_cons, List.length_nil, List.getElem?_cons_zero, List.getElem?_cons_succ, xmap_s, if_true, and_self, Nat.reduceAdd, Nat.reduceLT, Nat.reduceLeDiff, Nat.reduceEqDiff, Nat.lt_add_one, Nat.zero_le, Nat.le_refl, Nat.le_zero_eq, Nat.zero_lt_succ, xldc, kbm10, kbm9, kbm8, kbm7, kbm6, kbm5, kbm4, kbm3, kbm2, kb6, kb7, kb8, kb9, kb10, kb11, kb16, kb19, kb20, kb30, kb31, kb32, kb34, kb40, kb64, kb100, kb127, kim1, ki0, ki1, ki2, ki3, ki4, ki5, ks128, ks400, ks999, ks1000, ks4010]
              refine ih (i := i + 1) hW hm (by omega) ?_ ?_ (by omega)
              · first
                | (rw [stF_f (decide_eq_false (fun z => by first | exact absurd z.1 (not_not_intro (by assumption)) | exact absurd z.2 (Int32.not_le.mpr (by assumption))))]; exact hx4)
                | (have hK : mkd S A i = 0 := by unfold mkd; rw [ex, nI_clamp (by omega)]; assumption
                   rw [stF_t (decide_eq_true ⟨by assumption, by assumption⟩), hK]
                   rcases stF_3 (P := mpt A x2) (kd := mkd S A) i with e | e | e
                   · rw [e]; decide
                   · rw [e]; decide
                   · exact absurd e hne)
                | (have hK0 : ¬ mkd S A i = 0 := by unfold mkd; rw [ex, nI_clamp (by omega)]; assumption
                   have hK2 : ¬ mkd S A i = 2 := by unfold mkd; rw [ex, nI_clamp (by omega)]; assumption
                   rw [stF_t (decide_eq_true ⟨by assumption, by assumption⟩), show sby (mkd S A i) = 0 by unfold sby; rw [if_neg hK0, if_neg hK2], hx4]
                   rcases stF_3 (P := mpt A x2) (kd := mkd S A) i with e | e | e <;> rw [e] <;> decide)
              · first
                | (rw [stF_f (decide_eq_false (fun z => by first | exact absurd z.1 (not_not_intro (by assumption)) | exact absurd z.2 (Int32.not_le.mpr (by assumption))))]; exact hne)
                | (have hK : ¬ mkd S A i = 2 := by unfold mkd; rw [ex, nI_clamp (by omega)]; assumption
                   rw [stF_t (decide_eq_true ⟨by assumption, by assumption⟩)]
                   have h2 : ¬ sby (mkd S A i) = 2 := by
                     unfold sby
                     split
                     · decide
                     · first | decide | (rw [if_neg hK]; decide)
                   intro z
                   by_cases hc : stF (mpt A x2) (mkd S A) i < sby (mkd S A i)
                   · rw [if_pos hc] at z; exact h2 z
                   · rw [if_neg hc] at z; exact hne z)
            · simp only [xcnd, decide_eq_true_eq, decide_eq_false_iff_not, Bool.not_eq_true', Bool.not_eq_false'] at c115
              try simp (disch := omega) only [Int32.not_lt, Int32.not_le, nI_ltI, nI_leI, nI_eq, nk0e, nk1e, nk4e, nk10e, nk400e, nk0l, nk1l, nk0g, nk1g, nk0n, nk0p, lg_cmp_ge, lg_cmp_le, lg_cmp_gt, lg_cmp_lt, lg_cmp_eq, Int64.not_lt, Int64.not_le, Nat.not_lt, Nat.not_le] at c115
              iterate 3 (refine ok_st rfl rfl ?_; simp only [okS_some, xst, xp0, xp1, xp2, xp3, xp4, xp5, xload, xstore, xget_0, xget_s, xs_0, xs_1n, xs_1i, xs_1r, xs_1u, xs_1l, xs_s, xt_0, xt_1n, xt_1i, xt_1r, xt_1u, xt_1l, xt_s, xisref, xq0, Value.category, xcat, List.map_nil, List.map_cons, List.sum_nil, List.sum_cons, List.length_cons, List.length_nil, List.getElem?_cons_zero, List.getElem?_cons_succ, xmap_s, if_true, and_self, Nat.reduceAdd, Nat.reduceLT, Nat.reduceLeDiff, Nat.reduceEqDiff, Nat.lt_add_one, Nat.zero_le, Nat.le_refl, Nat.le_zero_eq, Nat.zero_lt_succ, xldc, kbm10, kbm9, kbm8, kbm7, kbm6, kbm5, kbm4, kbm3, kbm2, kb6, kb7, kb8, kb9, kb10, kb11, kb16, kb19, kb20, kb30, kb31, kb32, kb34, kb40, kb64, kb100, kb127, kim1, ki0, ki1, ki2, ki3, ki4, ki5, ks128, ks400, ks999, ks1000, ks4010])
              try simp (disch := omega) only [nx10, nx4, nx32, nxa0, nxa1, nxa2, nxa3, nxa4, nxa5, nxa6, nxa7, nxa8, nxa9, nxa10, nxs1, nxs10, nxss, nI_add, nI_clamp, mnar0, mnar1, Nat.add_sub_cancel]
              refine ok_st rfl rfl ?_
              simp only [okS_some, xst, xp0, xp1, xp2, xp3, xp4, xp5, xload, xstore, xget_0, xget_s, xs_0, xs_1n, xs_1i, xs_1r, xs_1u, xs_1l, xs_s, xt_0, xt_1n, xt_1i, xt_1r, xt_1u, xt_1l, xt_s, xisref, xq0, Value.category, xcat, List.map_nil, List.map_cons, List.sum_nil, List.sum_cons, List.length_cons, List.length_nil, List.getElem?_cons_zero, List.getElem?_cons_succ, xmap_s, if_true, and_self, Nat.reduceAdd, Nat.reduceLT, Nat.reduceLeDiff, Nat.reduceEqDiff, Nat.lt_add_one, Nat.zero_le, Nat.le_refl, Nat.le_zero_eq, Nat.zero_lt_succ, xldc, kbm10, kbm9, kbm8, kbm7, kbm6, kbm5, kbm4, kbm3, kbm2, kb6, kb7, kb8, kb9, kb10, kb11, kb16, kb19, kb20, kb30, kb31, kb32, kb34, kb40, kb64, kb100, kb127, kim1, ki0, ki1, ki2, ki3, ki4, ki5, ks128, ks400, ks999, ks1000, ks4010]
              refine ih (i := i + 1) hW hm (by omega) ?_ ?_ (by omega)
              · first
                | (rw [stF_f (decide_eq_false (fun z => by first | exact absurd z.1 (not_not_intro (by assumption)) | exact absurd z.2 (Int32.not_le.mpr (by assumption))))]; exact hx4)
                | (have hK : mkd S A i = 0 := by unfold mkd; rw [ex, nI_clamp (by omega)]; assumption
                   rw [stF_t (decide_eq_true ⟨by assumption, by assumption⟩), hK]
                   rcases stF_3 (P := mpt A x2) (kd := mkd S A) i with e | e | e
                   · rw [e]; decide
                   · rw [e]; decide
                   · exact absurd e hne)
                | (have hK0 : ¬ mkd S A i = 0 := by unfold mkd; rw [ex, nI_clamp (by omega)]; assumption
                   have hK2 : ¬ mkd S A i = 2 := by unfold mkd; rw [ex, nI_clamp (by omega)]; assumption
                   rw [stF_t (decide_eq_true ⟨by assumption, by assumption⟩), show sby (mkd S A i) = 0 by unfold sby; rw [if_neg hK0, if_neg hK2], hx4]
                   rcases stF_3 (P := mpt A x2) (kd := mkd S A) i with e | e | e <;> rw [e] <;> decide)
              · first
                | (rw [stF_f (decide_eq_false (fun z => by first | exact absurd z.1 (not_not_intro (by assumption)) | exact absurd z.2 (Int32.not_le.mpr (by assumption))))]; exact hne)
                | (have hK : ¬ mkd S A i = 2 := by unfold mkd; rw [ex, nI_clamp (by omega)]; assumption
                   rw [stF_t (decide_eq_true ⟨by assumption, by assumption⟩)]
                   have h2 : ¬ sby (mkd S A i) = 2 := by
                     unfold sby
                     split
                     · decide
                     · first | decide | (rw [if_neg hK]; decide)
                   intro z
                   by_cases hc : stF (mpt A x2) (mkd S A) i < sby (mkd S A i)
                   · rw [if_pos hc] at z; exact h2 z
                   · rw [if_neg hc] at z; exact hne z)
          · simp only [xcnd, decide_eq_true_eq, decide_eq_false_iff_not, Bool.not_eq_true', Bool.not_eq_false'] at c109
            try simp (disch := omega) only [Int32.not_lt, Int32.not_le, nI_ltI, nI_leI, nI_eq, nk0e, nk1e, nk4e, nk10e, nk400e, nk0l, nk1l, nk0g, nk1g, nk0n, nk0p, lg_cmp_ge, lg_cmp_le, lg_cmp_gt, lg_cmp_lt, lg_cmp_eq, Int64.not_lt, Int64.not_le, Nat.not_lt, Nat.not_le] at c109
            refine ok_st rfl rfl ?_
            simp only [okS_some, xst, xp0, xp1, xp2, xp3, xp4, xp5, xload, xstore, xget_0, xget_s, xs_0, xs_1n, xs_1i, xs_1r, xs_1u, xs_1l, xs_s, xt_0, xt_1n, xt_1i, xt_1r, xt_1u, xt_1l, xt_s, xisref, xq0, Value.category, xcat, List.map_nil, List.map_cons, List.sum_nil, List.sum_cons, List.length_cons, List.length_nil, List.getElem?_cons_zero, List.getElem?_cons_succ, xmap_s, if_true, and_self, Nat.reduceAdd, Nat.reduceLT, Nat.reduceLeDiff, Nat.reduceEqDiff, Nat.lt_add_one, Nat.zero_le, Nat.le_refl, Nat.le_zero_eq, Nat.zero_lt_succ, xldc, kbm10, kbm9, kbm8, kbm7, kbm6, kbm5, kbm4, kbm3, kbm2, kb6, kb7, kb8, kb9, kb10, kb11, kb16, kb19, kb20, kb30, kb31, kb32, kb34, kb40, kb64, kb100, kb127, kim1, ki0, ki1, ki2, ki3, ki4, ki5, ks128, ks400, ks999, ks1000, ks4010]
            refine ok_r1 rfl rfl rfl rfl ?_
            rw [stF_2 (P := mpt A x2) (kd := mkd S A) (i := i) (decide_eq_true ⟨by assumption, by assumption⟩) (by unfold mkd; rw [ex, nI_clamp (by omega)]; assumption) l (by omega)]
        · simp only [xcnd, decide_eq_true_eq, decide_eq_false_iff_not, Bool.not_eq_true', Bool.not_eq_false'] at c103
          try simp (disch := omega) only [Int32.not_lt, Int32.not_le, nI_ltI, nI_leI, nI_eq, nk0e, nk1e, nk4e, nk10e, nk400e, nk0l, nk1l, nk0g, nk1g, nk0n, nk0p, lg_cmp_ge, lg_cmp_le, lg_cmp_gt, lg_cmp_lt, lg_cmp_eq, Int64.not_lt, Int64.not_le, Nat.not_lt, Nat.not_le] at c103
          iterate 2 (refine ok_st rfl rfl ?_; simp only [okS_some, xst, xp0, xp1, xp2, xp3, xp4, xp5, xload, xstore, xget_0, xget_s, xs_0, xs_1n, xs_1i, xs_1r, xs_1u, xs_1l, xs_s, xt_0, xt_1n, xt_1i, xt_1r, xt_1u, xt_1l, xt_s, xisref, xq0, Value.category, xcat, List.map_nil, List.map_cons, List.sum_nil, List.sum_cons, List.length_cons, List.length_nil, List.getElem?_cons_zero, List.getElem?_cons_succ, xmap_s, if_true, and_self, Nat.reduceAdd, Nat.reduceLT, Nat.reduceLeDiff, Nat.reduceEqDiff, Nat.lt_add_one, Nat.zero_le, Nat.le_refl, Nat.le_zero_eq, Nat.zero_lt_succ, xldc, kbm10, kbm9, kbm8, kbm7, kbm6, kbm5, kbm4, kbm3, kbm2, kb6, kb7, kb8, kb9, kb10, kb11, kb16, kb19, kb20, kb30, kb31, kb32, kb34, kb40, kb64, kb100, kb127, kim1, ki0, ki1, ki2, ki3, ki4, ki5, ks128, ks400, ks999, ks1000, ks4010])
          try simp (disch := omega) only [nx10, nx4, nx32, nxa0, nxa1, nxa2, nxa3, nxa4, nxa5, nxa6, nxa7, nxa8, nxa9, nxa10, nxs1, nxs10, nxss, nI_add, nI_clamp, mnar0, mnar1, Nat.add_sub_cancel]
          refine ok_st rfl rfl ?_
          simp only [okS_some, xst, xp0, xp1, xp2, xp3, xp4, xp5, xload, xstore, xget_0, xget_s, xs_0, xs_1n, xs_1i, xs_1r, xs_1u, xs_1l, xs_s, xt_0, xt_1n, xt_1i, xt_1r, xt_1u, xt_1l, xt_s, xisref, xq0, Value.category, xcat, List.map_nil, List.map_cons, List.sum_nil, List.sum_cons, List.length_cons, List.length_nil, List.getElem?_cons_zero, List.getElem?_cons_succ, xmap_s, if_true, and_self, Nat.reduceAdd, Nat.reduceLT, Nat.reduceLeDiff, Nat.reduceEqDiff, Nat.lt_add_one, Nat.zero_le, Nat.le_refl, Nat.le_zero_eq, Nat.zero_lt_succ, xldc, kbm10, kbm9, kbm8, kbm7, kbm6, kbm5, kbm4, kbm3, kbm2, kb6, kb7, kb8, kb9, kb10, kb11, kb16, kb19, kb20, kb30, kb31, kb32, kb34, kb40, kb64, kb100, kb127, kim1, ki0, ki1, ki2, ki3, ki4, ki5, ks128, ks400, ks999, ks1000, ks4010]
          refine ih (i := i + 1) hW hm (by omega) ?_ ?_ (by omega)
          · first
            | (rw [stF_f (decide_eq_false (fun z => by first | exact absurd z.1 (not_not_intro (by assumption)) | exact absurd z.2 (Int32.not_le.mpr (by assumption))))]; exact hx4)
            | (have hK : mkd S A i = 0 := by unfold mkd; rw [ex, nI_clamp (by omega)]; assumption
               rw [stF_t (decide_eq_true ⟨by assumption, by assumption⟩), hK]
               rcases stF_3 (P := mpt A x2) (kd := mkd S A) i with e | e | e
               · rw [e]; decide
               · rw [e]; decide
               · exact absurd e hne)
            | (have hK0 : ¬ mkd S A i = 0 := by unfold mkd; rw [ex, nI_clamp (by omega)]; assumption
               have hK2 : ¬ mkd S A i = 2 := by unfold mkd; rw [ex, nI_clamp (by omega)]; assumption
               rw [stF_t (decide_eq_true ⟨by assumption, by assumption⟩), show sby (mkd S A i) = 0 by unfold sby; rw [if_neg hK0, if_neg hK2], hx4]
               rcases stF_3 (P := mpt A x2) (kd := mkd S A) i with e | e | e <;> rw [e] <;> decide)
          · first
            | (rw [stF_f (decide_eq_false (fun z => by first | exact absurd z.1 (not_not_intro (by assumption)) | exact absurd z.2 (Int32.not_le.mpr (by assumption))))]; exact hne)
            | (have hK : ¬ mkd S A i = 2 := by unfold mkd; rw [ex, nI_clamp (by omega)]; assumption
               rw [stF_t (decide_eq_true ⟨by assumption, by assumption⟩)]
               have h2 : ¬ sby (mkd S A i) = 2 := by
                 unfold sby
                 split
                 · decide
                 · first | decide | (rw [if_neg hK]; decide)
               intro z
               by_cases hc : stF (mpt A x2) (mkd S A) i < sby (mkd S A i)
               · rw [if_pos hc] at z; exact h2 z
               · rw [if_neg hc] at z; exact hne z)
set_option maxRecDepth 20000 in
set_option maxHeartbeats 4000000 in
/-- ToldHouseModel.state(III)I -/
theorem me107 {X : Nat × (Nat → Int32)} {S : Nat → Int32} {A : Nat → Nat → Int32} {B : Nat → Nat → Int64} {h : xH} {x1 : Int32} {x2 : Int32} {x3 : Int32}{M V D : Nat} (hW : xWF h) (hm : mC S A B h) (hj : mJ S A M V D) : okM X 107 [.ref 57, .int x1, .int x2, .int x3] h (fun v h' => (v = some (.int (-1)) ∧ ¬ ((0 ≤ x1 ∧ x1 ≤ 19) ∧ (0 ≤ x2 ∧ x2 ≤ 999) ∧ (0 ≤ x3 ∧ x3 ≤ 999))) ∨ (((0 ≤ x1 ∧ x1 ≤ 19) ∧ (0 ≤ x2 ∧ x2 ≤ 999) ∧ (0 ≤ x3 ∧ x3 ≤ 999)) ∧ ∃ A' B', mG S A B x1 x3 M A' B' ∧ v = some (.int (stF (mpt A' x2) (mkd (mP S 13 (nI (mcn (mpg S A x1 x3) M))) A') (mcn (mpg S A x1 x3) M))))) := by
  have hS1 := hj.1.1
  have hM := hj.1.2.1
  have hS15 := hj.1.2.2.2.2.1.1
  have hV := hj.1.2.2.2.2.1.2.1
  have hS20 := hj.1.2.2.2.2.2.1
  have hD := hj.1.2.2.2.2.2.2.1
  show ok X cd107 (0, [some (.ref 57), some (.int x1), some (.int x2), some (.int x3), none, none], []) h _
  iterate 3 (refine ok_st rfl rfl ?_; simp only [okS_some, xst, xp0, xp1, xp2, xp3, xp4, xp5, xload, xstore, xget_0, xget_s, xs_0, xs_1n, xs_1i, xs_1r, xs_1u, xs_1l, xs_s, xt_0, xt_1n, xt_1i, xt_1r, xt_1u, xt_1l, xt_s, xisref, xq0, Value.category, xcat, List.map_nil, List.map_cons, List.sum_nil, List.sum_cons, List.length_cons, List.length_nil, List.getElem?_cons_zero, List.getElem?_cons_succ, xmap_s, if_true, and_self, Nat.reduceAdd, Nat.reduceLT, Nat.reduceLeDiff, Nat.reduceEqDiff, Nat.lt_add_one, Nat.zero_le, Nat.le_refl, Nat.le_zero_eq, Nat.zero_lt_succ, xldc, kbm10, kbm9, kbm8, kbm7, kbm6, kbm5, kbm4, kbm3, kbm2, kb6, kb7, kb8, kb9, kb10, kb11, kb16, kb19, kb20, kb30, kb31, kb32, kb34, kb40, kb64, kb100, kb127, kim1, ki0, ki1, ki2, ki3, ki4, ki5, ks128, ks400, ks999, ks1000, ks4010])
  refine ok_cm (vs := [_, _, _]) rfl rfl rfl rfl (Nat.le_of_ble_eq_true rfl) (Nat.le_of_ble_eq_true rfl) rfl (by decide) hW (me105 hW hm) ?_
  rintro _ h1 (⟨rfl, ha⟩ | ⟨rfl, hna⟩) k2 al3
  · dsimp only [Option.toList, List.cons_append, List.nil_append, Nat.reduceAdd]
    have s5 := al3 rfl
    have hW := k2.1
    have hm := hm.kp k2 rfl
    refine ok_st rfl rfl ?_
    simp only [okS_some, xst, xp0, xp1, xp2, xp3, xp4, xp5, xload, xstore, xget_0, xget_s, xs_0, xs_1n, xs_1i, xs_1r, xs_1u, xs_1l, xs_s, xt_0, xt_1n, xt_1i, xt_1r, xt_1u, xt_1l, xt_s, xisref, xq0, Value.category, xcat, List.map_nil, List.map_cons, List.sum_nil, List.sum_cons, List.length_cons, List.length_nil, List.getElem?_cons_zero, List.getElem?_cons_succ, xmap_s, if_true, and_self, Nat.reduceAdd, Nat.reduceLT, Nat.reduceLeDiff, Nat.reduceEqDiff, Nat.lt_add_one, Nat.zero_le, Nat.le_refl, Nat.le_zero_eq, Nat.zero_lt_succ, xldc, kbm10, kbm9, kbm8, kbm7, kbm6, kbm5, kbm4, kbm3, kbm2, kb6, kb7, kb8, kb9, kb10, kb11, kb16, kb19, kb20, kb30, kb31, kb32, kb34, kb40, kb64, kb100, kb127, kim1, ki0, ki1, ki2, ki3, ki4, ki5, ks128, ks400, ks999, ks1000, ks4010]
    refine ok_bt rfl ?_
    iterate 3 (refine ok_st rfl rfl ?_; simp only [okS_some, xst, xp0, xp1, xp2, xp3, xp4, xp5, xload, xstore, xget_0, xget_s, xs_0, xs_1n, xs_1i, xs_1r, xs_1u, xs_1l, xs_s, xt_0, xt_1n, xt_1i, xt_1r, xt_1u, xt_1l, xt_s, xisref, xq0, Value.category, xcat, List.map_nil, List.map_cons, List.sum_nil, List.sum_cons, List.length_cons, List.length_nil, List.getElem?_cons_zero, List.getElem?_cons_succ, xmap_s, if_true, and_self, Nat.reduceAdd, Nat.reduceLT, Nat.reduceLeDiff, Nat.reduceEqDiff, Nat.lt_add_one, Nat.zero_le, Nat.le_refl, Nat.le_zero_eq, Nat.zero_lt_succ, xldc, kbm10, kbm9, kbm8, kbm7, kbm6, kbm5, kbm4, kbm3, kbm2, kb6, kb7, kb8, kb9, kb10, kb11, kb16, kb19, kb20, kb30, kb31, kb32, kb34, kb40, kb64, kb100, kb127, kim1, ki0, ki1, ki2, ki3, ki4, ki5, ks128, ks400, ks999, ks1000, ks4010])
    refine ok_st rfl rfl ?_
    simp only [okS_some, xst, xp0, xp1, xp2, xp3, xp4, xp5, xload, xstore, xget_0, xget_s, xs_0, xs_1n, xs_1i, xs_1r, xs_1u, xs_1l, xs_s, xt_0, xt_1n, xt_1i, xt_1r, xt_1u, xt_1l, xt_s, xisref, xq0, Value.category, xcat, List.map_nil, List.map_cons, List.sum_nil, List.sum_cons, List.length_cons, List.length_nil, List.getElem?_cons_zero, List.getElem?_cons_succ, xmap_s, if_true, and_self, Nat.reduceAdd, Nat.reduceLT, Nat.reduceLeDiff, Nat.reduceEqDiff, Nat.lt_add_one, Nat.zero_le, Nat.le_refl, Nat.le_zero_eq, Nat.zero_lt_succ, xldc, kbm10, kbm9, kbm8, kbm7, kbm6, kbm5, kbm4, kbm3, kbm2, kb6, kb7, kb8, kb9, kb10, kb11, kb16, kb19, kb20, kb30, kb31, kb32, kb34, kb40, kb64, kb100, kb127, kim1, ki0, ki1, ki2, ki3, ki4, ki5, ks128, ks400, ks999, ks1000, ks4010, hm.1, mF]
    try simp (disch := decide) only [mP_s, mP_n, hS1]
    refine ok_st rfl rfl ?_
    simp only [okS_some, xst, xp0, xp1, xp2, xp3, xp4, xp5, xload, xstore, xget_0, xget_s, xs_0, xs_1n, xs_1i, xs_1r, xs_1u, xs_1l, xs_s, xt_0, xt_1n, xt_1i, xt_1r, xt_1u, xt_1l, xt_s, xisref, xq0, Value.category, xcat, List.map_nil, List.map_cons, List.sum_nil, List.sum_cons, List.length_cons, List.length_nil, List.getElem?_cons_zero, List.getElem?_cons_succ, xmap_s, if_true, and_self, Nat.reduceAdd, Nat.reduceLT, Nat.reduceLeDiff, Nat.reduceEqDiff, Nat.lt_add_one, Nat.zero_le, Nat.le_refl, Nat.le_zero_eq, Nat.zero_lt_succ, xldc, kbm10, kbm9, kbm8, kbm7, kbm6, kbm5, kbm4, kbm3, kbm2, kb6, kb7, kb8, kb9, kb10, kb11, kb16, kb19, kb20, kb30, kb31, kb32, kb34, kb40, kb64, kb100, kb127, kim1, ki0, ki1, ki2, ki3, ki4, ki5, ks128, ks400, ks999, ks1000, ks4010]
    refine ok_cm (vs := [_, _, _, _]) rfl rfl rfl rfl (Nat.le_of_ble_eq_true rfl) (Nat.le_of_ble_eq_true rfl) (by show xcl0 2 9 _ _ = true; simp [xcl0, hm.1]) (by decide) hW (sp91 (T := M) hW hm hM) ?_
    rintro _ h6 ⟨rfl, A10, B11, hm, hG12⟩ k7 al8
    have s13 := al8 rfl
    have hW := k7.1
    dsimp only [Option.toList, List.nil_append, Nat.reduceAdd]
    iterate 4 (refine ok_st rfl rfl ?_; simp only [okS_some, xst, xp0, xp1, xp2, xp3, xp4, xp5, xload, xstore, xget_0, xget_s, xs_0, xs_1n, xs_1i, xs_1r, xs_1u, xs_1l, xs_s, xt_0, xt_1n, xt_1i, xt_1r, xt_1u, xt_1l, xt_s, xisref, xq0, Value.category, xcat, List.map_nil, List.map_cons, List.sum_nil, List.sum_cons, List.length_cons, List.length_nil, List.getElem?_cons_zero, List.getElem?_cons_succ, xmap_s, if_true, and_self, Nat.reduceAdd, Nat.reduceLT, Nat.reduceLeDiff, Nat.reduceEqDiff, Nat.lt_add_one, Nat.zero_le, Nat.le_refl, Nat.le_zero_eq, Nat.zero_lt_succ, xldc, kbm10, kbm9, kbm8, kbm7, kbm6, kbm5, kbm4, kbm3, kbm2, kb6, kb7, kb8, kb9, kb10, kb11, kb16, kb19, kb20, kb30, kb31, kb32, kb34, kb40, kb64, kb100, kb127, kim1, ki0, ki1, ki2, ki3, ki4, ki5, ks128, ks400, ks999, ks1000, ks4010])
    have bl := mcn_le (mpg S A x1 x3) M
    refine (lx107_27 (i := 0) (mG_l hG12) mP_s (by omega) (by omega) _ hW hm (Nat.zero_le _) rfl (by show ¬ (0 : Int32) = 2; decide) (Nat.lt_succ_self _)).mono ?_
    rintro v h' q
    exact Or.inr ⟨ha, A10, B11, hG12, q⟩
  · dsimp only [Option.toList, List.cons_append, List.nil_append, Nat.reduceAdd]
    have s14 := al3 rfl
    have hW := k2.1
    have hm := hm.kp k2 rfl
    refine ok_st rfl rfl ?_
    simp only [okS_some, xst, xp0, xp1, xp2, xp3, xp4, xp5, xload, xstore, xget_0, xget_s, xs_0, xs_1n, xs_1i, xs_1r, xs_1u, xs_1l, xs_s, xt_0, xt_1n, xt_1i, xt_1r, xt_1u, xt_1l, xt_s, xisref, xq0, Value.category, xcat, List.map_nil, List.map_cons, List.sum_nil, List.sum_cons, List.length_cons, List.length_nil, List.getElem?_cons_zero, List.getElem?_cons_succ, xmap_s, if_true, and_self, Nat.reduceAdd, Nat.reduceLT, Nat.reduceLeDiff, Nat.reduceEqDiff, Nat.lt_add_one, Nat.zero_le, Nat.le_refl, Nat.le_zero_eq, Nat.zero_lt_succ, xldc, kbm10, kbm9, kbm8, kbm7, kbm6, kbm5, kbm4, kbm3, kbm2, kb6, kb7, kb8, kb9, kb10, kb11, kb16, kb19, kb20, kb30, kb31, kb32, kb34, kb40, kb64, kb100, kb127, kim1, ki0, ki1, ki2, ki3, ki4, ki5, ks128, ks400, ks999, ks1000, ks4010]
    refine ok_bf rfl ?_
    refine ok_st rfl rfl ?_
    simp only [okS_some, xst, xp0, xp1, xp2, xp3, xp4, xp5, xload, xstore, xget_0, xget_s, xs_0, xs_1n, xs_1i, xs_1r, xs_1u, xs_1l, xs_s, xt_0, xt_1n, xt_1i, xt_1r, xt_1u, xt_1l, xt_s, xisref, xq0, Value.category, xcat, List.map_nil, List.map_cons, List.sum_nil, List.sum_cons, List.length_cons, List.length_nil, List.getElem?_cons_zero, List.getElem?_cons_succ, xmap_s, if_true, and_self, Nat.reduceAdd, Nat.reduceLT, Nat.reduceLeDiff, Nat.reduceEqDiff, Nat.lt_add_one, Nat.zero_le, Nat.le_refl, Nat.le_zero_eq, Nat.zero_lt_succ, xldc, kbm10, kbm9, kbm8, kbm7, kbm6, kbm5, kbm4, kbm3, kbm2, kb6, kb7, kb8, kb9, kb10, kb11, kb16, kb19, kb20, kb30, kb31, kb32, kb34, kb40, kb64, kb100, kb127, kim1, ki0, ki1, ki2, ki3, ki4, ki5, ks128, ks400, ks999, ks1000, ks4010]
    refine ok_r1 rfl rfl rfl rfl ?_
    exact Or.inl ⟨rfl, hna⟩
