/-! EXACT: bring -/
theorem in19 {x : Int32} {m : Nat} (hm : m < 2 ^ 31) (h : 0 ≤ x ∧ x ≤ nI m) : ∃ s, s < m + 1 ∧ x = nI s := by
  have h1 : x = nI x.toInt.toNat := nxof (by have := h.1; rw [Int32.le_iff_toInt_le, kt0] at this; exact this)
  have h2 : x.toInt.toNat < 2 ^ 31 := by have := fb_rng x; omega
  have h3 := h.2
  rw [h1, nI_leI h2 hm] at h3
  exact ⟨_, by omega, h1⟩
theorem no19 {x : Int32} {m : Nat} (hm : m < 2 ^ 31) (h : ¬ (0 ≤ x ∧ x ≤ nI m)) : ¬ ∃ s, s < m + 1 ∧ x = nI s := by
  rintro ⟨s, h1, rfl⟩
  exact h ⟨by rw [nk0p (by omega)]; omega, by rw [nI_leI (by omega) hm]; omega⟩
set_option maxRecDepth 20000 in
set_option maxHeartbeats 4000000 in
/-- ToldHouse.rowOf(I)LToldHouse$Row; -/
theorem ix73 {X : Nat × (Nat → Int32)} {h : xH} (hW : xWF h) {td vc dc : Int32} (h0 : h.2.2 0 = some (.inr (8, [.ref 1, .ref 3, .ref 4, .ref 6, .ref 10, .ref 11, .ref 12, .int td, .int vc, .int dc]))) {gs : Nat → Option Nat} (f1 : h.2.2 3 = some (.inl (3, 20, .inr (.inr gs)))) (f2 : ∀ s, s < 20 → gs s = some (rw' s)) {x1 : Int32} : okM X 73 [.ref 0, .int x1] h (fun v h' => h = h' ∧ ((∃ s, s < 20 ∧ x1 = nI s ∧ v = some (.ref (rw' s))) ∨ ((¬ ∃ s, s < 20 ∧ x1 = nI s) ∧ v = some .null))) := by
  show ok X cd73 (0, [some (.ref 0), some (.int x1)], []) h _
  iterate 3 (refine ok_st rfl rfl ?_; simp only [okS_some, xst, xp0, xp1, xp2, xp3, xp4, xp5, xload, xstore, xget_0, xget_s, xs_0, xs_1n, xs_1i, xs_1r, xs_1u, xs_1l, xs_s, xt_0, xt_1n, xt_1i, xt_1r, xt_1u, xt_1l, xt_s, xisref, xq0, Value.category, xcat, List.map_nil, List.map_cons, List.sum_nil, List.sum_cons, List.length_cons, List.length_nil, List.getElem?_cons_zero, List.getElem?_cons_succ, xmap_s, if_true, and_self, Nat.reduceAdd, Nat.reduceLT, Nat.reduceLeDiff, Nat.reduceEqDiff, Nat.lt_add_one, Nat.zero_le, Nat.le_refl, Nat.le_zero_eq, Nat.zero_lt_succ, xldc, kbm10, kbm9, kbm8, kbm7, kbm6, kbm5, kbm4, kbm3, kbm2, kb6, kb7, kb8, kb9, kb10, kb11, kb16, kb19, kb20, kb30, kb31, kb32, kb34, kb40, kb64, kb100, kb127, kim1, ki0, ki1, ki2, ki3, ki4, ki5, ks128, ks400, ks999, ks1000, ks4010])
  refine ok_cm (vs := [_, _, _]) rfl rfl rfl rfl (Nat.le_of_ble_eq_true rfl) (Nat.le_of_ble_eq_true rfl) rfl (by decide) hW (ix68 hW) ?_
  rintro _ _ ⟨rfl, ⟨rfl, cw⟩ | ⟨rfl, cw⟩⟩ k201 al202
  · dsimp only [Option.toList, List.cons_append, List.nil_append, Nat.reduceAdd]
    refine ok_st rfl rfl ?_
    simp only [okS_some, xst, xp0, xp1, xp2, xp3, xp4, xp5, xload, xstore, xget_0, xget_s, xs_0, xs_1n, xs_1i, xs_1r, xs_1u, xs_1l, xs_s, xt_0, xt_1n, xt_1i, xt_1r, xt_1u, xt_1l, xt_s, xisref, xq0, Value.category, xcat, List.map_nil, List.map_cons, List.sum_nil, List.sum_cons, List.length_cons, List.length_nil, List.getElem?_cons_zero, List.getElem?_cons_succ, xmap_s, if_true, and_self, Nat.reduceAdd, Nat.reduceLT, Nat.reduceLeDiff, Nat.reduceEqDiff, Nat.lt_add_one, Nat.zero_le, Nat.le_refl, Nat.le_zero_eq, Nat.zero_lt_succ, xldc, kbm10, kbm9, kbm8, kbm7, kbm6, kbm5, kbm4, kbm3, kbm2, kb6, kb7, kb8, kb9, kb10, kb11, kb16, kb19, kb20, kb30, kb31, kb32, kb34, kb40, kb64, kb100, kb127, kim1, ki0, ki1, ki2, ki3, ki4, ki5, ks128, ks400, ks999, ks1000, ks4010]
    refine ok_bf rfl ?_
    refine ok_st rfl rfl ?_
    simp only [okS_some, xst, xp0, xp1, xp2, xp3, xp4, xp5, xload, xstore, xget_0, xget_s, xs_0, xs_1n, xs_1i, xs_1r, xs_1u, xs_1l, xs_s, xt_0, xt_1n, xt_1i, xt_1r, xt_1u, xt_1l, xt_s, xisref, xq0, Value.category, xcat, List.map_nil, List.map_cons, List.sum_nil, List.sum_cons, List.length_cons, List.length_nil, List.getElem?_cons_zero, List.getElem?_cons_succ, xmap_s, if_true, and_self, Nat.reduceAdd, Nat.reduceLT, Nat.reduceLeDiff, Nat.reduceEqDiff, Nat.lt_add_one, Nat.zero_le, Nat.le_refl, Nat.le_zero_eq, Nat.zero_lt_succ, xldc, kbm10, kbm9, kbm8, kbm7, kbm6, kbm5, kbm4, kbm3, kbm2, kb6, kb7, kb8, kb9, kb10, kb11, kb16, kb19, kb20, kb30, kb31, kb32, kb34, kb40, kb64, kb100, kb127, kim1, ki0, ki1, ki2, ki3, ki4, ki5, ks128, ks400, ks999, ks1000, ks4010]
    refine ok_st rfl rfl ?_
    simp only [okS_some, xst, xp0, xp1, xp2, xp3, xp4, xp5, xload, xstore, xget_0, xget_s, xs_0, xs_1n, xs_1i, xs_1r, xs_1u, xs_1l, xs_s, xt_0, xt_1n, xt_1i, xt_1r, xt_1u, xt_1l, xt_s, xisref, xq0, Value.category, xcat, List.map_nil, List.map_cons, List.sum_nil, List.sum_cons, List.length_cons, List.length_nil, List.getElem?_cons_zero, List.getElem?_cons_succ, xmap_s, if_true, and_self, Nat.reduceAdd, Nat.reduceLT, Nat.reduceLeDiff, Nat.reduceEqDiff, Nat.lt_add_one, Nat.zero_le, Nat.le_refl, Nat.le_zero_eq, Nat.zero_lt_succ, xldc, kbm10, kbm9, kbm8, kbm7, kbm6, kbm5, kbm4, kbm3, kbm2, kb6, kb7, kb8, kb9, kb10, kb11, kb16, kb19, kb20, kb30, kb31, kb32, kb34, kb40, kb64, kb100, kb127, kim1, ki0, ki1, ki2, ki3, ki4, ki5, ks128, ks400, ks999, ks1000, ks4010, h0]
    refine ok_st rfl rfl ?_
    simp only [okS_some, xst, xp0, xp1, xp2, xp3, xp4, xp5, xload, xstore, xget_0, xget_s, xs_0, xs_1n, xs_1i, xs_1r, xs_1u, xs_1l, xs_s, xt_0, xt_1n, xt_1i, xt_1r, xt_1u, xt_1l, xt_s, xisref, xq0, Value.category, xcat, List.map_nil, List.map_cons, List.sum_nil, List.sum_cons, List.length_cons, List.length_nil, List.getElem?_cons_zero, List.getElem?_cons_succ, xmap_s, if_true, and_self, Nat.reduceAdd, Nat.reduceLT, Nat.reduceLeDiff, Nat.reduceEqDiff, Nat.lt_add_one, Nat.zero_le, Nat.le_refl, Nat.le_zero_eq, Nat.zero_lt_succ, xldc, kbm10, kbm9, kbm8, kbm7, kbm6, kbm5, kbm4, kbm3, kbm2, kb6, kb7, kb8, kb9, kb10, kb11, kb16, kb19, kb20, kb30, kb31, kb32, kb34, kb40, kb64, kb100, kb127, kim1, ki0, ki1, ki2, ki3, ki4, ki5, ks128, ks400, ks999, ks1000, ks4010]
    refine ok_ax rfl f1 (by decide) (by obtain ⟨s, hs, es⟩ := in19 (m := 19) (by decide) cw; rw [es]; exact nIn hs (by decide)) ?_
    obtain ⟨s, hs, es⟩ := in19 (m := 19) (by decide) cw
    subst es
    rw [nI_clamp (by omega), f2 s hs]
    dsimp only [va_rf, Nat.reduceAdd]
    refine ok_st rfl rfl ?_
    simp only [okS_some, xst, xp0, xp1, xp2, xp3, xp4, xp5, xload, xstore, xget_0, xget_s, xs_0, xs_1n, xs_1i, xs_1r, xs_1u, xs_1l, xs_s, xt_0, xt_1n, xt_1i, xt_1r, xt_1u, xt_1l, xt_s, xisref, xq0, Value.category, xcat, List.map_nil, List.map_cons, List.sum_nil, List.sum_cons, List.length_cons, List.length_nil, List.getElem?_cons_zero, List.getElem?_cons_succ, xmap_s, if_true, and_self, Nat.reduceAdd, Nat.reduceLT, Nat.reduceLeDiff, Nat.reduceEqDiff, Nat.lt_add_one, Nat.zero_le, Nat.le_refl, Nat.le_zero_eq, Nat.zero_lt_succ, xldc, kbm10, kbm9, kbm8, kbm7, kbm6, kbm5, kbm4, kbm3, kbm2, kb6, kb7, kb8, kb9, kb10, kb11, kb16, kb19, kb20, kb30, kb31, kb32, kb34, kb40, kb64, kb100, kb127, kim1, ki0, ki1, ki2, ki3, ki4, ki5, ks128, ks400, ks999, ks1000, ks4010]
    refine ok_r1 rfl rfl rfl rfl ?_
    try dsimp only
    exact ⟨rfl, Or.inl ⟨s, hs, rfl, rfl⟩⟩
  · dsimp only [Option.toList, List.cons_append, List.nil_append, Nat.reduceAdd]
    refine ok_st rfl rfl ?_
    simp only [okS_some, xst, xp0, xp1, xp2, xp3, xp4, xp5, xload, xstore, xget_0, xget_s, xs_0, xs_1n, xs_1i, xs_1r, xs_1u, xs_1l, xs_s, xt_0, xt_1n, xt_1i, xt_1r, xt_1u, xt_1l, xt_s, xisref, xq0, Value.category, xcat, List.map_nil, List.map_cons, List.sum_nil, List.sum_cons, List.length_cons, List.length_nil, List.getElem?_cons_zero, List.getElem?_cons_succ, xmap_s, if_true, and_self, Nat.reduceAdd, Nat.reduceLT, Nat.reduceLeDiff, Nat.reduceEqDiff, Nat.lt_add_one, Nat.zero_le, Nat.le_refl, Nat.le_zero_eq, Nat.zero_lt_succ, xldc, kbm10, kbm9, kbm8, kbm7, kbm6, kbm5, kbm4, kbm3, kbm2, kb6, kb7, kb8, kb9, kb10, kb11, kb16, kb19, kb20, kb30, kb31, kb32, kb34, kb40, kb64, kb100, kb127, kim1, ki0, ki1, ki2, ki3, ki4, ki5, ks128, ks400, ks999, ks1000, ks4010]
    refine ok_bt rfl ?_
    refine ok_st rfl rfl ?_
    simp only [okS_some, xst, xp0, xp1, xp2, xp3, xp4, xp5, xload, xstore, xget_0, xget_s, xs_0, xs_1n, xs_1i, xs_1r, xs_1u, xs_1l, xs_s, xt_0, xt_1n, xt_1i, xt_1r, xt_1u, xt_1l, xt_s, xisref, xq0, Value.category, xcat, List.map_nil, List.map_cons, List.sum_nil, List.sum_cons, List.length_cons, List.length_nil, List.getElem?_cons_zero, List.getElem?_cons_succ, xmap_s, if_true, and_self, Nat.reduceAdd, Nat.reduceLT, Nat.reduceLeDiff, Nat.reduceEqDiff, Nat.lt_add_one, Nat.zero_le, Nat.le_refl, Nat.le_zero_eq, Nat.zero_lt_succ, xldc, kbm10, kbm9, kbm8, kbm7, kbm6, kbm5, kbm4, kbm3, kbm2, kb6, kb7, kb8, kb9, kb10, kb11, kb16, kb19, kb20, kb30, kb31, kb32, kb34, kb40, kb64, kb100, kb127, kim1, ki0, ki1, ki2, ki3, ki4, ki5, ks128, ks400, ks999, ks1000, ks4010]
    refine ok_r1 rfl rfl rfl rfl ?_
    try dsimp only
    exact ⟨rfl, Or.inr ⟨no19 (m := 19) (by decide) cw, rfl⟩⟩
set_option maxRecDepth 20000 in
set_option maxHeartbeats 16000000 in
/-- ToldHouse.bring(LToldHouse$Happening;I)I -/
theorem ix81 {X : Nat × (Nat → Int32)} {h : xH} (hW : xWF h) {c : Nat} {td vc dc : Int32} (hI : cI c td vc dc h) (hc : c ≤ 1026) {A A' : Nat → Nat → Int32} {M : Nat} {a T : Nat → Nat} (hS : cS h A M a T) (hj : jZ h) (hM : M ≤ 400) {p1 : Nat} {x0 x1 y2 y3 x4 x5 x6 x7 x8 x9 x10 v0 x2 : Int32} {m0 : Value} (hp1 : h.2.2 p1 = some (.inr (2, [.int x0, .int x1, .int y2, .int y3, .int x4, .int x5, .int x6, .int x7, .int x8, .int x9, .int x10, .int v0, m0]))) (hpa : ∀ n, n < M → p1 ≠ a n) (hdI : ∀ s, s < 20 → dI A (mst A s) M) (hA : ∀ i, i < 10 * M → A' 58 i = A 58 i) (hr0 : A' 58 (10 * M) = x0) (hr1 : ∀ s, s < 20 → x0 = nI s → A' 58 (10 * M + 1) = nI (mcn (mst A s) M)) (hr2 : A' 58 (10 * M + 2) = x4 ∧ A' 58 (10 * M + 3) = x5 ∧ A' 58 (10 * M + 4) = x6 ∧ A' 58 (10 * M + 5) = x7 ∧ A' 58 (10 * M + 6) = x8 ∧ A' 58 (10 * M + 7) = x9 ∧ A' 58 (10 * M + 8) = x10 ∧ A' 58 (10 * M + 9) = x1) : okM X 81 [.ref 0, .ref p1, .int x2] h (fun v h' => ∃ r, v = some (.int r) ∧ brQ h h' A A' M a p1 x0 x4 x5 x6 x7 x8 x9 x10 x2 r) := by
  obtain ⟨⟨e1, l1, g1, e2, e3, e4⟩, ⟨gs, f1, f2⟩, hrows, ⟨n4, l4, g4, k1, k2⟩, ⟨Vv, Mv, hcell⟩, hinj, hT⟩ := id hS
  have h0 := hI.1
  have bl1 := cI_len hI e1 e2
  show ok X cd81 (0, [some (.ref 0), some (.ref p1), some (.int x2), none, none], []) h _
  iterate 2 (refine ok_st rfl rfl ?_; simp only [okS_some, xst, xp0, xp1, xp2, xp3, xp4, xp5, xload, xstore, xget_0, xget_s, xs_0, xs_1n, xs_1i, xs_1r, xs_1u, xs_1l, xs_s, xt_0, xt_1n, xt_1i, xt_1r, xt_1u, xt_1l, xt_s, xisref, xq0, Value.category, xcat, List.map_nil, List.map_cons, List.sum_nil, List.sum_cons, List.length_cons, List.length_nil, List.getElem?_cons_zero, List.getElem?_cons_succ, xmap_s, if_true, and_self, Nat.reduceAdd, Nat.reduceLT, Nat.reduceLeDiff, Nat.reduceEqDiff, Nat.lt_add_one, Nat.zero_le, Nat.le_refl, Nat.le_zero_eq, Nat.zero_lt_succ, xldc, kbm10, kbm9, kbm8, kbm7, kbm6, kbm5, kbm4, kbm3, kbm2, kb6, kb7, kb8, kb9, kb10, kb11, kb16, kb19, kb20, kb30, kb31, kb32, kb34, kb40, kb64, kb100, kb127, kim1, ki0, ki1, ki2, ki3, ki4, ki5, ks128, ks400, ks999, ks1000, ks4010])
  refine ok_st rfl rfl ?_
  simp only [okS_some, xst, xp0, xp1, xp2, xp3, xp4, xp5, xload, xstore, xget_0, xget_s, xs_0, xs_1n, xs_1i, xs_1r, xs_1u, xs_1l, xs_s, xt_0, xt_1n, xt_1i, xt_1r, xt_1u, xt_1l, xt_s, xisref, xq0, Value.category, xcat, List.map_nil, List.map_cons, List.sum_nil, List.sum_cons, List.length_cons, List.length_nil, List.getElem?_cons_zero, List.getElem?_cons_succ, xmap_s, if_true, and_self, Nat.reduceAdd, Nat.reduceLT, Nat.reduceLeDiff, Nat.reduceEqDiff, Nat.lt_add_one, Nat.zero_le, Nat.le_refl, Nat.le_zero_eq, Nat.zero_lt_succ, xldc, kbm10, kbm9, kbm8, kbm7, kbm6, kbm5, kbm4, kbm3, kbm2, kb6, kb7, kb8, kb9, kb10, kb11, kb16, kb19, kb20, kb30, kb31, kb32, kb34, kb40, kb64, kb100, kb127, kim1, ki0, ki1, ki2, ki3, ki4, ki5, ks128, ks400, ks999, ks1000, ks4010, hp1]
  refine ok_cm (vs := [_, _]) rfl rfl rfl rfl (Nat.le_of_ble_eq_true rfl) (Nat.le_of_ble_eq_true rfl) (by show xcl0 2 8 _ _ = true; simp [xcl0, h0]) (by decide) hW (ix73 hW h0 f1 f2) ?_
  rintro _ _ ⟨rfl, ⟨s, hs, rfl, rfl⟩ | ⟨hno, rfl⟩⟩ k201 al202
  · dsimp only [Option.toList, List.cons_append, List.nil_append, Nat.reduceAdd]
    obtain ⟨r1, len, g, r2, r3, r4⟩ := hrows s hs
    have bl2 := cI_len hI r1 r2
    have hNM := mcn_le (mst A s) M
    have hk2 : ∀ k, k < (mcn (mst A s) M) → h.2.2 (a (mix (mst A s) M k)) = some (.inr (2, [.int (lF A (mst A s) M k 0), .int (lF A (mst A s) M k 1), .int (lF A (mst A s) M k 2), .int (lF A (mst A s) M k 3), .int (lF A (mst A s) M k 4), .int (lF A (mst A s) M k 5), .int (lF A (mst A s) M k 6), .int (lF A (mst A s) M k 7), .int (lF A (mst A s) M k 8), .int (lF A (mst A s) M k 9), .int (lF A (mst A s) M k 10), .int (Vv (mix (mst A s) M k)), Mv (mix (mst A s) M k)])) := fun k hk => hcell _ (mix_in hk).1
    have hgk : ∀ k, k < (mcn (mst A s) M) → g k = some (a (mix (mst A s) M k)) := fun k hk => by
      obtain ⟨q1, q2, q3⟩ := mix_in hk
      have := r4 _ q1 q2
      rw [q3] at this
      exact this
    iterate 4 (refine ok_st rfl rfl ?_; simp only [okS_some, xst, xp0, xp1, xp2, xp3, xp4, xp5, xload, xstore, xget_0, xget_s, xs_0, xs_1n, xs_1i, xs_1r, xs_1u, xs_1l, xs_s, xt_0, xt_1n, xt_1i, xt_1r, xt_1u, xt_1l, xt_s, xisref, xq0, Value.category, xcat, List.map_nil, List.map_cons, List.sum_nil, List.sum_cons, List.length_cons, List.length_nil, List.getElem?_cons_zero, List.getElem?_cons_succ, xmap_s, if_true, and_self, Nat.reduceAdd, Nat.reduceLT, Nat.reduceLeDiff, Nat.reduceEqDiff, Nat.lt_add_one, Nat.zero_le, Nat.le_refl, Nat.le_zero_eq, Nat.zero_lt_succ, xldc, kbm10, kbm9, kbm8, kbm7, kbm6, kbm5, kbm4, kbm3, kbm2, kb6, kb7, kb8, kb9, kb10, kb11, kb16, kb19, kb20, kb30, kb31, kb32, kb34, kb40, kb64, kb100, kb127, kim1, ki0, ki1, ki2, ki3, ki4, ki5, ks128, ks400, ks999, ks1000, ks4010])
    refine ok_cm (vs := [_]) rfl rfl rfl rfl (Nat.le_of_ble_eq_true rfl) (Nat.le_of_ble_eq_true rfl) (by show xcl0 2 2 _ _ = true; simp [xcl0, hp1]) (by decide) hW (ix12 hW hp1) ?_
    rintro _ _ ⟨rfl, ⟨rfl, ct⟩ | ⟨rfl, ct⟩⟩ k203 al204
    · dsimp only [Option.toList, List.cons_append, List.nil_append, Nat.reduceAdd]
      refine ok_st rfl rfl ?_
      simp only [okS_some, xst, xp0, xp1, xp2, xp3, xp4, xp5, xload, xstore, xget_0, xget_s, xs_0, xs_1n, xs_1i, xs_1r, xs_1u, xs_1l, xs_s, xt_0, xt_1n, xt_1i, xt_1r, xt_1u, xt_1l, xt_s, xisref, xq0, Value.category, xcat, List.map_nil, List.map_cons, List.sum_nil, List.sum_cons, List.length_cons, List.length_nil, List.getElem?_cons_zero, List.getElem?_cons_succ, xmap_s, if_true, and_self, Nat.reduceAdd, Nat.reduceLT, Nat.reduceLeDiff, Nat.reduceEqDiff, Nat.lt_add_one, Nat.zero_le, Nat.le_refl, Nat.le_zero_eq, Nat.zero_lt_succ, xldc, kbm10, kbm9, kbm8, kbm7, kbm6, kbm5, kbm4, kbm3, kbm2, kb6, kb7, kb8, kb9, kb10, kb11, kb16, kb19, kb20, kb30, kb31, kb32, kb34, kb40, kb64, kb100, kb127, kim1, ki0, ki1, ki2, ki3, ki4, ki5, ks128, ks400, ks999, ks1000, ks4010]
      refine ok_bt rfl ?_
      iterate 3 (refine ok_st rfl rfl ?_; simp only [okS_some, xst, xp0, xp1, xp2, xp3, xp4, xp5, xload, xstore, xget_0, xget_s, xs_0, xs_1n, xs_1i, xs_1r, xs_1u, xs_1l, xs_s, xt_0, xt_1n, xt_1i, xt_1r, xt_1u, xt_1l, xt_s, xisref, xq0, Value.category, xcat, List.map_nil, List.map_cons, List.sum_nil, List.sum_cons, List.length_cons, List.length_nil, List.getElem?_cons_zero, List.getElem?_cons_succ, xmap_s, if_true, and_self, Nat.reduceAdd, Nat.reduceLT, Nat.reduceLeDiff, Nat.reduceEqDiff, Nat.lt_add_one, Nat.zero_le, Nat.le_refl, Nat.le_zero_eq, Nat.zero_lt_succ, xldc, kbm10, kbm9, kbm8, kbm7, kbm6, kbm5, kbm4, kbm3, kbm2, kb6, kb7, kb8, kb9, kb10, kb11, kb16, kb19, kb20, kb30, kb31, kb32, kb34, kb40, kb64, kb100, kb127, kim1, ki0, ki1, ki2, ki3, ki4, ki5, ks128, ks400, ks999, ks1000, ks4010])
      refine ok_if (fun c25 => ?_) (fun c25 => ?_)
      · simp only [xcnd, decide_eq_true_eq, decide_eq_false_iff_not, Bool.not_eq_true', Bool.not_eq_false'] at c25
        refine ok_st rfl rfl ?_
        simp only [okS_some, xst, xp0, xp1, xp2, xp3, xp4, xp5, xload, xstore, xget_0, xget_s, xs_0, xs_1n, xs_1i, xs_1r, xs_1u, xs_1l, xs_s, xt_0, xt_1n, xt_1i, xt_1r, xt_1u, xt_1l, xt_s, xisref, xq0, Value.category, xcat, List.map_nil, List.map_cons, List.sum_nil, List.sum_cons, List.length_cons, List.length_nil, List.getElem?_cons_zero, List.getElem?_cons_succ, xmap_s, if_true, and_self, Nat.reduceAdd, Nat.reduceLT, Nat.reduceLeDiff, Nat.reduceEqDiff, Nat.lt_add_one, Nat.zero_le, Nat.le_refl, Nat.le_zero_eq, Nat.zero_lt_succ, xldc, kbm10, kbm9, kbm8, kbm7, kbm6, kbm5, kbm4, kbm3, kbm2, kb6, kb7, kb8, kb9, kb10, kb11, kb16, kb19, kb20, kb30, kb31, kb32, kb34, kb40, kb64, kb100, kb127, kim1, ki0, ki1, ki2, ki3, ki4, ki5, ks128, ks400, ks999, ks1000, ks4010]
        refine ok_st rfl rfl ?_
        simp only [okS_some, xst, xp0, xp1, xp2, xp3, xp4, xp5, xload, xstore, xget_0, xget_s, xs_0, xs_1n, xs_1i, xs_1r, xs_1u, xs_1l, xs_s, xt_0, xt_1n, xt_1i, xt_1r, xt_1u, xt_1l, xt_s, xisref, xq0, Value.category, xcat, List.map_nil, List.map_cons, List.sum_nil, List.sum_cons, List.length_cons, List.length_nil, List.getElem?_cons_zero, List.getElem?_cons_succ, xmap_s, if_true, and_self, Nat.reduceAdd, Nat.reduceLT, Nat.reduceLeDiff, Nat.reduceEqDiff, Nat.lt_add_one, Nat.zero_le, Nat.le_refl, Nat.le_zero_eq, Nat.zero_lt_succ, xldc, kbm10, kbm9, kbm8, kbm7, kbm6, kbm5, kbm4, kbm3, kbm2, kb6, kb7, kb8, kb9, kb10, kb11, kb16, kb19, kb20, kb30, kb31, kb32, kb34, kb40, kb64, kb100, kb127, kim1, ki0, ki1, ki2, ki3, ki4, ki5, ks128, ks400, ks999, ks1000, ks4010, h0]
        refine ok_st rfl rfl ?_
        simp only [okS_some, xst, xp0, xp1, xp2, xp3, xp4, xp5, xload, xstore, xget_0, xget_s, xs_0, xs_1n, xs_1i, xs_1r, xs_1u, xs_1l, xs_s, xt_0, xt_1n, xt_1i, xt_1r, xt_1u, xt_1l, xt_s, xisref, xq0, Value.category, xcat, List.map_nil, List.map_cons, List.sum_nil, List.sum_cons, List.length_cons, List.length_nil, List.getElem?_cons_zero, List.getElem?_cons_succ, xmap_s, if_true, and_self, Nat.reduceAdd, Nat.reduceLT, Nat.reduceLeDiff, Nat.reduceEqDiff, Nat.lt_add_one, Nat.zero_le, Nat.le_refl, Nat.le_zero_eq, Nat.zero_lt_succ, xldc, kbm10, kbm9, kbm8, kbm7, kbm6, kbm5, kbm4, kbm3, kbm2, kb6, kb7, kb8, kb9, kb10, kb11, kb16, kb19, kb20, kb30, kb31, kb32, kb34, kb40, kb64, kb100, kb127, kim1, ki0, ki1, ki2, ki3, ki4, ki5, ks128, ks400, ks999, ks1000, ks4010, e1]
        iterate 2 (refine ok_st rfl rfl ?_; simp only [okS_some, xst, xp0, xp1, xp2, xp3, xp4, xp5, xload, xstore, xget_0, xget_s, xs_0, xs_1n, xs_1i, xs_1r, xs_1u, xs_1l, xs_s, xt_0, xt_1n, xt_1i, xt_1r, xt_1u, xt_1l, xt_s, xisref, xq0, Value.category, xcat, List.map_nil, List.map_cons, List.sum_nil, List.sum_cons, List.length_cons, List.length_nil, List.getElem?_cons_zero, List.getElem?_cons_succ, xmap_s, if_true, and_self, Nat.reduceAdd, Nat.reduceLT, Nat.reduceLeDiff, Nat.reduceEqDiff, Nat.lt_add_one, Nat.zero_le, Nat.le_refl, Nat.le_zero_eq, Nat.zero_lt_succ, xldc, kbm10, kbm9, kbm8, kbm7, kbm6, kbm5, kbm4, kbm3, kbm2, kb6, kb7, kb8, kb9, kb10, kb11, kb16, kb19, kb20, kb30, kb31, kb32, kb34, kb40, kb64, kb100, kb127, kim1, ki0, ki1, ki2, ki3, ki4, ki5, ks128, ks400, ks999, ks1000, ks4010])
        refine ok_if (fun c49 => ?_) (fun c49 => ?_)
        · simp only [xcnd, decide_eq_true_eq, decide_eq_false_iff_not, Bool.not_eq_true', Bool.not_eq_false'] at c49
          iterate 2 (refine ok_st rfl rfl ?_; simp only [okS_some, xst, xp0, xp1, xp2, xp3, xp4, xp5, xload, xstore, xget_0, xget_s, xs_0, xs_1n, xs_1i, xs_1r, xs_1u, xs_1l, xs_s, xt_0, xt_1n, xt_1i, xt_1r, xt_1u, xt_1l, xt_s, xisref, xq0, Value.category, xcat, List.map_nil, List.map_cons, List.sum_nil, List.sum_cons, List.length_cons, List.length_nil, List.getElem?_cons_zero, List.getElem?_cons_succ, xmap_s, if_true, and_self, Nat.reduceAdd, Nat.reduceLT, Nat.reduceLeDiff, Nat.reduceEqDiff, Nat.lt_add_one, Nat.zero_le, Nat.le_refl, Nat.le_zero_eq, Nat.zero_lt_succ, xldc, kbm10, kbm9, kbm8, kbm7, kbm6, kbm5, kbm4, kbm3, kbm2, kb6, kb7, kb8, kb9, kb10, kb11, kb16, kb19, kb20, kb30, kb31, kb32, kb34, kb40, kb64, kb100, kb127, kim1, ki0, ki1, ki2, ki3, ki4, ki5, ks128, ks400, ks999, ks1000, ks4010])
          refine ok_st rfl rfl ?_
          simp only [okS_some, xst, xp0, xp1, xp2, xp3, xp4, xp5, xload, xstore, xget_0, xget_s, xs_0, xs_1n, xs_1i, xs_1r, xs_1u, xs_1l, xs_s, xt_0, xt_1n, xt_1i, xt_1r, xt_1u, xt_1l, xt_s, xisref, xq0, Value.category, xcat, List.map_nil, List.map_cons, List.sum_nil, List.sum_cons, List.length_cons, List.length_nil, List.getElem?_cons_zero, List.getElem?_cons_succ, xmap_s, if_true, and_self, Nat.reduceAdd, Nat.reduceLT, Nat.reduceLeDiff, Nat.reduceEqDiff, Nat.lt_add_one, Nat.zero_le, Nat.le_refl, Nat.le_zero_eq, Nat.zero_lt_succ, xldc, kbm10, kbm9, kbm8, kbm7, kbm6, kbm5, kbm4, kbm3, kbm2, kb6, kb7, kb8, kb9, kb10, kb11, kb16, kb19, kb20, kb30, kb31, kb32, kb34, kb40, kb64, kb100, kb127, kim1, ki0, ki1, ki2, ki3, ki4, ki5, ks128, ks400, ks999, ks1000, ks4010, h0]
          refine ok_st rfl rfl ?_
          simp only [okS_some, xst, xp0, xp1, xp2, xp3, xp4, xp5, xload, xstore, xget_0, xget_s, xs_0, xs_1n, xs_1i, xs_1r, xs_1u, xs_1l, xs_s, xt_0, xt_1n, xt_1i, xt_1r, xt_1u, xt_1l, xt_s, xisref, xq0, Value.category, xcat, List.map_nil, List.map_cons, List.sum_nil, List.sum_cons, List.length_cons, List.length_nil, List.getElem?_cons_zero, List.getElem?_cons_succ, xmap_s, if_true, and_self, Nat.reduceAdd, Nat.reduceLT, Nat.reduceLeDiff, Nat.reduceEqDiff, Nat.lt_add_one, Nat.zero_le, Nat.le_refl, Nat.le_zero_eq, Nat.zero_lt_succ, xldc, kbm10, kbm9, kbm8, kbm7, kbm6, kbm5, kbm4, kbm3, kbm2, kb6, kb7, kb8, kb9, kb10, kb11, kb16, kb19, kb20, kb30, kb31, kb32, kb34, kb40, kb64, kb100, kb127, kim1, ki0, ki1, ki2, ki3, ki4, ki5, ks128, ks400, ks999, ks1000, ks4010, e1]
          refine ok_pf rfl hW hp1 (Nat.le_of_ble_eq_true rfl) rfl rfl ?_
          intro h205 k206 w207 s208 og209
          dsimp only [List.set, Nat.reduceAdd] at w207 ⊢
          have hW := k206.1
          have w210 := (og209 0 (ne_oo h0 hp1 (by decide))).trans h0
          have w211 := (og209 3 (Ne.symm (ne_oa hp1 f1))).trans f1
          have w212 := (og209 1 (ne_oo e1 hp1 (by decide))).trans e1
          have w213 := (og209 (T 0) (Ne.symm (ne_oa hp1 e2))).trans e2
          have w214 := (og209 (rw' s) (ne_oo r1 hp1 (by decide))).trans r1
          have w215 := (og209 (T (s + 1)) (Ne.symm (ne_oa hp1 r2))).trans r2
          have hk2 := fun k (hk : k < (mcn (mst A s) M)) => (og209 _ (Ne.symm (hpa _ (mix_in hk).1))).trans (hk2 k hk)
          have ogp := og209
          iterate 2 (refine ok_st rfl rfl ?_; simp only [okS_some, xst, xp0, xp1, xp2, xp3, xp4, xp5, xload, xstore, xget_0, xget_s, xs_0, xs_1n, xs_1i, xs_1r, xs_1u, xs_1l, xs_s, xt_0, xt_1n, xt_1i, xt_1r, xt_1u, xt_1l, xt_s, xisref, xq0, Value.category, xcat, List.map_nil, List.map_cons, List.sum_nil, List.sum_cons, List.length_cons, List.length_nil, List.getElem?_cons_zero, List.getElem?_cons_succ, xmap_s, if_true, and_self, Nat.reduceAdd, Nat.reduceLT, Nat.reduceLeDiff, Nat.reduceEqDiff, Nat.lt_add_one, Nat.zero_le, Nat.le_refl, Nat.le_zero_eq, Nat.zero_lt_succ, xldc, kbm10, kbm9, kbm8, kbm7, kbm6, kbm5, kbm4, kbm3, kbm2, kb6, kb7, kb8, kb9, kb10, kb11, kb16, kb19, kb20, kb30, kb31, kb32, kb34, kb40, kb64, kb100, kb127, kim1, ki0, ki1, ki2, ki3, ki4, ki5, ks128, ks400, ks999, ks1000, ks4010])
          refine ok_st rfl rfl ?_
          simp only [okS_some, xst, xp0, xp1, xp2, xp3, xp4, xp5, xload, xstore, xget_0, xget_s, xs_0, xs_1n, xs_1i, xs_1r, xs_1u, xs_1l, xs_s, xt_0, xt_1n, xt_1i, xt_1r, xt_1u, xt_1l, xt_s, xisref, xq0, Value.category, xcat, List.map_nil, List.map_cons, List.sum_nil, List.sum_cons, List.length_cons, List.length_nil, List.getElem?_cons_zero, List.getElem?_cons_succ, xmap_s, if_true, and_self, Nat.reduceAdd, Nat.reduceLT, Nat.reduceLeDiff, Nat.reduceEqDiff, Nat.lt_add_one, Nat.zero_le, Nat.le_refl, Nat.le_zero_eq, Nat.zero_lt_succ, xldc, kbm10, kbm9, kbm8, kbm7, kbm6, kbm5, kbm4, kbm3, kbm2, kb6, kb7, kb8, kb9, kb10, kb11, kb16, kb19, kb20, kb30, kb31, kb32, kb34, kb40, kb64, kb100, kb127, kim1, ki0, ki1, ki2, ki3, ki4, ki5, ks128, ks400, ks999, ks1000, ks4010, w214]
          refine ok_pf rfl hW w207 (Nat.le_of_ble_eq_true rfl) rfl rfl ?_
          intro h216 k217 w218 s219 og220
          dsimp only [List.set, Nat.reduceAdd] at w218 ⊢
          have hW := k217.1
          have w221 := (og220 0 (ne_oo w210 w207 (by decide))).trans w210
          have w222 := (og220 3 (Ne.symm (ne_oa w207 w211))).trans w211
          have w223 := (og220 1 (ne_oo w212 w207 (by decide))).trans w212
          have w224 := (og220 (T 0) (Ne.symm (ne_oa w207 w213))).trans w213
          have w225 := (og220 (rw' s) (ne_oo w214 w207 (by decide))).trans w214
          have w226 := (og220 (T (s + 1)) (Ne.symm (ne_oa w207 w215))).trans w215
          have hk2 := fun k (hk : k < (mcn (mst A s) M)) => (og220 _ (Ne.symm (hpa _ (mix_in hk).1))).trans (hk2 k hk)
          have ogp := fun p (z : p ≠ p1) => (og220 p z).trans (ogp p z)
          iterate 2 (refine ok_st rfl rfl ?_; simp only [okS_some, xst, xp0, xp1, xp2, xp3, xp4, xp5, xload, xstore, xget_0, xget_s, xs_0, xs_1n, xs_1i, xs_1r, xs_1u, xs_1l, xs_s, xt_0, xt_1n, xt_1i, xt_1r, xt_1u, xt_1l, xt_s, xisref, xq0, Value.category, xcat, List.map_nil, List.map_cons, List.sum_nil, List.sum_cons, List.length_cons, List.length_nil, List.getElem?_cons_zero, List.getElem?_cons_succ, xmap_s, if_true, and_self, Nat.reduceAdd, Nat.reduceLT, Nat.reduceLeDiff, Nat.reduceEqDiff, Nat.lt_add_one, Nat.zero_le, Nat.le_refl, Nat.le_zero_eq, Nat.zero_lt_succ, xldc, kbm10, kbm9, kbm8, kbm7, kbm6, kbm5, kbm4, kbm3, kbm2, kb6, kb7, kb8, kb9, kb10, kb11, kb16, kb19, kb20, kb30, kb31, kb32, kb34, kb40, kb64, kb100, kb127, kim1, ki0, ki1, ki2, ki3, ki4, ki5, ks128, ks400, ks999, ks1000, ks4010])
          refine ok_cm (vs := [_, _]) rfl rfl rfl rfl (Nat.le_of_ble_eq_true rfl) (Nat.le_of_ble_eq_true rfl) (by show xcl0 2 2 _ _ = true; simp [xcl0, w218]) (by decide) hW (ix14 (q := fun k => a (mix (mst A s) M k)) (F := lF A (mst A s) M) (V := fun k => Vv (mix (mst A s) M k)) (Mv := fun k => Mv (mix (mst A s) M k)) hW w218 w225 w226 r3 (by omega) hgk hk2) ?_
          rintro _ _ ⟨rfl, ⟨rfl, cr⟩ | ⟨rfl, cr⟩⟩ k227 al228
          · dsimp only [Option.toList, List.cons_append, List.nil_append, Nat.reduceAdd]
            refine ok_st rfl rfl ?_
            simp only [okS_some, xst, xp0, xp1, xp2, xp3, xp4, xp5, xload, xstore, xget_0, xget_s, xs_0, xs_1n, xs_1i, xs_1r, xs_1u, xs_1l, xs_s, xt_0, xt_1n, xt_1i, xt_1r, xt_1u, xt_1l, xt_s, xisref, xq0, Value.category, xcat, List.map_nil, List.map_cons, List.sum_nil, List.sum_cons, List.length_cons, List.length_nil, List.getElem?_cons_zero, List.getElem?_cons_succ, xmap_s, if_true, and_self, Nat.reduceAdd, Nat.reduceLT, Nat.reduceLeDiff, Nat.reduceEqDiff, Nat.lt_add_one, Nat.zero_le, Nat.le_refl, Nat.le_zero_eq, Nat.zero_lt_succ, xldc, kbm10, kbm9, kbm8, kbm7, kbm6, kbm5, kbm4, kbm3, kbm2, kb6, kb7, kb8, kb9, kb10, kb11, kb16, kb19, kb20, kb30, kb31, kb32, kb34, kb40, kb64, kb100, kb127, kim1, ki0, ki1, ki2, ki3, ki4, ki5, ks128, ks400, ks999, ks1000, ks4010]
            refine ok_bt rfl ?_
            iterate 2 (refine ok_st rfl rfl ?_; simp only [okS_some, xst, xp0, xp1, xp2, xp3, xp4, xp5, xload, xstore, xget_0, xget_s, xs_0, xs_1n, xs_1i, xs_1r, xs_1u, xs_1l, xs_s, xt_0, xt_1n, xt_1i, xt_1r, xt_1u, xt_1l, xt_s, xisref, xq0, Value.category, xcat, List.map_nil, List.map_cons, List.sum_nil, List.sum_cons, List.length_cons, List.length_nil, List.getElem?_cons_zero, List.getElem?_cons_succ, xmap_s, if_true, and_self, Nat.reduceAdd, Nat.reduceLT, Nat.reduceLeDiff, Nat.reduceEqDiff, Nat.lt_add_one, Nat.zero_le, Nat.le_refl, Nat.le_zero_eq, Nat.zero_lt_succ, xldc, kbm10, kbm9, kbm8, kbm7, kbm6, kbm5, kbm4, kbm3, kbm2, kb6, kb7, kb8, kb9, kb10, kb11, kb16, kb19, kb20, kb30, kb31, kb32, kb34, kb40, kb64, kb100, kb127, kim1, ki0, ki1, ki2, ki3, ki4, ki5, ks128, ks400, ks999, ks1000, ks4010])
            refine ok_cm (vs := [_, _]) rfl rfl rfl rfl (Nat.le_of_ble_eq_true rfl) (Nat.le_of_ble_eq_true rfl) (by show xcl0 2 5 _ _ = true; simp [xcl0, w225]) (by decide) hW (ix29 hW (by omega) r3 w225 w226 w218 bl2.1) ?_
            rintro _ h3 ⟨rfl, t', len', g', ht', ⟨hl1, hl2⟩, w0, wt, wg, wn, wo⟩ k229 al230
            have k3m := k229
            dsimp only [Option.toList, List.cons_append, List.nil_append, Nat.reduceAdd]
            have hS2 : cS h216 A M a T := cS_k2 hS hp1 hpa ogp
            have hj2 : jZ h216 := by
              obtain ⟨⟨f6, q6⟩, ⟨f7, q7⟩, ⟨n8, c8, q8⟩, n9, c9, q9⟩ := jZ_c hj
              exact jZ_k hj (ogp 6 (ne_oo q6 hp1 (by decide))) (ogp 7 (ne_oo q7 hp1 (by decide))) (ogp 8 (Ne.symm (ne_oa hp1 q8))) (ogp 9 (Ne.symm (ne_oa hp1 q9)))
            have hfr : fro h216 T (s + 1) t' := ht'.elim Or.inl (fun z => Or.inr (fun p e he => ne_new hW he z))
            have hp1' : h216.2.2 p1 = some (hcl A' M v0 m0) := by
              rw [w218]
              unfold hcl hfl
              simp only [hr0, hr1 s hs rfl, hr2.1, hr2.2.1, hr2.2.2.1, hr2.2.2.2.1, hr2.2.2.2.2.1, hr2.2.2.2.2.2.1, hr2.2.2.2.2.2.2.1, hr2.2.2.2.2.2.2.2]
            obtain ⟨v1, v2, v3, v4⟩ := br_v hS2 hs hp1' hpa hA hr0 w226 hfr wg wn (fun p z1 z2 => wo p z1 z2)
            obtain ⟨f1', f4', q1', q4', rr⟩ := cS_R hS2
            have c689 := jZ_c hj2
            have hj3 : jZ h3 := by
              obtain ⟨⟨f6, q6⟩, ⟨f7, q7⟩, ⟨n8, c8, q8⟩, n9, c9, q9⟩ := c689
              exact jZ_k hj2 (wo 6 (rw_ne (by decide)) (fro_o hS2 (by omega) hfr q6)) (wo 7 (rw_ne (by decide)) (fro_o hS2 (by omega) hfr q7)) (wo 8 (rw_ne (by decide)) (fro_a hS2 (by omega) hfr q8 (by decide))) (wo 9 (rw_ne (by decide)) (fro_a hS2 (by omega) hfr q9 (by decide)))
            obtain ⟨V3, M3, hc3⟩ := ch2 v3
            have hN1 := nx_n hA hr0
            have hdn : dI A' (mst A' s) (M + 1) := dI_nx hA hr0 (hr1 s hs rfl) (hdI s hs) (by rw [hr2.1, hr2.2.1, hr2.2.2.1, hr2.2.2.2.1, hr2.2.2.2.2.1, hr2.2.2.2.2.2.1]; exact ct) (by rw [hr2.1, hr2.2.2.2.2.2.2.1]; exact fun z => cr.elim (fun y => absurd y.1 z) (fun y => by obtain ⟨k, y1, y2, -⟩ := y.2; exact ⟨k, y1, y2⟩))
            have hdf := dI_F hdn
            rw [hN1] at hdf
            have hW2 := hW
            have hW := k229.1
            have w231 := (wo 0 (rw_ne (by decide)) (fro_o hS2 (by omega) hfr w221)).trans w221
            have w232 := (wo 1 (rw_ne (by decide)) (fro_o hS2 (by omega) hfr w223)).trans w223
            have w233 := (wo p1 (ne_oo hp1' (rr s hs).choose_spec (by decide)) (fro_o hS2 (by omega) hfr w218)).trans w218
            have w234 := (wo (T 0) (Ne.symm (ne_oa (rr s hs).choose_spec w224)) (fro_T hS2 (by omega) (by decide) (by omega) hfr)).trans w224
            obtain ⟨j1, j2, j3, j4, j5, j6, j7, j8, c6⟩ := hj3.1
            refine ok_st rfl rfl ?_
            simp only [okS_some, xst, xp0, xp1, xp2, xp3, xp4, xp5, xload, xstore, xget_0, xget_s, xs_0, xs_1n, xs_1i, xs_1r, xs_1u, xs_1l, xs_s, xt_0, xt_1n, xt_1i, xt_1r, xt_1u, xt_1l, xt_s, xisref, xq0, Value.category, xcat, List.map_nil, List.map_cons, List.sum_nil, List.sum_cons, List.length_cons, List.length_nil, List.getElem?_cons_zero, List.getElem?_cons_succ, xmap_s, if_true, and_self, Nat.reduceAdd, Nat.reduceLT, Nat.reduceLeDiff, Nat.reduceEqDiff, Nat.lt_add_one, Nat.zero_le, Nat.le_refl, Nat.le_zero_eq, Nat.zero_lt_succ, xldc, kbm10, kbm9, kbm8, kbm7, kbm6, kbm5, kbm4, kbm3, kbm2, kb6, kb7, kb8, kb9, kb10, kb11, kb16, kb19, kb20, kb30, kb31, kb32, kb34, kb40, kb64, kb100, kb127, kim1, ki0, ki1, ki2, ki3, ki4, ki5, ks128, ks400, ks999, ks1000, ks4010]
            refine ok_st rfl rfl ?_
            simp only [okS_some, xst, xp0, xp1, xp2, xp3, xp4, xp5, xload, xstore, xget_0, xget_s, xs_0, xs_1n, xs_1i, xs_1r, xs_1u, xs_1l, xs_s, xt_0, xt_1n, xt_1i, xt_1r, xt_1u, xt_1l, xt_s, xisref, xq0, Value.category, xcat, List.map_nil, List.map_cons, List.sum_nil, List.sum_cons, List.length_cons, List.length_nil, List.getElem?_cons_zero, List.getElem?_cons_succ, xmap_s, if_true, and_self, Nat.reduceAdd, Nat.reduceLT, Nat.reduceLeDiff, Nat.reduceEqDiff, Nat.lt_add_one, Nat.zero_le, Nat.le_refl, Nat.le_zero_eq, Nat.zero_lt_succ, xldc, kbm10, kbm9, kbm8, kbm7, kbm6, kbm5, kbm4, kbm3, kbm2, kb6, kb7, kb8, kb9, kb10, kb11, kb16, kb19, kb20, kb30, kb31, kb32, kb34, kb40, kb64, kb100, kb127, kim1, ki0, ki1, ki2, ki3, ki4, ki5, ks128, ks400, ks999, ks1000, ks4010, w231]
            iterate 2 (refine ok_st rfl rfl ?_; simp only [okS_some, xst, xp0, xp1, xp2, xp3, xp4, xp5, xload, xstore, xget_0, xget_s, xs_0, xs_1n, xs_1i, xs_1r, xs_1u, xs_1l, xs_s, xt_0, xt_1n, xt_1i, xt_1r, xt_1u, xt_1l, xt_s, xisref, xq0, Value.category, xcat, List.map_nil, List.map_cons, List.sum_nil, List.sum_cons, List.length_cons, List.length_nil, List.getElem?_cons_zero, List.getElem?_cons_succ, xmap_s, if_true, and_self, Nat.reduceAdd, Nat.reduceLT, Nat.reduceLeDiff, Nat.reduceEqDiff, Nat.lt_add_one, Nat.zero_le, Nat.le_refl, Nat.le_zero_eq, Nat.zero_lt_succ, xldc, kbm10, kbm9, kbm8, kbm7, kbm6, kbm5, kbm4, kbm3, kbm2, kb6, kb7, kb8, kb9, kb10, kb11, kb16, kb19, kb20, kb30, kb31, kb32, kb34, kb40, kb64, kb100, kb127, kim1, ki0, ki1, ki2, ki3, ki4, ki5, ks128, ks400, ks999, ks1000, ks4010])
            refine ok_st rfl rfl ?_
            simp only [okS_some, xst, xp0, xp1, xp2, xp3, xp4, xp5, xload, xstore, xget_0, xget_s, xs_0, xs_1n, xs_1i, xs_1r, xs_1u, xs_1l, xs_s, xt_0, xt_1n, xt_1i, xt_1r, xt_1u, xt_1l, xt_s, xisref, xq0, Value.category, xcat, List.map_nil, List.map_cons, List.sum_nil, List.sum_cons, List.length_cons, List.length_nil, List.getElem?_cons_zero, List.getElem?_cons_succ, xmap_s, if_true, and_self, Nat.reduceAdd, Nat.reduceLT, Nat.reduceLeDiff, Nat.reduceEqDiff, Nat.lt_add_one, Nat.zero_le, Nat.le_refl, Nat.le_zero_eq, Nat.zero_lt_succ, xldc, kbm10, kbm9, kbm8, kbm7, kbm6, kbm5, kbm4, kbm3, kbm2, kb6, kb7, kb8, kb9, kb10, kb11, kb16, kb19, kb20, kb30, kb31, kb32, kb34, kb40, kb64, kb100, kb127, kim1, ki0, ki1, ki2, ki3, ki4, ki5, ks128, ks400, ks999, ks1000, ks4010, w0]
            refine ok_cm (vs := [_, _, _]) rfl rfl rfl rfl (Nat.le_of_ble_eq_true rfl) (Nat.le_of_ble_eq_true rfl) (by show xcl0 2 3 _ _ = true; simp [xcl0, c6]) (by decide) hW (ix23 (q := fun k => va_up a M p1 (mix (mst A' s) (M + 1) k)) (F := lF A' (mst A' s) (M + 1)) (V := fun k => V3 (mix (mst A' s) (M + 1) k)) (Mv := fun k => M3 (mix (mst A' s) (M + 1) k)) hW hl1 (by omega) (Nat.le_refl _) v1 v2 w0 wt (fun k hk => hc3 _ (mix_in (by rw [hN1]; exact hk)).1) (fun j hj => (hdf j hj).2.2) hj3) ?_
            rintro _ h4 ⟨w, z8, z9, hz, rfl, hv, hsz, hj4, hc4, ho4⟩ k235 al236
            have k4m := k235
            dsimp only [Option.toList, List.cons_append, List.nil_append, Nat.reduceAdd]
            have hW := k235.1
            have hc5 := brg_c hN1 v3 v4 (jZ_c hj3) (V := (wS (lF A' (mst A' s) (M + 1)) (mcn (mst A s) M + 1) (mcn (mst A s) M + 1)).1) (Mv := sM (fun k => va_up a M p1 (mix (mst A' s) (M + 1) k)) (wS (lF A' (mst A' s) (M + 1)) (mcn (mst A s) M + 1) (mcn (mst A s) M + 1)).2) hc4 ho4
            have nq : ∀ p e, h3.2.2 p = some e → (∀ fs, e ≠ .inr (2, fs)) → ∀ k, k < mcn (mst A s) M + 1 → p ≠ va_up a M p1 (mix (mst A' s) (M + 1) k) := fun p e he hne k hk z => by
              have := hc3 _ (mix_in (by rw [hN1]; exact hk)).1
              rw [← z, he] at this
              cases this
              exact hne _ rfl
            have c689' := jZ_c hj3
            have w237 := (ho4 0 (nq _ _ w231 (fun _ z => by cases z)) (by obtain ⟨⟨f, q⟩, -⟩ := c689'; exact ne_oo w231 q (by decide)) (by obtain ⟨-, -, ⟨n, c, q⟩, -⟩ := c689'; exact ne_oa w231 q) (by obtain ⟨-, -, -, n, c, q⟩ := c689'; exact ne_oa w231 q)).trans w231
            have w238 := (ho4 1 (nq _ _ w232 (fun _ z => by cases z)) (by obtain ⟨⟨f, q⟩, -⟩ := c689'; exact ne_oo w232 q (by decide)) (by obtain ⟨-, -, ⟨n, c, q⟩, -⟩ := c689'; exact ne_oa w232 q) (by obtain ⟨-, -, -, n, c, q⟩ := c689'; exact ne_oa w232 q)).trans w232
            have w239 := (ho4 (T 0) (nq _ _ w234 (fun _ z => by cases z)) (by obtain ⟨⟨f, q⟩, -⟩ := c689'; exact Ne.symm (ne_oa q w234)) (by obtain ⟨-, -, ⟨n, c, q⟩, -⟩ := c689'; exact ne_aa w234 q (by decide)) (by obtain ⟨-, -, -, n, c, q⟩ := c689'; exact ne_aa w234 q (by decide))).trans w234
            have w240 := (ho4 (rw' s) (nq _ _ w0 (fun _ z => by cases z)) (by obtain ⟨⟨f, q⟩, -⟩ := c689'; exact ne_oo w0 q (by decide)) (by obtain ⟨-, -, ⟨n, c, q⟩, -⟩ := c689'; exact ne_oa w0 q) (by obtain ⟨-, -, -, n, c, q⟩ := c689'; exact ne_oa w0 q)).trans w0
            have w241 := (ho4 t' (nq _ _ wt (fun _ z => by cases z)) (by obtain ⟨⟨f, q⟩, -⟩ := c689'; exact Ne.symm (ne_oa q wt)) (by obtain ⟨-, -, ⟨n, c, q⟩, -⟩ := c689'; exact ne_aa wt q (by decide)) (by obtain ⟨-, -, -, n, c, q⟩ := c689'; exact ne_aa wt q (by decide))).trans wt
            obtain ⟨v5, m5, w242⟩ := hc5 M (Nat.lt_succ_self M)
            rw [show va_up a M p1 M = p1 from by simp [va_up]] at w242
            iterate 3 (refine ok_st rfl rfl ?_; simp only [okS_some, xst, xp0, xp1, xp2, xp3, xp4, xp5, xload, xstore, xget_0, xget_s, xs_0, xs_1n, xs_1i, xs_1r, xs_1u, xs_1l, xs_s, xt_0, xt_1n, xt_1i, xt_1r, xt_1u, xt_1l, xt_s, xisref, xq0, Value.category, xcat, List.map_nil, List.map_cons, List.sum_nil, List.sum_cons, List.length_cons, List.length_nil, List.getElem?_cons_zero, List.getElem?_cons_succ, xmap_s, if_true, and_self, Nat.reduceAdd, Nat.reduceLT, Nat.reduceLeDiff, Nat.reduceEqDiff, Nat.lt_add_one, Nat.zero_le, Nat.le_refl, Nat.le_zero_eq, Nat.zero_lt_succ, xldc, kbm10, kbm9, kbm8, kbm7, kbm6, kbm5, kbm4, kbm3, kbm2, kb6, kb7, kb8, kb9, kb10, kb11, kb16, kb19, kb20, kb30, kb31, kb32, kb34, kb40, kb64, kb100, kb127, kim1, ki0, ki1, ki2, ki3, ki4, ki5, ks128, ks400, ks999, ks1000, ks4010])
            refine ok_if (fun cx => ?_) (fun cx => ?_)
            · simp only [xcnd, decide_eq_true_eq, decide_eq_false_iff_not, Bool.not_eq_true', Bool.not_eq_false'] at cx
              refine ok_st rfl rfl ?_
              simp only [okS_some, xst, xp0, xp1, xp2, xp3, xp4, xp5, xload, xstore, xget_0, xget_s, xs_0, xs_1n, xs_1i, xs_1r, xs_1u, xs_1l, xs_s, xt_0, xt_1n, xt_1i, xt_1r, xt_1u, xt_1l, xt_s, xisref, xq0, Value.category, xcat, List.map_nil, List.map_cons, List.sum_nil, List.sum_cons, List.length_cons, List.length_nil, List.getElem?_cons_zero, List.getElem?_cons_succ, xmap_s, if_true, and_self, Nat.reduceAdd, Nat.reduceLT, Nat.reduceLeDiff, Nat.reduceEqDiff, Nat.lt_add_one, Nat.zero_le, Nat.le_refl, Nat.le_zero_eq, Nat.zero_lt_succ, xldc, kbm10, kbm9, kbm8, kbm7, kbm6, kbm5, kbm4, kbm3, kbm2, kb6, kb7, kb8, kb9, kb10, kb11, kb16, kb19, kb20, kb30, kb31, kb32, kb34, kb40, kb64, kb100, kb127, kim1, ki0, ki1, ki2, ki3, ki4, ki5, ks128, ks400, ks999, ks1000, ks4010]
              refine ok_st rfl rfl ?_
              simp only [okS_some, xst, xp0, xp1, xp2, xp3, xp4, xp5, xload, xstore, xget_0, xget_s, xs_0, xs_1n, xs_1i, xs_1r, xs_1u, xs_1l, xs_s, xt_0, xt_1n, xt_1i, xt_1r, xt_1u, xt_1l, xt_s, xisref, xq0, Value.category, xcat, List.map_nil, List.map_cons, List.sum_nil, List.sum_cons, List.length_cons, List.length_nil, List.getElem?_cons_zero, List.getElem?_cons_succ, xmap_s, if_true, and_self, Nat.reduceAdd, Nat.reduceLT, Nat.reduceLeDiff, Nat.reduceEqDiff, Nat.lt_add_one, Nat.zero_le, Nat.le_refl, Nat.le_zero_eq, Nat.zero_lt_succ, xldc, kbm10, kbm9, kbm8, kbm7, kbm6, kbm5, kbm4, kbm3, kbm2, kb6, kb7, kb8, kb9, kb10, kb11, kb16, kb19, kb20, kb30, kb31, kb32, kb34, kb40, kb64, kb100, kb127, kim1, ki0, ki1, ki2, ki3, ki4, ki5, ks128, ks400, ks999, ks1000, ks4010, w237]
              refine ok_st rfl rfl ?_
              simp only [okS_some, xst, xp0, xp1, xp2, xp3, xp4, xp5, xload, xstore, xget_0, xget_s, xs_0, xs_1n, xs_1i, xs_1r, xs_1u, xs_1l, xs_s, xt_0, xt_1n, xt_1i, xt_1r, xt_1u, xt_1l, xt_s, xisref, xq0, Value.category, xcat, List.map_nil, List.map_cons, List.sum_nil, List.sum_cons, List.length_cons, List.length_nil, List.getElem?_cons_zero, List.getElem?_cons_succ, xmap_s, if_true, and_self, Nat.reduceAdd, Nat.reduceLT, Nat.reduceLeDiff, Nat.reduceEqDiff, Nat.lt_add_one, Nat.zero_le, Nat.le_refl, Nat.le_zero_eq, Nat.zero_lt_succ, xldc, kbm10, kbm9, kbm8, kbm7, kbm6, kbm5, kbm4, kbm3, kbm2, kb6, kb7, kb8, kb9, kb10, kb11, kb16, kb19, kb20, kb30, kb31, kb32, kb34, kb40, kb64, kb100, kb127, kim1, ki0, ki1, ki2, ki3, ki4, ki5, ks128, ks400, ks999, ks1000, ks4010]
              refine ok_cm (vs := [_, _]) rfl rfl rfl rfl (Nat.le_of_ble_eq_true rfl) (Nat.le_of_ble_eq_true rfl) (by show xcl0 2 5 _ _ = true; simp [xcl0, w238]) (by decide) hW (ix29 hW (by omega) e3 w238 w239 w242 bl1.1) ?_
              rintro _ h5 ⟨rfl, u', ul, ug, hu', ⟨hu1, hu2⟩, u0, ut, uu, un, uo⟩ k243 al244
              dsimp only [Option.toList, List.cons_append, List.nil_append, Nat.reduceAdd]
              have hu' : u' = T 0 ∨ u' = h4.1 := hu'
              have nuo : ∀ {p c : Nat} {fs : List Value}, h4.2.2 p = some (.inr (c, fs)) → p ≠ u' := fun he => by
                rcases hu' with y | y
                · rw [y]; exact ne_oa he w239
                · exact ne_new hW he y
              have npu : p1 ≠ u' := nuo w242
              have w245 := (uo p1 (ne_oo w242 w238 (by decide)) npu).trans w242
              refine ok_st rfl rfl ?_
              simp only [okS_some, xst, xp0, xp1, xp2, xp3, xp4, xp5, xload, xstore, xget_0, xget_s, xs_0, xs_1n, xs_1i, xs_1r, xs_1u, xs_1l, xs_s, xt_0, xt_1n, xt_1i, xt_1r, xt_1u, xt_1l, xt_s, xisref, xq0, Value.category, xcat, List.map_nil, List.map_cons, List.sum_nil, List.sum_cons, List.length_cons, List.length_nil, List.getElem?_cons_zero, List.getElem?_cons_succ, xmap_s, if_true, and_self, Nat.reduceAdd, Nat.reduceLT, Nat.reduceLeDiff, Nat.reduceEqDiff, Nat.lt_add_one, Nat.zero_le, Nat.le_refl, Nat.le_zero_eq, Nat.zero_lt_succ, xldc, kbm10, kbm9, kbm8, kbm7, kbm6, kbm5, kbm4, kbm3, kbm2, kb6, kb7, kb8, kb9, kb10, kb11, kb16, kb19, kb20, kb30, kb31, kb32, kb34, kb40, kb64, kb100, kb127, kim1, ki0, ki1, ki2, ki3, ki4, ki5, ks128, ks400, ks999, ks1000, ks4010]
              refine ok_st rfl rfl ?_
              simp only [okS_some, xst, xp0, xp1, xp2, xp3, xp4, xp5, xload, xstore, xget_0, xget_s, xs_0, xs_1n, xs_1i, xs_1r, xs_1u, xs_1l, xs_s, xt_0, xt_1n, xt_1i, xt_1r, xt_1u, xt_1l, xt_s, xisref, xq0, Value.category, xcat, List.map_nil, List.map_cons, List.sum_nil, List.sum_cons, List.length_cons, List.length_nil, List.getElem?_cons_zero, List.getElem?_cons_succ, xmap_s, if_true, and_self, Nat.reduceAdd, Nat.reduceLT, Nat.reduceLeDiff, Nat.reduceEqDiff, Nat.lt_add_one, Nat.zero_le, Nat.le_refl, Nat.le_zero_eq, Nat.zero_lt_succ, xldc, kbm10, kbm9, kbm8, kbm7, kbm6, kbm5, kbm4, kbm3, kbm2, kb6, kb7, kb8, kb9, kb10, kb11, kb16, kb19, kb20, kb30, kb31, kb32, kb34, kb40, kb64, kb100, kb127, kim1, ki0, ki1, ki2, ki3, ki4, ki5, ks128, ks400, ks999, ks1000, ks4010, w245]
              refine ok_r1 rfl rfl rfl rfl ?_
              try dsimp only
              refine ⟨_, rfl, Or.inr ⟨s, hs, rfl, ct, ?_⟩⟩
              refine Or.inr ⟨by first | exact Or.inl c25 | exact Or.inr c33, ?_⟩
              have hlt : M < 400 := by rw [show (400 : Int32) = nI 400 from rfl, nI_ltI (by omega) (by decide)] at c49; exact c49
              have fr : ∀ p e, h216.2.2 p = some e → (∀ fs, e ≠ .inr (2, fs)) → p ≠ 6 → p ≠ 8 → p ≠ 9 → p ≠ 1 → p ≠ rw' s → p ≠ t' → p ≠ u' → h5.2.2 p = some e := fun p e he z2 z6 z8 z9 z1 zr zt zu => by
                have y3 := (wo p zr zt).trans he
                have y4 := (ho4 p (nq p e y3 z2) z6 z8 z9).trans y3
                exact (uo p z1 zu).trans y4
              have hfu : fro h216 T 0 u' := hu'.elim Or.inl (fun y => Or.inr (fun p e he z => by
                have b1 := (hW2 p e he).1
                have b2 : h216.1 ≤ h4.1 := Nat.le_trans (show h216.1 ≤ h3.1 from k3m.2.1.1) (show h3.1 ≤ h4.1 from k4m.2.1.1)
                omega))
              have ntu : t' ≠ u' := by
                rcases hu' with y | y
                · rw [y]; exact Ne.symm (fro_T hS2 (by omega) (by decide) (by omega) hfr)
                · exact ne_new hW w241 y
              have wr' := (uo (rw' s) (Ne.symm (rw_ne (by decide))) (nuo w240)).trans w240
              have wt' := (uo t' (Ne.symm (ne_oa w238 w241)) ntu).trans w241
              have wc : ∃ (V : Nat → Int32) (Mv : Nat → Value), ∀ n, n < M + 1 → h5.2.2 (va_up a M p1 n) = some (hcl A' n (V n) (Mv n)) := ch2 (M := M + 1) (P := fun n v m => h5.2.2 (va_up a M p1 n) = some (hcl A' n v m)) (fun n hn => by
                obtain ⟨v, m, q⟩ := hc5 n hn
                exact ⟨v, m, (uo _ (ne_oo q w238 (by decide)) (nuo q)).trans q⟩)
              have hcS := cS_row (A' := A') (M' := M + 1) (a' := va_up a M p1) (u := u') (N' := mcn (mst A s) M + 1) hS2 hs hfr hfu ntu (fun s' hs' hne => ⟨(nx_o hA hr0 hs hs' hne).1, fun n hn hm => by
                obtain ⟨y1, y2, y3⟩ := (nx_o hA hr0 hs hs' hne).2 n hn hm
                exact ⟨y1, y2, y3, by simp only [va_up]; rw [if_neg (by omega)]⟩⟩) u0 ⟨_, _, ut, hu1, fun n hn => ?_⟩ wr' hN1.symm ⟨_, _, wt', hl1, fun n hn hm => ?_⟩ wc v4 fr ⟨c689.1, c689.2.2⟩
              · refine Or.inr ⟨hlt, Or.inr ⟨cr, w, z8, z9, hz, hv, Or.inr ⟨cx, rfl, _, hcS, ?_, (fK_p hp1 ogp).tr (fK_r hS2 hs hj2 hfr hfu fr)⟩⟩⟩
                have nu : ∀ p e, h4.2.2 p = some e → (∀ n c, e ≠ .inl (7, n, c)) → p ≠ u' := fun p e he hne z => by
                  rcases hu' with y | y
                  · rw [z, y, w239] at he; cases he; exact hne _ _ rfl
                  · exact ne_new hW he y z
                obtain ⟨⟨f6, q6⟩, ⟨f7, q7⟩, ⟨n8, c8, q8⟩, n9, c9, q9⟩ := jZ_c hj4
                exact jZ_k hj4 (uo 6 (by decide) (nu 6 _ q6 (fun _ _ z => by cases z))) (uo 7 (by decide) (nu 7 _ q7 (fun _ _ z => by cases z))) (uo 8 (by decide) (nu 8 _ q8 (fun _ _ z => by cases z))) (uo 9 (by decide) (nu 9 _ q9 (fun _ _ z => by cases z)))
              · by_cases hz2 : n = M
                · subst hz2; rw [un]; simp [va_up]
                · rw [uu n (by omega), e4 n (by omega)]
                  simp only [va_up]
                  rw [if_neg hz2]
              · have hkk : mcn (mst A' s) n < mcn (mst A s) M + 1 := by rw [← hN1]; exact mcn_lt _ hn hm
                rw [v1 _ hkk, mix_at hm hn]
            · simp only [xcnd, decide_eq_true_eq, decide_eq_false_iff_not, Bool.not_eq_true', Bool.not_eq_false'] at cx
              refine ok_st rfl rfl ?_
              simp only [okS_some, xst, xp0, xp1, xp2, xp3, xp4, xp5, xload, xstore, xget_0, xget_s, xs_0, xs_1n, xs_1i, xs_1r, xs_1u, xs_1l, xs_s, xt_0, xt_1n, xt_1i, xt_1r, xt_1u, xt_1l, xt_s, xisref, xq0, Value.category, xcat, List.map_nil, List.map_cons, List.sum_nil, List.sum_cons, List.length_cons, List.length_nil, List.getElem?_cons_zero, List.getElem?_cons_succ, xmap_s, if_true, and_self, Nat.reduceAdd, Nat.reduceLT, Nat.reduceLeDiff, Nat.reduceEqDiff, Nat.lt_add_one, Nat.zero_le, Nat.le_refl, Nat.le_zero_eq, Nat.zero_lt_succ, xldc, kbm10, kbm9, kbm8, kbm7, kbm6, kbm5, kbm4, kbm3, kbm2, kb6, kb7, kb8, kb9, kb10, kb11, kb16, kb19, kb20, kb30, kb31, kb32, kb34, kb40, kb64, kb100, kb127, kim1, ki0, ki1, ki2, ki3, ki4, ki5, ks128, ks400, ks999, ks1000, ks4010]
              refine ok_cm (vs := [_]) rfl rfl rfl rfl (Nat.le_of_ble_eq_true rfl) (Nat.le_of_ble_eq_true rfl) (by show xcl0 2 5 _ _ = true; simp [xcl0, w240]) (by decide) hW (ix30 (N := mcn (mst A s) M) hW (by omega) hl1 w240 w241) ?_
              rintro _ h5 ⟨rfl, d0, dt, dof⟩ k246 al247
              dsimp only [Option.toList, List.cons_append, List.nil_append, Nat.reduceAdd]
              refine ok_st rfl rfl ?_
              simp only [okS_some, xst, xp0, xp1, xp2, xp3, xp4, xp5, xload, xstore, xget_0, xget_s, xs_0, xs_1n, xs_1i, xs_1r, xs_1u, xs_1l, xs_s, xt_0, xt_1n, xt_1i, xt_1r, xt_1u, xt_1l, xt_s, xisref, xq0, Value.category, xcat, List.map_nil, List.map_cons, List.sum_nil, List.sum_cons, List.length_cons, List.length_nil, List.getElem?_cons_zero, List.getElem?_cons_succ, xmap_s, if_true, and_self, Nat.reduceAdd, Nat.reduceLT, Nat.reduceLeDiff, Nat.reduceEqDiff, Nat.lt_add_one, Nat.zero_le, Nat.le_refl, Nat.le_zero_eq, Nat.zero_lt_succ, xldc, kbm10, kbm9, kbm8, kbm7, kbm6, kbm5, kbm4, kbm3, kbm2, kb6, kb7, kb8, kb9, kb10, kb11, kb16, kb19, kb20, kb30, kb31, kb32, kb34, kb40, kb64, kb100, kb127, kim1, ki0, ki1, ki2, ki3, ki4, ki5, ks128, ks400, ks999, ks1000, ks4010]
              refine ok_r1 rfl rfl rfl rfl ?_
              try dsimp only
              refine ⟨_, rfl, Or.inr ⟨s, hs, rfl, ct, ?_⟩⟩
              refine Or.inr ⟨by first | exact Or.inl c25 | exact Or.inr c33, ?_⟩
              have hlt : M < 400 := by rw [show (400 : Int32) = nI 400 from rfl, nI_ltI (by omega) (by decide)] at c49; exact c49
              have fr : ∀ p e, h216.2.2 p = some e → (∀ fs, e ≠ .inr (2, fs)) → p ≠ 6 → p ≠ 8 → p ≠ 9 → p ≠ 1 → p ≠ rw' s → p ≠ t' → p ≠ (T 0) → h5.2.2 p = some e := fun p e he z2 z6 z8 z9 z1 zr zt zu => by
                have y3 := (wo p zr zt).trans he
                have y4 := (ho4 p (nq p e y3 z2) z6 z8 z9).trans y3
                exact (dof p zr zt).trans y4
              have nTt : T 0 ≠ t' := fro_T hS2 (by omega) (by decide) (by omega) hfr
              have w1' := (dof 1 (rw_ne (by decide)) (ne_oa w238 w241)).trans w238
              have wu' := (dof (T 0) (Ne.symm (ne_oa w240 w239)) nTt).trans w239
              have wc : ∃ (V : Nat → Int32) (Mv : Nat → Value), ∀ n, n < M → h5.2.2 (a n) = some (hcl A n (V n) (Mv n)) := ch2 (M := M) (P := fun n v m => h5.2.2 (a n) = some (hcl A n v m)) (fun n hn => by
                obtain ⟨v, m, q⟩ := hc5 n (by omega)
                rw [show va_up a M p1 n = a n by simp only [va_up]; rw [if_neg (by omega)]] at q
                refine ⟨v, m, ((dof _ (ne_oo q w240 (by decide)) (ne_oa q w241)).trans q).trans ?_⟩
                simp only [hcl, hfl_c hA hn])
              have hcS := cS_row (A' := A) (M' := M) (a' := a) (u := T 0) (N' := mcn (mst A s) M) hS2 hs hfr (Or.inl rfl) (Ne.symm nTt) (fun s' hs' hne => ⟨rfl, fun n hn hm => ⟨hn, hm, rfl, rfl⟩⟩) w1' ⟨_, _, wu', e3, e4⟩ d0 rfl ⟨_, _, dt, by omega, fun n hn hm => ?_⟩ wc hinj fr ⟨c689.1, c689.2.2⟩
              · refine Or.inr ⟨hlt, Or.inr ⟨cr, w, z8, z9, hz, hv, Or.inl ⟨cx, rfl, _, hcS, ?_, (fK_p hp1 ogp).tr (fK_r hS2 hs hj2 hfr (Or.inl rfl) fr)⟩⟩⟩
                obtain ⟨⟨f6, q6⟩, ⟨f7, q7⟩, ⟨n8, c8, q8⟩, n9, c9, q9⟩ := jZ_c hj4
                exact jZ_k hj4 (dof 6 (rw_ne (by decide)) (ne_oa q6 w241)) (dof 7 (rw_ne (by decide)) (ne_oa q7 w241)) (dof 8 (rw_ne (by decide)) (ne_aa q8 w241 (by decide))) (dof 9 (rw_ne (by decide)) (ne_aa q9 w241 (by decide)))
              · have hlt2 := mcn_lt _ hn hm
                simp only [va_up]
                rw [if_neg (by omega), wg _ hlt2]
                exact r4 n hn hm
          · dsimp only [Option.toList, List.cons_append, List.nil_append, Nat.reduceAdd]
            refine ok_st rfl rfl ?_
            simp only [okS_some, xst, xp0, xp1, xp2, xp3, xp4, xp5, xload, xstore, xget_0, xget_s, xs_0, xs_1n, xs_1i, xs_1r, xs_1u, xs_1l, xs_s, xt_0, xt_1n, xt_1i, xt_1r, xt_1u, xt_1l, xt_s, xisref, xq0, Value.category, xcat, List.map_nil, List.map_cons, List.sum_nil, List.sum_cons, List.length_cons, List.length_nil, List.getElem?_cons_zero, List.getElem?_cons_succ, xmap_s, if_true, and_self, Nat.reduceAdd, Nat.reduceLT, Nat.reduceLeDiff, Nat.reduceEqDiff, Nat.lt_add_one, Nat.zero_le, Nat.le_refl, Nat.le_zero_eq, Nat.zero_lt_succ, xldc, kbm10, kbm9, kbm8, kbm7, kbm6, kbm5, kbm4, kbm3, kbm2, kb6, kb7, kb8, kb9, kb10, kb11, kb16, kb19, kb20, kb30, kb31, kb32, kb34, kb40, kb64, kb100, kb127, kim1, ki0, ki1, ki2, ki3, ki4, ki5, ks128, ks400, ks999, ks1000, ks4010]
            refine ok_bf rfl ?_
            refine ok_st rfl rfl ?_
            simp only [okS_some, xst, xp0, xp1, xp2, xp3, xp4, xp5, xload, xstore, xget_0, xget_s, xs_0, xs_1n, xs_1i, xs_1r, xs_1u, xs_1l, xs_s, xt_0, xt_1n, xt_1i, xt_1r, xt_1u, xt_1l, xt_s, xisref, xq0, Value.category, xcat, List.map_nil, List.map_cons, List.sum_nil, List.sum_cons, List.length_cons, List.length_nil, List.getElem?_cons_zero, List.getElem?_cons_succ, xmap_s, if_true, and_self, Nat.reduceAdd, Nat.reduceLT, Nat.reduceLeDiff, Nat.reduceEqDiff, Nat.lt_add_one, Nat.zero_le, Nat.le_refl, Nat.le_zero_eq, Nat.zero_lt_succ, xldc, kbm10, kbm9, kbm8, kbm7, kbm6, kbm5, kbm4, kbm3, kbm2, kb6, kb7, kb8, kb9, kb10, kb11, kb16, kb19, kb20, kb30, kb31, kb32, kb34, kb40, kb64, kb100, kb127, kim1, ki0, ki1, ki2, ki3, ki4, ki5, ks128, ks400, ks999, ks1000, ks4010]
            refine ok_r1 rfl rfl rfl rfl ?_
            try dsimp only
            refine ⟨_, rfl, Or.inr ⟨s, hs, rfl, ct, ?_⟩⟩
            refine Or.inr ⟨by first | exact Or.inl c25 | exact Or.inr c33, ?_⟩
            have hlt : M < 400 := by rw [show (400 : Int32) = nI 400 from rfl, nI_ltI (by omega) (by decide)] at c49; exact c49
            exact Or.inr ⟨hlt, Or.inl ⟨rfl, cr, T, cS_k2 hS hp1 hpa ogp, by
              obtain ⟨⟨f6, q6⟩, ⟨f7, q7⟩, ⟨n8, c8, q8⟩, n9, c9, q9⟩ := jZ_c hj
              exact jZ_k hj (ogp 6 (ne_oo q6 hp1 (by decide))) (ogp 7 (ne_oo q7 hp1 (by decide))) (ogp 8 (Ne.symm (ne_oa hp1 q8))) (ogp 9 (Ne.symm (ne_oa hp1 q9))), fK_p hp1 ogp⟩⟩
        · simp only [xcnd, decide_eq_true_eq, decide_eq_false_iff_not, Bool.not_eq_true', Bool.not_eq_false'] at c49
          refine ok_st rfl rfl ?_
          simp only [okS_some, xst, xp0, xp1, xp2, xp3, xp4, xp5, xload, xstore, xget_0, xget_s, xs_0, xs_1n, xs_1i, xs_1r, xs_1u, xs_1l, xs_s, xt_0, xt_1n, xt_1i, xt_1r, xt_1u, xt_1l, xt_s, xisref, xq0, Value.category, xcat, List.map_nil, List.map_cons, List.sum_nil, List.sum_cons, List.length_cons, List.length_nil, List.getElem?_cons_zero, List.getElem?_cons_succ, xmap_s, if_true, and_self, Nat.reduceAdd, Nat.reduceLT, Nat.reduceLeDiff, Nat.reduceEqDiff, Nat.lt_add_one, Nat.zero_le, Nat.le_refl, Nat.le_zero_eq, Nat.zero_lt_succ, xldc, kbm10, kbm9, kbm8, kbm7, kbm6, kbm5, kbm4, kbm3, kbm2, kb6, kb7, kb8, kb9, kb10, kb11, kb16, kb19, kb20, kb30, kb31, kb32, kb34, kb40, kb64, kb100, kb127, kim1, ki0, ki1, ki2, ki3, ki4, ki5, ks128, ks400, ks999, ks1000, ks4010]
          refine ok_r1 rfl rfl rfl rfl ?_
          try dsimp only
          refine ⟨_, rfl, Or.inr ⟨s, hs, rfl, ct, ?_⟩⟩
          refine Or.inr ⟨by first | exact Or.inl c25 | exact Or.inr c33, ?_⟩
          exact Or.inl ⟨rfl, by rw [show (400 : Int32) = nI 400 from rfl, nI_ltI (by omega) (by decide)] at c49; exact c49, rfl⟩
      · simp only [xcnd, decide_eq_true_eq, decide_eq_false_iff_not, Bool.not_eq_true', Bool.not_eq_false'] at c25
        iterate 2 (refine ok_st rfl rfl ?_; simp only [okS_some, xst, xp0, xp1, xp2, xp3, xp4, xp5, xload, xstore, xget_0, xget_s, xs_0, xs_1n, xs_1i, xs_1r, xs_1u, xs_1l, xs_s, xt_0, xt_1n, xt_1i, xt_1r, xt_1u, xt_1l, xt_s, xisref, xq0, Value.category, xcat, List.map_nil, List.map_cons, List.sum_nil, List.sum_cons, List.length_cons, List.length_nil, List.getElem?_cons_zero, List.getElem?_cons_succ, xmap_s, if_true, and_self, Nat.reduceAdd, Nat.reduceLT, Nat.reduceLeDiff, Nat.reduceEqDiff, Nat.lt_add_one, Nat.zero_le, Nat.le_refl, Nat.le_zero_eq, Nat.zero_lt_succ, xldc, kbm10, kbm9, kbm8, kbm7, kbm6, kbm5, kbm4, kbm3, kbm2, kb6, kb7, kb8, kb9, kb10, kb11, kb16, kb19, kb20, kb30, kb31, kb32, kb34, kb40, kb64, kb100, kb127, kim1, ki0, ki1, ki2, ki3, ki4, ki5, ks128, ks400, ks999, ks1000, ks4010])
        refine ok_st rfl rfl ?_
        simp only [okS_some, xst, xp0, xp1, xp2, xp3, xp4, xp5, xload, xstore, xget_0, xget_s, xs_0, xs_1n, xs_1i, xs_1r, xs_1u, xs_1l, xs_s, xt_0, xt_1n, xt_1i, xt_1r, xt_1u, xt_1l, xt_s, xisref, xq0, Value.category, xcat, List.map_nil, List.map_cons, List.sum_nil, List.sum_cons, List.length_cons, List.length_nil, List.getElem?_cons_zero, List.getElem?_cons_succ, xmap_s, if_true, and_self, Nat.reduceAdd, Nat.reduceLT, Nat.reduceLeDiff, Nat.reduceEqDiff, Nat.lt_add_one, Nat.zero_le, Nat.le_refl, Nat.le_zero_eq, Nat.zero_lt_succ, xldc, kbm10, kbm9, kbm8, kbm7, kbm6, kbm5, kbm4, kbm3, kbm2, kb6, kb7, kb8, kb9, kb10, kb11, kb16, kb19, kb20, kb30, kb31, kb32, kb34, kb40, kb64, kb100, kb127, kim1, ki0, ki1, ki2, ki3, ki4, ki5, ks128, ks400, ks999, ks1000, ks4010, r1]
        refine ok_st rfl rfl ?_
        simp only [okS_some, xst, xp0, xp1, xp2, xp3, xp4, xp5, xload, xstore, xget_0, xget_s, xs_0, xs_1n, xs_1i, xs_1r, xs_1u, xs_1l, xs_s, xt_0, xt_1n, xt_1i, xt_1r, xt_1u, xt_1l, xt_s, xisref, xq0, Value.category, xcat, List.map_nil, List.map_cons, List.sum_nil, List.sum_cons, List.length_cons, List.length_nil, List.getElem?_cons_zero, List.getElem?_cons_succ, xmap_s, if_true, and_self, Nat.reduceAdd, Nat.reduceLT, Nat.reduceLeDiff, Nat.reduceEqDiff, Nat.lt_add_one, Nat.zero_le, Nat.le_refl, Nat.le_zero_eq, Nat.zero_lt_succ, xldc, kbm10, kbm9, kbm8, kbm7, kbm6, kbm5, kbm4, kbm3, kbm2, kb6, kb7, kb8, kb9, kb10, kb11, kb16, kb19, kb20, kb30, kb31, kb32, kb34, kb40, kb64, kb100, kb127, kim1, ki0, ki1, ki2, ki3, ki4, ki5, ks128, ks400, ks999, ks1000, ks4010]
        refine ok_if (fun c33 => ?_) (fun c33 => ?_)
        · simp only [xcnd, decide_eq_true_eq, decide_eq_false_iff_not, Bool.not_eq_true', Bool.not_eq_false'] at c33
          refine ok_st rfl rfl ?_
          simp only [okS_some, xst, xp0, xp1, xp2, xp3, xp4, xp5, xload, xstore, xget_0, xget_s, xs_0, xs_1n, xs_1i, xs_1r, xs_1u, xs_1l, xs_s, xt_0, xt_1n, xt_1i, xt_1r, xt_1u, xt_1l, xt_s, xisref, xq0, Value.category, xcat, List.map_nil, List.map_cons, List.sum_nil, List.sum_cons, List.length_cons, List.length_nil, List.getElem?_cons_zero, List.getElem?_cons_succ, xmap_s, if_true, and_self, Nat.reduceAdd, Nat.reduceLT, Nat.reduceLeDiff, Nat.reduceEqDiff, Nat.lt_add_one, Nat.zero_le, Nat.le_refl, Nat.le_zero_eq, Nat.zero_lt_succ, xldc, kbm10, kbm9, kbm8, kbm7, kbm6, kbm5, kbm4, kbm3, kbm2, kb6, kb7, kb8, kb9, kb10, kb11, kb16, kb19, kb20, kb30, kb31, kb32, kb34, kb40, kb64, kb100, kb127, kim1, ki0, ki1, ki2, ki3, ki4, ki5, ks128, ks400, ks999, ks1000, ks4010]
          refine ok_st rfl rfl ?_
          simp only [okS_some, xst, xp0, xp1, xp2, xp3, xp4, xp5, xload, xstore, xget_0, xget_s, xs_0, xs_1n, xs_1i, xs_1r, xs_1u, xs_1l, xs_s, xt_0, xt_1n, xt_1i, xt_1r, xt_1u, xt_1l, xt_s, xisref, xq0, Value.category, xcat, List.map_nil, List.map_cons, List.sum_nil, List.sum_cons, List.length_cons, List.length_nil, List.getElem?_cons_zero, List.getElem?_cons_succ, xmap_s, if_true, and_self, Nat.reduceAdd, Nat.reduceLT, Nat.reduceLeDiff, Nat.reduceEqDiff, Nat.lt_add_one, Nat.zero_le, Nat.le_refl, Nat.le_zero_eq, Nat.zero_lt_succ, xldc, kbm10, kbm9, kbm8, kbm7, kbm6, kbm5, kbm4, kbm3, kbm2, kb6, kb7, kb8, kb9, kb10, kb11, kb16, kb19, kb20, kb30, kb31, kb32, kb34, kb40, kb64, kb100, kb127, kim1, ki0, ki1, ki2, ki3, ki4, ki5, ks128, ks400, ks999, ks1000, ks4010, h0]
          refine ok_st rfl rfl ?_
          simp only [okS_some, xst, xp0, xp1, xp2, xp3, xp4, xp5, xload, xstore, xget_0, xget_s, xs_0, xs_1n, xs_1i, xs_1r, xs_1u, xs_1l, xs_s, xt_0, xt_1n, xt_1i, xt_1r, xt_1u, xt_1l, xt_s, xisref, xq0, Value.category, xcat, List.map_nil, List.map_cons, List.sum_nil, List.sum_cons, List.length_cons, List.length_nil, List.getElem?_cons_zero, List.getElem?_cons_succ, xmap_s, if_true, and_self, Nat.reduceAdd, Nat.reduceLT, Nat.reduceLeDiff, Nat.reduceEqDiff, Nat.lt_add_one, Nat.zero_le, Nat.le_refl, Nat.le_zero_eq, Nat.zero_lt_succ, xldc, kbm10, kbm9, kbm8, kbm7, kbm6, kbm5, kbm4, kbm3, kbm2, kb6, kb7, kb8, kb9, kb10, kb11, kb16, kb19, kb20, kb30, kb31, kb32, kb34, kb40, kb64, kb100, kb127, kim1, ki0, ki1, ki2, ki3, ki4, ki5, ks128, ks400, ks999, ks1000, ks4010, e1]
          iterate 2 (refine ok_st rfl rfl ?_; simp only [okS_some, xst, xp0, xp1, xp2, xp3, xp4, xp5, xload, xstore, xget_0, xget_s, xs_0, xs_1n, xs_1i, xs_1r, xs_1u, xs_1l, xs_s, xt_0, xt_1n, xt_1i, xt_1r, xt_1u, xt_1l, xt_s, xisref, xq0, Value.category, xcat, List.map_nil, List.map_cons, List.sum_nil, List.sum_cons, List.length_cons, List.length_nil, List.getElem?_cons_zero, List.getElem?_cons_succ, xmap_s, if_true, and_self, Nat.reduceAdd, Nat.reduceLT, Nat.reduceLeDiff, Nat.reduceEqDiff, Nat.lt_add_one, Nat.zero_le, Nat.le_refl, Nat.le_zero_eq, Nat.zero_lt_succ, xldc, kbm10, kbm9, kbm8, kbm7, kbm6, kbm5, kbm4, kbm3, kbm2, kb6, kb7, kb8, kb9, kb10, kb11, kb16, kb19, kb20, kb30, kb31, kb32, kb34, kb40, kb64, kb100, kb127, kim1, ki0, ki1, ki2, ki3, ki4, ki5, ks128, ks400, ks999, ks1000, ks4010])
          refine ok_if (fun c49 => ?_) (fun c49 => ?_)
          · simp only [xcnd, decide_eq_true_eq, decide_eq_false_iff_not, Bool.not_eq_true', Bool.not_eq_false'] at c49
            iterate 2 (refine ok_st rfl rfl ?_; simp only [okS_some, xst, xp0, xp1, xp2, xp3, xp4, xp5, xload, xstore, xget_0, xget_s, xs_0, xs_1n, xs_1i, xs_1r, xs_1u, xs_1l, xs_s, xt_0, xt_1n, xt_1i, xt_1r, xt_1u, xt_1l, xt_s, xisref, xq0, Value.category, xcat, List.map_nil, List.map_cons, List.sum_nil, List.sum_cons, List.length_cons, List.length_nil, List.getElem?_cons_zero, List.getElem?_cons_succ, xmap_s, if_true, and_self, Nat.reduceAdd, Nat.reduceLT, Nat.reduceLeDiff, Nat.reduceEqDiff, Nat.lt_add_one, Nat.zero_le, Nat.le_refl, Nat.le_zero_eq, Nat.zero_lt_succ, xldc, kbm10, kbm9, kbm8, kbm7, kbm6, kbm5, kbm4, kbm3, kbm2, kb6, kb7, kb8, kb9, kb10, kb11, kb16, kb19, kb20, kb30, kb31, kb32, kb34, kb40, kb64, kb100, kb127, kim1, ki0, ki1, ki2, ki3, ki4, ki5, ks128, ks400, ks999, ks1000, ks4010])
            refine ok_st rfl rfl ?_
            simp only [okS_some, xst, xp0, xp1, xp2, xp3, xp4, xp5, xload, xstore, xget_0, xget_s, xs_0, xs_1n, xs_1i, xs_1r, xs_1u, xs_1l, xs_s, xt_0, xt_1n, xt_1i, xt_1r, xt_1u, xt_1l, xt_s, xisref, xq0, Value.category, xcat, List.map_nil, List.map_cons, List.sum_nil, List.sum_cons, List.length_cons, List.length_nil, List.getElem?_cons_zero, List.getElem?_cons_succ, xmap_s, if_true, and_self, Nat.reduceAdd, Nat.reduceLT, Nat.reduceLeDiff, Nat.reduceEqDiff, Nat.lt_add_one, Nat.zero_le, Nat.le_refl, Nat.le_zero_eq, Nat.zero_lt_succ, xldc, kbm10, kbm9, kbm8, kbm7, kbm6, kbm5, kbm4, kbm3, kbm2, kb6, kb7, kb8, kb9, kb10, kb11, kb16, kb19, kb20, kb30, kb31, kb32, kb34, kb40, kb64, kb100, kb127, kim1, ki0, ki1, ki2, ki3, ki4, ki5, ks128, ks400, ks999, ks1000, ks4010, h0]
            refine ok_st rfl rfl ?_
            simp only [okS_some, xst, xp0, xp1, xp2, xp3, xp4, xp5, xload, xstore, xget_0, xget_s, xs_0, xs_1n, xs_1i, xs_1r, xs_1u, xs_1l, xs_s, xt_0, xt_1n, xt_1i, xt_1r, xt_1u, xt_1l, xt_s, xisref, xq0, Value.category, xcat, List.map_nil, List.map_cons, List.sum_nil, List.sum_cons, List.length_cons, List.length_nil, List.getElem?_cons_zero, List.getElem?_cons_succ, xmap_s, if_true, and_self, Nat.reduceAdd, Nat.reduceLT, Nat.reduceLeDiff, Nat.reduceEqDiff, Nat.lt_add_one, Nat.zero_le, Nat.le_refl, Nat.le_zero_eq, Nat.zero_lt_succ, xldc, kbm10, kbm9, kbm8, kbm7, kbm6, kbm5, kbm4, kbm3, kbm2, kb6, kb7, kb8, kb9, kb10, kb11, kb16, kb19, kb20, kb30, kb31, kb32, kb34, kb40, kb64, kb100, kb127, kim1, ki0, ki1, ki2, ki3, ki4, ki5, ks128, ks400, ks999, ks1000, ks4010, e1]
            refine ok_pf rfl hW hp1 (Nat.le_of_ble_eq_true rfl) rfl rfl ?_
            intro h248 k249 w250 s251 og252
            dsimp only [List.set, Nat.reduceAdd] at w250 ⊢
            have hW := k249.1
            have w253 := (og252 0 (ne_oo h0 hp1 (by decide))).trans h0
            have w254 := (og252 3 (Ne.symm (ne_oa hp1 f1))).trans f1
            have w255 := (og252 1 (ne_oo e1 hp1 (by decide))).trans e1
            have w256 := (og252 (T 0) (Ne.symm (ne_oa hp1 e2))).trans e2
            have w257 := (og252 (rw' s) (ne_oo r1 hp1 (by decide))).trans r1
            have w258 := (og252 (T (s + 1)) (Ne.symm (ne_oa hp1 r2))).trans r2
            have hk2 := fun k (hk : k < (mcn (mst A s) M)) => (og252 _ (Ne.symm (hpa _ (mix_in hk).1))).trans (hk2 k hk)
            have ogp := og252
            iterate 2 (refine ok_st rfl rfl ?_; simp only [okS_some, xst, xp0, xp1, xp2, xp3, xp4, xp5, xload, xstore, xget_0, xget_s, xs_0, xs_1n, xs_1i, xs_1r, xs_1u, xs_1l, xs_s, xt_0, xt_1n, xt_1i, xt_1r, xt_1u, xt_1l, xt_s, xisref, xq0, Value.category, xcat, List.map_nil, List.map_cons, List.sum_nil, List.sum_cons, List.length_cons, List.length_nil, List.getElem?_cons_zero, List.getElem?_cons_succ, xmap_s, if_true, and_self, Nat.reduceAdd, Nat.reduceLT, Nat.reduceLeDiff, Nat.reduceEqDiff, Nat.lt_add_one, Nat.zero_le, Nat.le_refl, Nat.le_zero_eq, Nat.zero_lt_succ, xldc, kbm10, kbm9, kbm8, kbm7, kbm6, kbm5, kbm4, kbm3, kbm2, kb6, kb7, kb8, kb9, kb10, kb11, kb16, kb19, kb20, kb30, kb31, kb32, kb34, kb40, kb64, kb100, kb127, kim1, ki0, ki1, ki2, ki3, ki4, ki5, ks128, ks400, ks999, ks1000, ks4010])
            refine ok_st rfl rfl ?_
            simp only [okS_some, xst, xp0, xp1, xp2, xp3, xp4, xp5, xload, xstore, xget_0, xget_s, xs_0, xs_1n, xs_1i, xs_1r, xs_1u, xs_1l, xs_s, xt_0, xt_1n, xt_1i, xt_1r, xt_1u, xt_1l, xt_s, xisref, xq0, Value.category, xcat, List.map_nil, List.map_cons, List.sum_nil, List.sum_cons, List.length_cons, List.length_nil, List.getElem?_cons_zero, List.getElem?_cons_succ, xmap_s, if_true, and_self, Nat.reduceAdd, Nat.reduceLT, Nat.reduceLeDiff, Nat.reduceEqDiff, Nat.lt_add_one, Nat.zero_le, Nat.le_refl, Nat.le_zero_eq, Nat.zero_lt_succ, xldc, kbm10, kbm9, kbm8, kbm7, kbm6, kbm5, kbm4, kbm3, kbm2, kb6, kb7, kb8, kb9, kb10, kb11, kb16, kb19, kb20, kb30, kb31, kb32, kb34, kb40, kb64, kb100, kb127, kim1, ki0, ki1, ki2, ki3, ki4, ki5, ks128, ks400, ks999, ks1000, ks4010, w257]
            refine ok_pf rfl hW w250 (Nat.le_of_ble_eq_true rfl) rfl rfl ?_
            intro h259 k260 w261 s262 og263
            dsimp only [List.set, Nat.reduceAdd] at w261 ⊢
            have hW := k260.1
            have w264 := (og263 0 (ne_oo w253 w250 (by decide))).trans w253
            have w265 := (og263 3 (Ne.symm (ne_oa w250 w254))).trans w254
            have w266 := (og263 1 (ne_oo w255 w250 (by decide))).trans w255
            have w267 := (og263 (T 0) (Ne.symm (ne_oa w250 w256))).trans w256
            have w268 := (og263 (rw' s) (ne_oo w257 w250 (by decide))).trans w257
            have w269 := (og263 (T (s + 1)) (Ne.symm (ne_oa w250 w258))).trans w258
            have hk2 := fun k (hk : k < (mcn (mst A s) M)) => (og263 _ (Ne.symm (hpa _ (mix_in hk).1))).trans (hk2 k hk)
            have ogp := fun p (z : p ≠ p1) => (og263 p z).trans (ogp p z)
            iterate 2 (refine ok_st rfl rfl ?_; simp only [okS_some, xst, xp0, xp1, xp2, xp3, xp4, xp5, xload, xstore, xget_0, xget_s, xs_0, xs_1n, xs_1i, xs_1r, xs_1u, xs_1l, xs_s, xt_0, xt_1n, xt_1i, xt_1r, xt_1u, xt_1l, xt_s, xisref, xq0, Value.category, xcat, List.map_nil, List.map_cons, List.sum_nil, List.sum_cons, List.length_cons, List.length_nil, List.getElem?_cons_zero, List.getElem?_cons_succ, xmap_s, if_true, and_self, Nat.reduceAdd, Nat.reduceLT, Nat.reduceLeDiff, Nat.reduceEqDiff, Nat.lt_add_one, Nat.zero_le, Nat.le_refl, Nat.le_zero_eq, Nat.zero_lt_succ, xldc, kbm10, kbm9, kbm8, kbm7, kbm6, kbm5, kbm4, kbm3, kbm2, kb6, kb7, kb8, kb9, kb10, kb11, kb16, kb19, kb20, kb30, kb31, kb32, kb34, kb40, kb64, kb100, kb127, kim1, ki0, ki1, ki2, ki3, ki4, ki5, ks128, ks400, ks999, ks1000, ks4010])
            refine ok_cm (vs := [_, _]) rfl rfl rfl rfl (Nat.le_of_ble_eq_true rfl) (Nat.le_of_ble_eq_true rfl) (by show xcl0 2 2 _ _ = true; simp [xcl0, w261]) (by decide) hW (ix14 (q := fun k => a (mix (mst A s) M k)) (F := lF A (mst A s) M) (V := fun k => Vv (mix (mst A s) M k)) (Mv := fun k => Mv (mix (mst A s) M k)) hW w261 w268 w269 r3 (by omega) hgk hk2) ?_
            rintro _ _ ⟨rfl, ⟨rfl, cr⟩ | ⟨rfl, cr⟩⟩ k270 al271
            · dsimp only [Option.toList, List.cons_append, List.nil_append, Nat.reduceAdd]
              refine ok_st rfl rfl ?_
              simp only [okS_some, xst, xp0, xp1, xp2, xp3, xp4, xp5, xload, xstore, xget_0, xget_s, xs_0, xs_1n, xs_1i, xs_1r, xs_1u, xs_1l, xs_s, xt_0, xt_1n, xt_1i, xt_1r, xt_1u, xt_1l, xt_s, xisref, xq0, Value.category, xcat, List.map_nil, List.map_cons, List.sum_nil, List.sum_cons, List.length_cons, List.length_nil, List.getElem?_cons_zero, List.getElem?_cons_succ, xmap_s, if_true, and_self, Nat.reduceAdd, Nat.reduceLT, Nat.reduceLeDiff, Nat.reduceEqDiff, Nat.lt_add_one, Nat.zero_le, Nat.le_refl, Nat.le_zero_eq, Nat.zero_lt_succ, xldc, kbm10, kbm9, kbm8, kbm7, kbm6, kbm5, kbm4, kbm3, kbm2, kb6, kb7, kb8, kb9, kb10, kb11, kb16, kb19, kb20, kb30, kb31, kb32, kb34, kb40, kb64, kb100, kb127, kim1, ki0, ki1, ki2, ki3, ki4, ki5, ks128, ks400, ks999, ks1000, ks4010]
              refine ok_bt rfl ?_
              iterate 2 (refine ok_st rfl rfl ?_; simp only [okS_some, xst, xp0, xp1, xp2, xp3, xp4, xp5, xload, xstore, xget_0, xget_s, xs_0, xs_1n, xs_1i, xs_1r, xs_1u, xs_1l, xs_s, xt_0, xt_1n, xt_1i, xt_1r, xt_1u, xt_1l, xt_s, xisref, xq0, Value.category, xcat, List.map_nil, List.map_cons, List.sum_nil, List.sum_cons, List.length_cons, List.length_nil, List.getElem?_cons_zero, List.getElem?_cons_succ, xmap_s, if_true, and_self, Nat.reduceAdd, Nat.reduceLT, Nat.reduceLeDiff, Nat.reduceEqDiff, Nat.lt_add_one, Nat.zero_le, Nat.le_refl, Nat.le_zero_eq, Nat.zero_lt_succ, xldc, kbm10, kbm9, kbm8, kbm7, kbm6, kbm5, kbm4, kbm3, kbm2, kb6, kb7, kb8, kb9, kb10, kb11, kb16, kb19, kb20, kb30, kb31, kb32, kb34, kb40, kb64, kb100, kb127, kim1, ki0, ki1, ki2, ki3, ki4, ki5, ks128, ks400, ks999, ks1000, ks4010])
              refine ok_cm (vs := [_, _]) rfl rfl rfl rfl (Nat.le_of_ble_eq_true rfl) (Nat.le_of_ble_eq_true rfl) (by show xcl0 2 5 _ _ = true; simp [xcl0, w268]) (by decide) hW (ix29 hW (by omega) r3 w268 w269 w261 bl2.1) ?_
              rintro _ h3 ⟨rfl, t', len', g', ht', ⟨hl1, hl2⟩, w0, wt, wg, wn, wo⟩ k272 al273
              have k3m := k272
              dsimp only [Option.toList, List.cons_append, List.nil_append, Nat.reduceAdd]
              have hS2 : cS h259 A M a T := cS_k2 hS hp1 hpa ogp
              have hj2 : jZ h259 := by
                obtain ⟨⟨f6, q6⟩, ⟨f7, q7⟩, ⟨n8, c8, q8⟩, n9, c9, q9⟩ := jZ_c hj
                exact jZ_k hj (ogp 6 (ne_oo q6 hp1 (by decide))) (ogp 7 (ne_oo q7 hp1 (by decide))) (ogp 8 (Ne.symm (ne_oa hp1 q8))) (ogp 9 (Ne.symm (ne_oa hp1 q9)))
              have hfr : fro h259 T (s + 1) t' := ht'.elim Or.inl (fun z => Or.inr (fun p e he => ne_new hW he z))
              have hp1' : h259.2.2 p1 = some (hcl A' M v0 m0) := by
                rw [w261]
                unfold hcl hfl
                simp only [hr0, hr1 s hs rfl, hr2.1, hr2.2.1, hr2.2.2.1, hr2.2.2.2.1, hr2.2.2.2.2.1, hr2.2.2.2.2.2.1, hr2.2.2.2.2.2.2.1, hr2.2.2.2.2.2.2.2]
              obtain ⟨v1, v2, v3, v4⟩ := br_v hS2 hs hp1' hpa hA hr0 w269 hfr wg wn (fun p z1 z2 => wo p z1 z2)
              obtain ⟨f1', f4', q1', q4', rr⟩ := cS_R hS2
              have c689 := jZ_c hj2
              have hj3 : jZ h3 := by
                obtain ⟨⟨f6, q6⟩, ⟨f7, q7⟩, ⟨n8, c8, q8⟩, n9, c9, q9⟩ := c689
                exact jZ_k hj2 (wo 6 (rw_ne (by decide)) (fro_o hS2 (by omega) hfr q6)) (wo 7 (rw_ne (by decide)) (fro_o hS2 (by omega) hfr q7)) (wo 8 (rw_ne (by decide)) (fro_a hS2 (by omega) hfr q8 (by decide))) (wo 9 (rw_ne (by decide)) (fro_a hS2 (by omega) hfr q9 (by decide)))
              obtain ⟨V3, M3, hc3⟩ := ch2 v3
              have hN1 := nx_n hA hr0
              have hdn : dI A' (mst A' s) (M + 1) := dI_nx hA hr0 (hr1 s hs rfl) (hdI s hs) (by rw [hr2.1, hr2.2.1, hr2.2.2.1, hr2.2.2.2.1, hr2.2.2.2.2.1, hr2.2.2.2.2.2.1]; exact ct) (by rw [hr2.1, hr2.2.2.2.2.2.2.1]; exact fun z => cr.elim (fun y => absurd y.1 z) (fun y => by obtain ⟨k, y1, y2, -⟩ := y.2; exact ⟨k, y1, y2⟩))
              have hdf := dI_F hdn
              rw [hN1] at hdf
              have hW2 := hW
              have hW := k272.1
              have w274 := (wo 0 (rw_ne (by decide)) (fro_o hS2 (by omega) hfr w264)).trans w264
              have w275 := (wo 1 (rw_ne (by decide)) (fro_o hS2 (by omega) hfr w266)).trans w266
              have w276 := (wo p1 (ne_oo hp1' (rr s hs).choose_spec (by decide)) (fro_o hS2 (by omega) hfr w261)).trans w261
              have w277 := (wo (T 0) (Ne.symm (ne_oa (rr s hs).choose_spec w267)) (fro_T hS2 (by omega) (by decide) (by omega) hfr)).trans w267
              obtain ⟨j1, j2, j3, j4, j5, j6, j7, j8, c6⟩ := hj3.1
              refine ok_st rfl rfl ?_
              simp only [okS_some, xst, xp0, xp1, xp2, xp3, xp4, xp5, xload, xstore, xget_0, xget_s, xs_0, xs_1n, xs_1i, xs_1r, xs_1u, xs_1l, xs_s, xt_0, xt_1n, xt_1i, xt_1r, xt_1u, xt_1l, xt_s, xisref, xq0, Value.category, xcat, List.map_nil, List.map_cons, List.sum_nil, List.sum_cons, List.length_cons, List.length_nil, List.getElem?_cons_zero, List.getElem?_cons_succ, xmap_s, if_true, and_self, Nat.reduceAdd, Nat.reduceLT, Nat.reduceLeDiff, Nat.reduceEqDiff, Nat.lt_add_one, Nat.zero_le, Nat.le_refl, Nat.le_zero_eq, Nat.zero_lt_succ, xldc, kbm10, kbm9, kbm8, kbm7, kbm6, kbm5, kbm4, kbm3, kbm2, kb6, kb7, kb8, kb9, kb10, kb11, kb16, kb19, kb20, kb30, kb31, kb32, kb34, kb40, kb64, kb100, kb127, kim1, ki0, ki1, ki2, ki3, ki4, ki5, ks128, ks400, ks999, ks1000, ks4010]
              refine ok_st rfl rfl ?_
              simp only [okS_some, xst, xp0, xp1, xp2, xp3, xp4, xp5, xload, xstore, xget_0, xget_s, xs_0, xs_1n, xs_1i, xs_1r, xs_1u, xs_1l, xs_s, xt_0, xt_1n, xt_1i, xt_1r, xt_1u, xt_1l, xt_s, xisref, xq0, Value.category, xcat, List.map_nil, List.map_cons, List.sum_nil, List.sum_cons, List.length_cons, List.length_nil, List.getElem?_cons_zero, List.getElem?_cons_succ, xmap_s, if_true, and_self, Nat.reduceAdd, Nat.reduceLT, Nat.reduceLeDiff, Nat.reduceEqDiff, Nat.lt_add_one, Nat.zero_le, Nat.le_refl, Nat.le_zero_eq, Nat.zero_lt_succ, xldc, kbm10, kbm9, kbm8, kbm7, kbm6, kbm5, kbm4, kbm3, kbm2, kb6, kb7, kb8, kb9, kb10, kb11, kb16, kb19, kb20, kb30, kb31, kb32, kb34, kb40, kb64, kb100, kb127, kim1, ki0, ki1, ki2, ki3, ki4, ki5, ks128, ks400, ks999, ks1000, ks4010, w274]
              iterate 2 (refine ok_st rfl rfl ?_; simp only [okS_some, xst, xp0, xp1, xp2, xp3, xp4, xp5, xload, xstore, xget_0, xget_s, xs_0, xs_1n, xs_1i, xs_1r, xs_1u, xs_1l, xs_s, xt_0, xt_1n, xt_1i, xt_1r, xt_1u, xt_1l, xt_s, xisref, xq0, Value.category, xcat, List.map_nil, List.map_cons, List.sum_nil, List.sum_cons, List.length_cons, List.length_nil, List.getElem?_cons_zero, List.getElem?_cons_succ, xmap_s, if_true, and_self, Nat.reduceAdd, Nat.reduceLT, Nat.reduceLeDiff, Nat.reduceEqDiff, Nat.lt_add_one, Nat.zero_le, Nat.le_refl, Nat.le_zero_eq, Nat.zero_lt_succ, xldc, kbm10, kbm9, kbm8, kbm7, kbm6, kbm5, kbm4, kbm3, kbm2, kb6, kb7, kb8, kb9, kb10, kb11, kb16, kb19, kb20, kb30, kb31, kb32, kb34, kb40, kb64, kb100, kb127, kim1, ki0, ki1, ki2, ki3, ki4, ki5, ks128, ks400, ks999, ks1000, ks4010])
              refine ok_st rfl rfl ?_
              simp only [okS_some, xst, xp0, xp1, xp2, xp3, xp4, xp5, xload, xstore, xget_0, xget_s, xs_0, xs_1n, xs_1i, xs_1r, xs_1u, xs_1l, xs_s, xt_0, xt_1n, xt_1i, xt_1r, xt_1u, xt_1l, xt_s, xisref, xq0, Value.category, xcat, List.map_nil, List.map_cons, List.sum_nil, List.sum_cons, List.length_cons, List.length_nil, List.getElem?_cons_zero, List.getElem?_cons_succ, xmap_s, if_true, and_self, Nat.reduceAdd, Nat.reduceLT, Nat.reduceLeDiff, Nat.reduceEqDiff, Nat.lt_add_one, Nat.zero_le, Nat.le_refl, Nat.le_zero_eq, Nat.zero_lt_succ, xldc, kbm10, kbm9, kbm8, kbm7, kbm6, kbm5, kbm4, kbm3, kbm2, kb6, kb7, kb8, kb9, kb10, kb11, kb16, kb19, kb20, kb30, kb31, kb32, kb34, kb40, kb64, kb100, kb127, kim1, ki0, ki1, ki2, ki3, ki4, ki5, ks128, ks400, ks999, ks1000, ks4010, w0]
              refine ok_cm (vs := [_, _, _]) rfl rfl rfl rfl (Nat.le_of_ble_eq_true rfl) (Nat.le_of_ble_eq_true rfl) (by show xcl0 2 3 _ _ = true; simp [xcl0, c6]) (by decide) hW (ix23 (q := fun k => va_up a M p1 (mix (mst A' s) (M + 1) k)) (F := lF A' (mst A' s) (M + 1)) (V := fun k => V3 (mix (mst A' s) (M + 1) k)) (Mv := fun k => M3 (mix (mst A' s) (M + 1) k)) hW hl1 (by omega) (Nat.le_refl _) v1 v2 w0 wt (fun k hk => hc3 _ (mix_in (by rw [hN1]; exact hk)).1) (fun j hj => (hdf j hj).2.2) hj3) ?_
              rintro _ h4 ⟨w, z8, z9, hz, rfl, hv, hsz, hj4, hc4, ho4⟩ k278 al279
              have k4m := k278
              dsimp only [Option.toList, List.cons_append, List.nil_append, Nat.reduceAdd]
              have hW := k278.1
              have hc5 := brg_c hN1 v3 v4 (jZ_c hj3) (V := (wS (lF A' (mst A' s) (M + 1)) (mcn (mst A s) M + 1) (mcn (mst A s) M + 1)).1) (Mv := sM (fun k => va_up a M p1 (mix (mst A' s) (M + 1) k)) (wS (lF A' (mst A' s) (M + 1)) (mcn (mst A s) M + 1) (mcn (mst A s) M + 1)).2) hc4 ho4
              have nq : ∀ p e, h3.2.2 p = some e → (∀ fs, e ≠ .inr (2, fs)) → ∀ k, k < mcn (mst A s) M + 1 → p ≠ va_up a M p1 (mix (mst A' s) (M + 1) k) := fun p e he hne k hk z => by
                have := hc3 _ (mix_in (by rw [hN1]; exact hk)).1
                rw [← z, he] at this
                cases this
                exact hne _ rfl
              have c689' := jZ_c hj3
              have w280 := (ho4 0 (nq _ _ w274 (fun _ z => by cases z)) (by obtain ⟨⟨f, q⟩, -⟩ := c689'; exact ne_oo w274 q (by decide)) (by obtain ⟨-, -, ⟨n, c, q⟩, -⟩ := c689'; exact ne_oa w274 q) (by obtain ⟨-, -, -, n, c, q⟩ := c689'; exact ne_oa w274 q)).trans w274
              have w281 := (ho4 1 (nq _ _ w275 (fun _ z => by cases z)) (by obtain ⟨⟨f, q⟩, -⟩ := c689'; exact ne_oo w275 q (by decide)) (by obtain ⟨-, -, ⟨n, c, q⟩, -⟩ := c689'; exact ne_oa w275 q) (by obtain ⟨-, -, -, n, c, q⟩ := c689'; exact ne_oa w275 q)).trans w275
              have w282 := (ho4 (T 0) (nq _ _ w277 (fun _ z => by cases z)) (by obtain ⟨⟨f, q⟩, -⟩ := c689'; exact Ne.symm (ne_oa q w277)) (by obtain ⟨-, -, ⟨n, c, q⟩, -⟩ := c689'; exact ne_aa w277 q (by decide)) (by obtain ⟨-, -, -, n, c, q⟩ := c689'; exact ne_aa w277 q (by decide))).trans w277
              have w283 := (ho4 (rw' s) (nq _ _ w0 (fun _ z => by cases z)) (by obtain ⟨⟨f, q⟩, -⟩ := c689'; exact ne_oo w0 q (by decide)) (by obtain ⟨-, -, ⟨n, c, q⟩, -⟩ := c689'; exact ne_oa w0 q) (by obtain ⟨-, -, -, n, c, q⟩ := c689'; exact ne_oa w0 q)).trans w0
              have w284 := (ho4 t' (nq _ _ wt (fun _ z => by cases z)) (by obtain ⟨⟨f, q⟩, -⟩ := c689'; exact Ne.symm (ne_oa q wt)) (by obtain ⟨-, -, ⟨n, c, q⟩, -⟩ := c689'; exact ne_aa wt q (by decide)) (by obtain ⟨-, -, -, n, c, q⟩ := c689'; exact ne_aa wt q (by decide))).trans wt
              obtain ⟨v5, m5, w285⟩ := hc5 M (Nat.lt_succ_self M)
              rw [show va_up a M p1 M = p1 from by simp [va_up]] at w285
              iterate 3 (refine ok_st rfl rfl ?_; simp only [okS_some, xst, xp0, xp1, xp2, xp3, xp4, xp5, xload, xstore, xget_0, xget_s, xs_0, xs_1n, xs_1i, xs_1r, xs_1u, xs_1l, xs_s, xt_0, xt_1n, xt_1i, xt_1r, xt_1u, xt_1l, xt_s, xisref, xq0, Value.category, xcat, List.map_nil, List.map_cons, List.sum_nil, List.sum_cons, List.length_cons, List.length_nil, List.getElem?_cons_zero, List.getElem?_cons_succ, xmap_s, if_true, and_self, Nat.reduceAdd, Nat.reduceLT, Nat.reduceLeDiff, Nat.reduceEqDiff, Nat.lt_add_one, Nat.zero_le, Nat.le_refl, Nat.le_zero_eq, Nat.zero_lt_succ, xldc, kbm10, kbm9, kbm8, kbm7, kbm6, kbm5, kbm4, kbm3, kbm2, kb6, kb7, kb8, kb9, kb10, kb11, kb16, kb19, kb20, kb30, kb31, kb32, kb34, kb40, kb64, kb100, kb127, kim1, ki0, ki1, ki2, ki3, ki4, ki5, ks128, ks400, ks999, ks1000, ks4010])
              refine ok_if (fun cx => ?_) (fun cx => ?_)
              · simp only [xcnd, decide_eq_true_eq, decide_eq_false_iff_not, Bool.not_eq_true', Bool.not_eq_false'] at cx
                refine ok_st rfl rfl ?_
                simp only [okS_some, xst, xp0, xp1, xp2, xp3, xp4, xp5, xload, xstore, xget_0, xget_s, xs_0, xs_1n, xs_1i, xs_1r, xs_1u, xs_1l, xs_s, xt_0, xt_1n, xt_1i, xt_1r, xt_1u, xt_1l, xt_s, xisref, xq0, Value.category, xcat, List.map_nil, List.map_cons, List.sum_nil, List.sum_cons, List.length_cons, List.length_nil, List.getElem?_cons_zero, List.getElem?_cons_succ, xmap_s, if_true, and_self, Nat.reduceAdd, Nat.reduceLT, Nat.reduceLeDiff, Nat.reduceEqDiff, Nat.lt_add_one, Nat.zero_le, Nat.le_refl, Nat.le_zero_eq, Nat.zero_lt_succ, xldc, kbm10, kbm9, kbm8, kbm7, kbm6, kbm5, kbm4, kbm3, kbm2, kb6, kb7, kb8, kb9, kb10, kb11, kb16, kb19, kb20, kb30, kb31, kb32, kb34, kb40, kb64, kb100, kb127, kim1, ki0, ki1, ki2, ki3, ki4, ki5, ks128, ks400, ks999, ks1000, ks4010]
                refine ok_st rfl rfl ?_
                simp only [okS_some, xst, xp0, xp1, xp2, xp3, xp4, xp5, xload, xstore, xget_0, xget_s, xs_0, xs_1n, xs_1i, xs_1r, xs_1u, xs_1l, xs_s, xt_0, xt_1n, xt_1i, xt_1r, xt_1u, xt_1l, xt_s, xisref, xq0, Value.category, xcat, List.map_nil, List.map_cons, List.sum_nil, List.sum_cons, List.length_cons, List.length_nil, List.getElem?_cons_zero, List.getElem?_cons_succ, xmap_s, if_true, and_self, Nat.reduceAdd, Nat.reduceLT, Nat.reduceLeDiff, Nat.reduceEqDiff, Nat.lt_add_one, Nat.zero_le, Nat.le_refl, Nat.le_zero_eq, Nat.zero_lt_succ, xldc, kbm10, kbm9, kbm8, kbm7, kbm6, kbm5, kbm4, kbm3, kbm2, kb6, kb7, kb8, kb9, kb10, kb11, kb16, kb19, kb20, kb30, kb31, kb32, kb34, kb40, kb64, kb100, kb127, kim1, ki0, ki1, ki2, ki3, ki4, ki5, ks128, ks400, ks999, ks1000, ks4010, w280]
                refine ok_st rfl rfl ?_
                simp only [okS_some, xst, xp0, xp1, xp2, xp3, xp4, xp5, xload, xstore, xget_0, xget_s, xs_0, xs_1n, xs_1i, xs_1r, xs_1u, xs_1l, xs_s, xt_0, xt_1n, xt_1i, xt_1r, xt_1u, xt_1l, xt_s, xisref, xq0, Value.category, xcat, List.map_nil, List.map_cons, List.sum_nil, List.sum_cons, List.length_cons, List.length_nil, List.getElem?_cons_zero, List.getElem?_cons_succ, xmap_s, if_true, and_self, Nat.reduceAdd, Nat.reduceLT, Nat.reduceLeDiff, Nat.reduceEqDiff, Nat.lt_add_one, Nat.zero_le, Nat.le_refl, Nat.le_zero_eq, Nat.zero_lt_succ, xldc, kbm10, kbm9, kbm8, kbm7, kbm6, kbm5, kbm4, kbm3, kbm2, kb6, kb7, kb8, kb9, kb10, kb11, kb16, kb19, kb20, kb30, kb31, kb32, kb34, kb40, kb64, kb100, kb127, kim1, ki0, ki1, ki2, ki3, ki4, ki5, ks128, ks400, ks999, ks1000, ks4010]
                refine ok_cm (vs := [_, _]) rfl rfl rfl rfl (Nat.le_of_ble_eq_true rfl) (Nat.le_of_ble_eq_true rfl) (by show xcl0 2 5 _ _ = true; simp [xcl0, w281]) (by decide) hW (ix29 hW (by omega) e3 w281 w282 w285 bl1.1) ?_
                rintro _ h5 ⟨rfl, u', ul, ug, hu', ⟨hu1, hu2⟩, u0, ut, uu, un, uo⟩ k286 al287
                dsimp only [Option.toList, List.cons_append, List.nil_append, Nat.reduceAdd]
                have hu' : u' = T 0 ∨ u' = h4.1 := hu'
                have nuo : ∀ {p c : Nat} {fs : List Value}, h4.2.2 p = some (.inr (c, fs)) → p ≠ u' := fun he => by
                  rcases hu' with y | y
                  · rw [y]; exact ne_oa he w282
                  · exact ne_new hW he y
                have npu : p1 ≠ u' := nuo w285
                have w288 := (uo p1 (ne_oo w285 w281 (by decide)) npu).trans w285
                refine ok_st rfl rfl ?_
                simp only [okS_some, xst, xp0, xp1, xp2, xp3, xp4, xp5, xload, xstore, xget_0, xget_s, xs_0, xs_1n, xs_1i, xs_1r, xs_1u, xs_1l, xs_s, xt_0, xt_1n, xt_1i, xt_1r, xt_1u, xt_1l, xt_s, xisref, xq0, Value.category, xcat, List.map_nil, List.map_cons, List.sum_nil, List.sum_cons, List.length_cons, List.length_nil, List.getElem?_cons_zero, List.getElem?_cons_succ, xmap_s, if_true, and_self, Nat.reduceAdd, Nat.reduceLT, Nat.reduceLeDiff, Nat.reduceEqDiff, Nat.lt_add_one, Nat.zero_le, Nat.le_refl, Nat.le_zero_eq, Nat.zero_lt_succ, xldc, kbm10, kbm9, kbm8, kbm7, kbm6, kbm5, kbm4, kbm3, kbm2, kb6, kb7, kb8, kb9, kb10, kb11, kb16, kb19, kb20, kb30, kb31, kb32, kb34, kb40, kb64, kb100, kb127, kim1, ki0, ki1, ki2, ki3, ki4, ki5, ks128, ks400, ks999, ks1000, ks4010]
                refine ok_st rfl rfl ?_
                simp only [okS_some, xst, xp0, xp1, xp2, xp3, xp4, xp5, xload, xstore, xget_0, xget_s, xs_0, xs_1n, xs_1i, xs_1r, xs_1u, xs_1l, xs_s, xt_0, xt_1n, xt_1i, xt_1r, xt_1u, xt_1l, xt_s, xisref, xq0, Value.category, xcat, List.map_nil, List.map_cons, List.sum_nil, List.sum_cons, List.length_cons, List.length_nil, List.getElem?_cons_zero, List.getElem?_cons_succ, xmap_s, if_true, and_self, Nat.reduceAdd, Nat.reduceLT, Nat.reduceLeDiff, Nat.reduceEqDiff, Nat.lt_add_one, Nat.zero_le, Nat.le_refl, Nat.le_zero_eq, Nat.zero_lt_succ, xldc, kbm10, kbm9, kbm8, kbm7, kbm6, kbm5, kbm4, kbm3, kbm2, kb6, kb7, kb8, kb9, kb10, kb11, kb16, kb19, kb20, kb30, kb31, kb32, kb34, kb40, kb64, kb100, kb127, kim1, ki0, ki1, ki2, ki3, ki4, ki5, ks128, ks400, ks999, ks1000, ks4010, w288]
                refine ok_r1 rfl rfl rfl rfl ?_
                try dsimp only
                refine ⟨_, rfl, Or.inr ⟨s, hs, rfl, ct, ?_⟩⟩
                refine Or.inr ⟨by first | exact Or.inl c25 | exact Or.inr c33, ?_⟩
                have hlt : M < 400 := by rw [show (400 : Int32) = nI 400 from rfl, nI_ltI (by omega) (by decide)] at c49; exact c49
                have fr : ∀ p e, h259.2.2 p = some e → (∀ fs, e ≠ .inr (2, fs)) → p ≠ 6 → p ≠ 8 → p ≠ 9 → p ≠ 1 → p ≠ rw' s → p ≠ t' → p ≠ u' → h5.2.2 p = some e := fun p e he z2 z6 z8 z9 z1 zr zt zu => by
                  have y3 := (wo p zr zt).trans he
                  have y4 := (ho4 p (nq p e y3 z2) z6 z8 z9).trans y3
                  exact (uo p z1 zu).trans y4
                have hfu : fro h259 T 0 u' := hu'.elim Or.inl (fun y => Or.inr (fun p e he z => by
                  have b1 := (hW2 p e he).1
                  have b2 : h259.1 ≤ h4.1 := Nat.le_trans (show h259.1 ≤ h3.1 from k3m.2.1.1) (show h3.1 ≤ h4.1 from k4m.2.1.1)
                  omega))
                have ntu : t' ≠ u' := by
                  rcases hu' with y | y
                  · rw [y]; exact Ne.symm (fro_T hS2 (by omega) (by decide) (by omega) hfr)
                  · exact ne_new hW w284 y
                have wr' := (uo (rw' s) (Ne.symm (rw_ne (by decide))) (nuo w283)).trans w283
                have wt' := (uo t' (Ne.symm (ne_oa w281 w284)) ntu).trans w284
                have wc : ∃ (V : Nat → Int32) (Mv : Nat → Value), ∀ n, n < M + 1 → h5.2.2 (va_up a M p1 n) = some (hcl A' n (V n) (Mv n)) := ch2 (M := M + 1) (P := fun n v m => h5.2.2 (va_up a M p1 n) = some (hcl A' n v m)) (fun n hn => by
                  obtain ⟨v, m, q⟩ := hc5 n hn
                  exact ⟨v, m, (uo _ (ne_oo q w281 (by decide)) (nuo q)).trans q⟩)
                have hcS := cS_row (A' := A') (M' := M + 1) (a' := va_up a M p1) (u := u') (N' := mcn (mst A s) M + 1) hS2 hs hfr hfu ntu (fun s' hs' hne => ⟨(nx_o hA hr0 hs hs' hne).1, fun n hn hm => by
                  obtain ⟨y1, y2, y3⟩ := (nx_o hA hr0 hs hs' hne).2 n hn hm
                  exact ⟨y1, y2, y3, by simp only [va_up]; rw [if_neg (by omega)]⟩⟩) u0 ⟨_, _, ut, hu1, fun n hn => ?_⟩ wr' hN1.symm ⟨_, _, wt', hl1, fun n hn hm => ?_⟩ wc v4 fr ⟨c689.1, c689.2.2⟩
                · refine Or.inr ⟨hlt, Or.inr ⟨cr, w, z8, z9, hz, hv, Or.inr ⟨cx, rfl, _, hcS, ?_, (fK_p hp1 ogp).tr (fK_r hS2 hs hj2 hfr hfu fr)⟩⟩⟩
                  have nu : ∀ p e, h4.2.2 p = some e → (∀ n c, e ≠ .inl (7, n, c)) → p ≠ u' := fun p e he hne z => by
                    rcases hu' with y | y
                    · rw [z, y, w282] at he; cases he; exact hne _ _ rfl
                    · exact ne_new hW he y z
                  obtain ⟨⟨f6, q6⟩, ⟨f7, q7⟩, ⟨n8, c8, q8⟩, n9, c9, q9⟩ := jZ_c hj4
                  exact jZ_k hj4 (uo 6 (by decide) (nu 6 _ q6 (fun _ _ z => by cases z))) (uo 7 (by decide) (nu 7 _ q7 (fun _ _ z => by cases z))) (uo 8 (by decide) (nu 8 _ q8 (fun _ _ z => by cases z))) (uo 9 (by decide) (nu 9 _ q9 (fun _ _ z => by cases z)))
                · by_cases hz2 : n = M
                  · subst hz2; rw [un]; simp [va_up]
                  · rw [uu n (by omega), e4 n (by omega)]
                    simp only [va_up]
                    rw [if_neg hz2]
                · have hkk : mcn (mst A' s) n < mcn (mst A s) M + 1 := by rw [← hN1]; exact mcn_lt _ hn hm
                  rw [v1 _ hkk, mix_at hm hn]
              · simp only [xcnd, decide_eq_true_eq, decide_eq_false_iff_not, Bool.not_eq_true', Bool.not_eq_false'] at cx
                refine ok_st rfl rfl ?_
                simp only [okS_some, xst, xp0, xp1, xp2, xp3, xp4, xp5, xload, xstore, xget_0, xget_s, xs_0, xs_1n, xs_1i, xs_1r, xs_1u, xs_1l, xs_s, xt_0, xt_1n, xt_1i, xt_1r, xt_1u, xt_1l, xt_s, xisref, xq0, Value.category, xcat, List.map_nil, List.map_cons, List.sum_nil, List.sum_cons, List.length_cons, List.length_nil, List.getElem?_cons_zero, List.getElem?_cons_succ, xmap_s, if_true, and_self, Nat.reduceAdd, Nat.reduceLT, Nat.reduceLeDiff, Nat.reduceEqDiff, Nat.lt_add_one, Nat.zero_le, Nat.le_refl, Nat.le_zero_eq, Nat.zero_lt_succ, xldc, kbm10, kbm9, kbm8, kbm7, kbm6, kbm5, kbm4, kbm3, kbm2, kb6, kb7, kb8, kb9, kb10, kb11, kb16, kb19, kb20, kb30, kb31, kb32, kb34, kb40, kb64, kb100, kb127, kim1, ki0, ki1, ki2, ki3, ki4, ki5, ks128, ks400, ks999, ks1000, ks4010]
                refine ok_cm (vs := [_]) rfl rfl rfl rfl (Nat.le_of_ble_eq_true rfl) (Nat.le_of_ble_eq_true rfl) (by show xcl0 2 5 _ _ = true; simp [xcl0, w283]) (by decide) hW (ix30 (N := mcn (mst A s) M) hW (by omega) hl1 w283 w284) ?_
                rintro _ h5 ⟨rfl, d0, dt, dof⟩ k289 al290
                dsimp only [Option.toList, List.cons_append, List.nil_append, Nat.reduceAdd]
                refine ok_st rfl rfl ?_
                simp only [okS_some, xst, xp0, xp1, xp2, xp3, xp4, xp5, xload, xstore, xget_0, xget_s, xs_0, xs_1n, xs_1i, xs_1r, xs_1u, xs_1l, xs_s, xt_0, xt_1n, xt_1i, xt_1r, xt_1u, xt_1l, xt_s, xisref, xq0, Value.category, xcat, List.map_nil, List.map_cons, List.sum_nil, List.sum_cons, List.length_cons, List.length_nil, List.getElem?_cons_zero, List.getElem?_cons_succ, xmap_s, if_true, and_self, Nat.reduceAdd, Nat.reduceLT, Nat.reduceLeDiff, Nat.reduceEqDiff, Nat.lt_add_one, Nat.zero_le, Nat.le_refl, Nat.le_zero_eq, Nat.zero_lt_succ, xldc, kbm10, kbm9, kbm8, kbm7, kbm6, kbm5, kbm4, kbm3, kbm2, kb6, kb7, kb8, kb9, kb10, kb11, kb16, kb19, kb20, kb30, kb31, kb32, kb34, kb40, kb64, kb100, kb127, kim1, ki0, ki1, ki2, ki3, ki4, ki5, ks128, ks400, ks999, ks1000, ks4010]
                refine ok_r1 rfl rfl rfl rfl ?_
                try dsimp only
                refine ⟨_, rfl, Or.inr ⟨s, hs, rfl, ct, ?_⟩⟩
                refine Or.inr ⟨by first | exact Or.inl c25 | exact Or.inr c33, ?_⟩
                have hlt : M < 400 := by rw [show (400 : Int32) = nI 400 from rfl, nI_ltI (by omega) (by decide)] at c49; exact c49
                have fr : ∀ p e, h259.2.2 p = some e → (∀ fs, e ≠ .inr (2, fs)) → p ≠ 6 → p ≠ 8 → p ≠ 9 → p ≠ 1 → p ≠ rw' s → p ≠ t' → p ≠ (T 0) → h5.2.2 p = some e := fun p e he z2 z6 z8 z9 z1 zr zt zu => by
                  have y3 := (wo p zr zt).trans he
                  have y4 := (ho4 p (nq p e y3 z2) z6 z8 z9).trans y3
                  exact (dof p zr zt).trans y4
                have nTt : T 0 ≠ t' := fro_T hS2 (by omega) (by decide) (by omega) hfr
                have w1' := (dof 1 (rw_ne (by decide)) (ne_oa w281 w284)).trans w281
                have wu' := (dof (T 0) (Ne.symm (ne_oa w283 w282)) nTt).trans w282
                have wc : ∃ (V : Nat → Int32) (Mv : Nat → Value), ∀ n, n < M → h5.2.2 (a n) = some (hcl A n (V n) (Mv n)) := ch2 (M := M) (P := fun n v m => h5.2.2 (a n) = some (hcl A n v m)) (fun n hn => by
                  obtain ⟨v, m, q⟩ := hc5 n (by omega)
                  rw [show va_up a M p1 n = a n by simp only [va_up]; rw [if_neg (by omega)]] at q
                  refine ⟨v, m, ((dof _ (ne_oo q w283 (by decide)) (ne_oa q w284)).trans q).trans ?_⟩
                  simp only [hcl, hfl_c hA hn])
                have hcS := cS_row (A' := A) (M' := M) (a' := a) (u := T 0) (N' := mcn (mst A s) M) hS2 hs hfr (Or.inl rfl) (Ne.symm nTt) (fun s' hs' hne => ⟨rfl, fun n hn hm => ⟨hn, hm, rfl, rfl⟩⟩) w1' ⟨_, _, wu', e3, e4⟩ d0 rfl ⟨_, _, dt, by omega, fun n hn hm => ?_⟩ wc hinj fr ⟨c689.1, c689.2.2⟩
                · refine Or.inr ⟨hlt, Or.inr ⟨cr, w, z8, z9, hz, hv, Or.inl ⟨cx, rfl, _, hcS, ?_, (fK_p hp1 ogp).tr (fK_r hS2 hs hj2 hfr (Or.inl rfl) fr)⟩⟩⟩
                  obtain ⟨⟨f6, q6⟩, ⟨f7, q7⟩, ⟨n8, c8, q8⟩, n9, c9, q9⟩ := jZ_c hj4
                  exact jZ_k hj4 (dof 6 (rw_ne (by decide)) (ne_oa q6 w284)) (dof 7 (rw_ne (by decide)) (ne_oa q7 w284)) (dof 8 (rw_ne (by decide)) (ne_aa q8 w284 (by decide))) (dof 9 (rw_ne (by decide)) (ne_aa q9 w284 (by decide)))
                · have hlt2 := mcn_lt _ hn hm
                  simp only [va_up]
                  rw [if_neg (by omega), wg _ hlt2]
                  exact r4 n hn hm
            · dsimp only [Option.toList, List.cons_append, List.nil_append, Nat.reduceAdd]
              refine ok_st rfl rfl ?_
              simp only [okS_some, xst, xp0, xp1, xp2, xp3, xp4, xp5, xload, xstore, xget_0, xget_s, xs_0, xs_1n, xs_1i, xs_1r, xs_1u, xs_1l, xs_s, xt_0, xt_1n, xt_1i, xt_1r, xt_1u, xt_1l, xt_s, xisref, xq0, Value.category, xcat, List.map_nil, List.map_cons, List.sum_nil, List.sum_cons, List.length_cons, List.length_nil, List.getElem?_cons_zero, List.getElem?_cons_succ, xmap_s, if_true, and_self, Nat.reduceAdd, Nat.reduceLT, Nat.reduceLeDiff, Nat.reduceEqDiff, Nat.lt_add_one, Nat.zero_le, Nat.le_refl, Nat.le_zero_eq, Nat.zero_lt_succ, xldc, kbm10, kbm9, kbm8, kbm7, kbm6, kbm5, kbm4, kbm3, kbm2, kb6, kb7, kb8, kb9, kb10, kb11, kb16, kb19, kb20, kb30, kb31, kb32, kb34, kb40, kb64, kb100, kb127, kim1, ki0, ki1, ki2, ki3, ki4, ki5, ks128, ks400, ks999, ks1000, ks4010]
              refine ok_bf rfl ?_
              refine ok_st rfl rfl ?_
              simp only [okS_some, xst, xp0, xp1, xp2, xp3, xp4, xp5, xload, xstore, xget_0, xget_s, xs_0, xs_1n, xs_1i, xs_1r, xs_1u, xs_1l, xs_s, xt_0, xt_1n, xt_1i, xt_1r, xt_1u, xt_1l, xt_s, xisref, xq0, Value.category, xcat, List.map_nil, List.map_cons, List.sum_nil, List.sum_cons, List.length_cons, List.length_nil, List.getElem?_cons_zero, List.getElem?_cons_succ, xmap_s, if_true, and_self, Nat.reduceAdd, Nat.reduceLT, Nat.reduceLeDiff, Nat.reduceEqDiff, Nat.lt_add_one, Nat.zero_le, Nat.le_refl, Nat.le_zero_eq, Nat.zero_lt_succ, xldc, kbm10, kbm9, kbm8, kbm7, kbm6, kbm5, kbm4, kbm3, kbm2, kb6, kb7, kb8, kb9, kb10, kb11, kb16, kb19, kb20, kb30, kb31, kb32, kb34, kb40, kb64, kb100, kb127, kim1, ki0, ki1, ki2, ki3, ki4, ki5, ks128, ks400, ks999, ks1000, ks4010]
              refine ok_r1 rfl rfl rfl rfl ?_
              try dsimp only
              refine ⟨_, rfl, Or.inr ⟨s, hs, rfl, ct, ?_⟩⟩
              refine Or.inr ⟨by first | exact Or.inl c25 | exact Or.inr c33, ?_⟩
              have hlt : M < 400 := by rw [show (400 : Int32) = nI 400 from rfl, nI_ltI (by omega) (by decide)] at c49; exact c49
              exact Or.inr ⟨hlt, Or.inl ⟨rfl, cr, T, cS_k2 hS hp1 hpa ogp, by
                obtain ⟨⟨f6, q6⟩, ⟨f7, q7⟩, ⟨n8, c8, q8⟩, n9, c9, q9⟩ := jZ_c hj
                exact jZ_k hj (ogp 6 (ne_oo q6 hp1 (by decide))) (ogp 7 (ne_oo q7 hp1 (by decide))) (ogp 8 (Ne.symm (ne_oa hp1 q8))) (ogp 9 (Ne.symm (ne_oa hp1 q9))), fK_p hp1 ogp⟩⟩
          · simp only [xcnd, decide_eq_true_eq, decide_eq_false_iff_not, Bool.not_eq_true', Bool.not_eq_false'] at c49
            refine ok_st rfl rfl ?_
            simp only [okS_some, xst, xp0, xp1, xp2, xp3, xp4, xp5, xload, xstore, xget_0, xget_s, xs_0, xs_1n, xs_1i, xs_1r, xs_1u, xs_1l, xs_s, xt_0, xt_1n, xt_1i, xt_1r, xt_1u, xt_1l, xt_s, xisref, xq0, Value.category, xcat, List.map_nil, List.map_cons, List.sum_nil, List.sum_cons, List.length_cons, List.length_nil, List.getElem?_cons_zero, List.getElem?_cons_succ, xmap_s, if_true, and_self, Nat.reduceAdd, Nat.reduceLT, Nat.reduceLeDiff, Nat.reduceEqDiff, Nat.lt_add_one, Nat.zero_le, Nat.le_refl, Nat.le_zero_eq, Nat.zero_lt_succ, xldc, kbm10, kbm9, kbm8, kbm7, kbm6, kbm5, kbm4, kbm3, kbm2, kb6, kb7, kb8, kb9, kb10, kb11, kb16, kb19, kb20, kb30, kb31, kb32, kb34, kb40, kb64, kb100, kb127, kim1, ki0, ki1, ki2, ki3, ki4, ki5, ks128, ks400, ks999, ks1000, ks4010]
            refine ok_r1 rfl rfl rfl rfl ?_
            try dsimp only
            refine ⟨_, rfl, Or.inr ⟨s, hs, rfl, ct, ?_⟩⟩
            refine Or.inr ⟨by first | exact Or.inl c25 | exact Or.inr c33, ?_⟩
            exact Or.inl ⟨rfl, by rw [show (400 : Int32) = nI 400 from rfl, nI_ltI (by omega) (by decide)] at c49; exact c49, rfl⟩
        · simp only [xcnd, decide_eq_true_eq, decide_eq_false_iff_not, Bool.not_eq_true', Bool.not_eq_false'] at c33
          refine ok_st rfl rfl ?_
          simp only [okS_some, xst, xp0, xp1, xp2, xp3, xp4, xp5, xload, xstore, xget_0, xget_s, xs_0, xs_1n, xs_1i, xs_1r, xs_1u, xs_1l, xs_s, xt_0, xt_1n, xt_1i, xt_1r, xt_1u, xt_1l, xt_s, xisref, xq0, Value.category, xcat, List.map_nil, List.map_cons, List.sum_nil, List.sum_cons, List.length_cons, List.length_nil, List.getElem?_cons_zero, List.getElem?_cons_succ, xmap_s, if_true, and_self, Nat.reduceAdd, Nat.reduceLT, Nat.reduceLeDiff, Nat.reduceEqDiff, Nat.lt_add_one, Nat.zero_le, Nat.le_refl, Nat.le_zero_eq, Nat.zero_lt_succ, xldc, kbm10, kbm9, kbm8, kbm7, kbm6, kbm5, kbm4, kbm3, kbm2, kb6, kb7, kb8, kb9, kb10, kb11, kb16, kb19, kb20, kb30, kb31, kb32, kb34, kb40, kb64, kb100, kb127, kim1, ki0, ki1, ki2, ki3, ki4, ki5, ks128, ks400, ks999, ks1000, ks4010]
          refine ok_r1 rfl rfl rfl rfl ?_
          try dsimp only
          refine ⟨_, rfl, Or.inr ⟨s, hs, rfl, ct, ?_⟩⟩
          exact Or.inl ⟨rfl, c25, c33, rfl⟩
    · dsimp only [Option.toList, List.cons_append, List.nil_append, Nat.reduceAdd]
      refine ok_st rfl rfl ?_
      simp only [okS_some, xst, xp0, xp1, xp2, xp3, xp4, xp5, xload, xstore, xget_0, xget_s, xs_0, xs_1n, xs_1i, xs_1r, xs_1u, xs_1l, xs_s, xt_0, xt_1n, xt_1i, xt_1r, xt_1u, xt_1l, xt_s, xisref, xq0, Value.category, xcat, List.map_nil, List.map_cons, List.sum_nil, List.sum_cons, List.length_cons, List.length_nil, List.getElem?_cons_zero, List.getElem?_cons_succ, xmap_s, if_true, and_self, Nat.reduceAdd, Nat.reduceLT, Nat.reduceLeDiff, Nat.reduceEqDiff, Nat.lt_add_one, Nat.zero_le, Nat.le_refl, Nat.le_zero_eq, Nat.zero_lt_succ, xldc, kbm10, kbm9, kbm8, kbm7, kbm6, kbm5, kbm4, kbm3, kbm2, kb6, kb7, kb8, kb9, kb10, kb11, kb16, kb19, kb20, kb30, kb31, kb32, kb34, kb40, kb64, kb100, kb127, kim1, ki0, ki1, ki2, ki3, ki4, ki5, ks128, ks400, ks999, ks1000, ks4010]
      refine ok_bf rfl ?_
      refine ok_st rfl rfl ?_
      simp only [okS_some, xst, xp0, xp1, xp2, xp3, xp4, xp5, xload, xstore, xget_0, xget_s, xs_0, xs_1n, xs_1i, xs_1r, xs_1u, xs_1l, xs_s, xt_0, xt_1n, xt_1i, xt_1r, xt_1u, xt_1l, xt_s, xisref, xq0, Value.category, xcat, List.map_nil, List.map_cons, List.sum_nil, List.sum_cons, List.length_cons, List.length_nil, List.getElem?_cons_zero, List.getElem?_cons_succ, xmap_s, if_true, and_self, Nat.reduceAdd, Nat.reduceLT, Nat.reduceLeDiff, Nat.reduceEqDiff, Nat.lt_add_one, Nat.zero_le, Nat.le_refl, Nat.le_zero_eq, Nat.zero_lt_succ, xldc, kbm10, kbm9, kbm8, kbm7, kbm6, kbm5, kbm4, kbm3, kbm2, kb6, kb7, kb8, kb9, kb10, kb11, kb16, kb19, kb20, kb30, kb31, kb32, kb34, kb40, kb64, kb100, kb127, kim1, ki0, ki1, ki2, ki3, ki4, ki5, ks128, ks400, ks999, ks1000, ks4010]
      refine ok_r1 rfl rfl rfl rfl ?_
      try dsimp only
      exact ⟨_, rfl, Or.inl ⟨rfl, fun z => ct z.2, rfl⟩⟩
  · dsimp only [Option.toList, List.cons_append, List.nil_append, Nat.reduceAdd]
    iterate 4 (refine ok_st rfl rfl ?_; simp only [okS_some, xst, xp0, xp1, xp2, xp3, xp4, xp5, xload, xstore, xget_0, xget_s, xs_0, xs_1n, xs_1i, xs_1r, xs_1u, xs_1l, xs_s, xt_0, xt_1n, xt_1i, xt_1r, xt_1u, xt_1l, xt_s, xisref, xq0, Value.category, xcat, List.map_nil, List.map_cons, List.sum_nil, List.sum_cons, List.length_cons, List.length_nil, List.getElem?_cons_zero, List.getElem?_cons_succ, xmap_s, if_true, and_self, Nat.reduceAdd, Nat.reduceLT, Nat.reduceLeDiff, Nat.reduceEqDiff, Nat.lt_add_one, Nat.zero_le, Nat.le_refl, Nat.le_zero_eq, Nat.zero_lt_succ, xldc, kbm10, kbm9, kbm8, kbm7, kbm6, kbm5, kbm4, kbm3, kbm2, kb6, kb7, kb8, kb9, kb10, kb11, kb16, kb19, kb20, kb30, kb31, kb32, kb34, kb40, kb64, kb100, kb127, kim1, ki0, ki1, ki2, ki3, ki4, ki5, ks128, ks400, ks999, ks1000, ks4010])
    refine ok_r1 rfl rfl rfl rfl ?_
    try dsimp only
    exact ⟨_, rfl, Or.inl ⟨rfl, fun z => hno z.1, rfl⟩⟩
