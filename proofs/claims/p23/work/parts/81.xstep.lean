/-! EXACT: letters and steps of the class -/
set_option maxRecDepth 20000 in
set_option maxHeartbeats 4000000 in
/-- ToldHouse.in(IIIIII)I -/
theorem ix65 {X : Nat × (Nat → Int32)} {h : xH} (hW : xWF h) {c : Nat} {td vc dc : Int32} (hI : cI c td vc dc h) (hc : c ≤ 1026) {A : Nat → Nat → Int32} {M : Nat} {a T : Nat → Nat} (hS : cS h A M a T) (hj : jZ h) (hM : M ≤ 400) (hdI : ∀ s, s < 20 → dI A (mst A s) M){gs : Nat → Option Nat} {gr cn : Nat → Int32} (f1 : h.2.2 12 = some (.inl (6, 4, .inr (.inr gs)))) (f2 : ∀ s, s < 4 → gs s = some (53 + s)) (f3 : ∀ s, s < 4 → h.2.2 (53 + s) = some (.inr (6, [.int (gr s), .int (cn s)]))) {x1 x2 x3 x4 x5 x6 : Int32} : okM X 65 [.ref 0, .int x1, .int x2, .int x3, .int x4, .int x5, .int x6] h (fun v h' => (v = some (.int (-2)) ∧ ¬ ((∃ s, s < 4 ∧ x1 = nI s) ∧ ¬ x2 < 0) ∧ h = h') ∨ ∃ s, s < 4 ∧ x1 = nI s ∧ ¬ x2 < 0 ∧ ((v = some (.int (-10)) ∧ x2 ≤ gr s - 32 ∧ h = h') ∨ (¬ x2 ≤ gr s - 32 ∧ ((v = some (.int (-9)) ∧ (x2 ≤ gr s ∧ ¬ x2 ≤ gr s - 32 ∧ ¬ (((cn s).toUInt32 >>> ((gr s - x2).toUInt32 &&& Int32.toUInt32 31)).toInt32 &&& 1 = 0)) ∧ h = h') ∨ (¬ (x2 ≤ gr s ∧ ¬ x2 ≤ gr s - 32 ∧ ¬ (((cn s).toUInt32 >>> ((gr s - x2).toUInt32 &&& Int32.toUInt32 31)).toInt32 &&& 1 = 0)) ∧ ∃ r p1 h1 h9, v = some (.int r) ∧ hEx h h1 ∧ (∀ x f, h.2.2 x = some f → x ≠ p1) ∧ cS h1 A M a T ∧ jZ h1 ∧ brQ h1 h9 A (rowA A M x3 1 1 x4 x5 x6 td (-1) (100 + x1)) M a p1 x3 1 1 x4 x5 x6 td (-1) (-1) r ∧ ((r < 0 ∧ h9 = h') ∨ (¬ r < 0 ∧ ((x2 ≤ gr s ∧ h'.2.2 (53 + s) = some (.inr (6, [.int (gr s), .int ((cn s) ||| ((1 : Int32) <<< ((gr s - x2) &&& 31)))]))) ∨ (¬ x2 ≤ gr s ∧ ∃ cn', h'.2.2 (53 + s) = some (.inr (6, [.int x2, .int cn'])) ∧ ((¬ gr s = -1 ∧ x2 - gr s < 32 ∧ cn' = ((cn s) <<< ((x2 - gr s) &&& 31)) ||| 1) ∨ ((gr s = -1 ∨ ¬ x2 - gr s < 32) ∧ cn' = 1)))) ∧ ∀ x, x ≠ 53 + s → h'.2.2 x = h9.2.2 x))))))) := by
  have hW0 := hW
  have h0 := hI.1
  obtain ⟨Vv, Mv, hcell⟩ := hS.2.2.2.2.1
  have hx : hEx h h := fun _ _ he => he
  show ok X cd65 (0, [some (.ref 0), some (.int x1), some (.int x2), some (.int x3), some (.int x4), some (.int x5), some (.int x6), none, none, none], []) h _
  iterate 2 (refine ok_st rfl rfl ?_; simp only [okS_some, xst, xp0, xp1, xp2, xp3, xp4, xp5, xload, xstore, xget_0, xget_s, xs_0, xs_1n, xs_1i, xs_1r, xs_1u, xs_1l, xs_s, xt_0, xt_1n, xt_1i, xt_1r, xt_1u, xt_1l, xt_s, xisref, xq0, Value.category, xcat, List.map_nil, List.map_cons, List.sum_nil, List.sum_cons, List.length_cons, List.length_nil, List.getElem?_cons_zero, List.getElem?_cons_succ, xmap_s, if_true, and_self, Nat.reduceAdd, Nat.reduceLT, Nat.reduceLeDiff, Nat.reduceEqDiff, Nat.lt_add_one, Nat.zero_le, Nat.le_refl, Nat.le_zero_eq, Nat.zero_lt_succ, xldc, kbm10, kbm9, kbm8, kbm7, kbm6, kbm5, kbm4, kbm3, kbm2, kb6, kb7, kb8, kb9, kb10, kb11, kb16, kb19, kb20, kb30, kb31, kb32, kb34, kb40, kb64, kb100, kb127, kim1, ki0, ki1, ki2, ki3, ki4, ki5, ks128, ks400, ks999, ks1000, ks4010])
  refine ok_cm (vs := [_, _]) rfl rfl rfl rfl (Nat.le_of_ble_eq_true rfl) (Nat.le_of_ble_eq_true rfl) (by show xcl0 2 8 _ _ = true; simp [xcl0, h0]) (by decide) hW (ix76 hW h0 f1 f2) ?_
  rintro _ _ ⟨rfl, ⟨s, hs, rfl, rfl⟩ | ⟨hno, rfl⟩⟩ k201 al202
  · dsimp only [Option.toList, List.cons_append, List.nil_append, Nat.reduceAdd]
    have cs := f3 s hs
    iterate 5 (refine ok_st rfl rfl ?_; simp only [okS_some, xst, xp0, xp1, xp2, xp3, xp4, xp5, xload, xstore, xget_0, xget_s, xs_0, xs_1n, xs_1i, xs_1r, xs_1u, xs_1l, xs_s, xt_0, xt_1n, xt_1i, xt_1r, xt_1u, xt_1l, xt_s, xisref, xq0, Value.category, xcat, List.map_nil, List.map_cons, List.sum_nil, List.sum_cons, List.length_cons, List.length_nil, List.getElem?_cons_zero, List.getElem?_cons_succ, xmap_s, if_true, and_self, Nat.reduceAdd, Nat.reduceLT, Nat.reduceLeDiff, Nat.reduceEqDiff, Nat.lt_add_one, Nat.zero_le, Nat.le_refl, Nat.le_zero_eq, Nat.zero_lt_succ, xldc, kbm10, kbm9, kbm8, kbm7, kbm6, kbm5, kbm4, kbm3, kbm2, kb6, kb7, kb8, kb9, kb10, kb11, kb16, kb19, kb20, kb30, kb31, kb32, kb34, kb40, kb64, kb100, kb127, kim1, ki0, ki1, ki2, ki3, ki4, ki5, ks128, ks400, ks999, ks1000, ks4010])
    refine ok_if (fun c0 => ?_) (fun c0 => ?_)
    · simp only [xcnd, decide_eq_true_eq, decide_eq_false_iff_not, Bool.not_eq_true', Bool.not_eq_false'] at c0
      iterate 2 (refine ok_st rfl rfl ?_; simp only [okS_some, xst, xp0, xp1, xp2, xp3, xp4, xp5, xload, xstore, xget_0, xget_s, xs_0, xs_1n, xs_1i, xs_1r, xs_1u, xs_1l, xs_s, xt_0, xt_1n, xt_1i, xt_1r, xt_1u, xt_1l, xt_s, xisref, xq0, Value.category, xcat, List.map_nil, List.map_cons, List.sum_nil, List.sum_cons, List.length_cons, List.length_nil, List.getElem?_cons_zero, List.getElem?_cons_succ, xmap_s, if_true, and_self, Nat.reduceAdd, Nat.reduceLT, Nat.reduceLeDiff, Nat.reduceEqDiff, Nat.lt_add_one, Nat.zero_le, Nat.le_refl, Nat.le_zero_eq, Nat.zero_lt_succ, xldc, kbm10, kbm9, kbm8, kbm7, kbm6, kbm5, kbm4, kbm3, kbm2, kb6, kb7, kb8, kb9, kb10, kb11, kb16, kb19, kb20, kb30, kb31, kb32, kb34, kb40, kb64, kb100, kb127, kim1, ki0, ki1, ki2, ki3, ki4, ki5, ks128, ks400, ks999, ks1000, ks4010])
      refine ok_cm (vs := [_, _]) rfl rfl rfl rfl (Nat.le_of_ble_eq_true rfl) (Nat.le_of_ble_eq_true rfl) (by show xcl0 2 6 _ _ = true; simp [xcl0, cs]) (by decide) hW (ix37 hW cs) ?_
      rintro _ _ ⟨rfl, ⟨rfl, co⟩ | ⟨rfl, co⟩⟩ k203 al204
      · dsimp only [Option.toList, List.cons_append, List.nil_append, Nat.reduceAdd]
        refine ok_st rfl rfl ?_
        simp only [okS_some, xst, xp0, xp1, xp2, xp3, xp4, xp5, xload, xstore, xget_0, xget_s, xs_0, xs_1n, xs_1i, xs_1r, xs_1u, xs_1l, xs_s, xt_0, xt_1n, xt_1i, xt_1r, xt_1u, xt_1l, xt_s, xisref, xq0, Value.category, xcat, List.map_nil, List.map_cons, List.sum_nil, List.sum_cons, List.length_cons, List.length_nil, List.getElem?_cons_zero, List.getElem?_cons_succ, xmap_s, if_true, and_self, Nat.reduceAdd, Nat.reduceLT, Nat.reduceLeDiff, Nat.reduceEqDiff, Nat.lt_add_one, Nat.zero_le, Nat.le_refl, Nat.le_zero_eq, Nat.zero_lt_succ, xldc, kbm10, kbm9, kbm8, kbm7, kbm6, kbm5, kbm4, kbm3, kbm2, kb6, kb7, kb8, kb9, kb10, kb11, kb16, kb19, kb20, kb30, kb31, kb32, kb34, kb40, kb64, kb100, kb127, kim1, ki0, ki1, ki2, ki3, ki4, ki5, ks128, ks400, ks999, ks1000, ks4010]
        refine ok_bf rfl ?_
        refine ok_st rfl rfl ?_
        simp only [okS_some, xst, xp0, xp1, xp2, xp3, xp4, xp5, xload, xstore, xget_0, xget_s, xs_0, xs_1n, xs_1i, xs_1r, xs_1u, xs_1l, xs_s, xt_0, xt_1n, xt_1i, xt_1r, xt_1u, xt_1l, xt_s, xisref, xq0, Value.category, xcat, List.map_nil, List.map_cons, List.sum_nil, List.sum_cons, List.length_cons, List.length_nil, List.getElem?_cons_zero, List.getElem?_cons_succ, xmap_s, if_true, and_self, Nat.reduceAdd, Nat.reduceLT, Nat.reduceLeDiff, Nat.reduceEqDiff, Nat.lt_add_one, Nat.zero_le, Nat.le_refl, Nat.le_zero_eq, Nat.zero_lt_succ, xldc, kbm10, kbm9, kbm8, kbm7, kbm6, kbm5, kbm4, kbm3, kbm2, kb6, kb7, kb8, kb9, kb10, kb11, kb16, kb19, kb20, kb30, kb31, kb32, kb34, kb40, kb64, kb100, kb127, kim1, ki0, ki1, ki2, ki3, ki4, ki5, ks128, ks400, ks999, ks1000, ks4010]
        refine ok_r1 rfl rfl rfl rfl ?_
        try dsimp only
        refine Or.inr ⟨s, hs, rfl, Int32.not_lt.mpr c0, ?_⟩
        exact Or.inl ⟨rfl, co, rfl⟩
      · dsimp only [Option.toList, List.cons_append, List.nil_append, Nat.reduceAdd]
        refine ok_st rfl rfl ?_
        simp only [okS_some, xst, xp0, xp1, xp2, xp3, xp4, xp5, xload, xstore, xget_0, xget_s, xs_0, xs_1n, xs_1i, xs_1r, xs_1u, xs_1l, xs_s, xt_0, xt_1n, xt_1i, xt_1r, xt_1u, xt_1l, xt_s, xisref, xq0, Value.category, xcat, List.map_nil, List.map_cons, List.sum_nil, List.sum_cons, List.length_cons, List.length_nil, List.getElem?_cons_zero, List.getElem?_cons_succ, xmap_s, if_true, and_self, Nat.reduceAdd, Nat.reduceLT, Nat.reduceLeDiff, Nat.reduceEqDiff, Nat.lt_add_one, Nat.zero_le, Nat.le_refl, Nat.le_zero_eq, Nat.zero_lt_succ, xldc, kbm10, kbm9, kbm8, kbm7, kbm6, kbm5, kbm4, kbm3, kbm2, kb6, kb7, kb8, kb9, kb10, kb11, kb16, kb19, kb20, kb30, kb31, kb32, kb34, kb40, kb64, kb100, kb127, kim1, ki0, ki1, ki2, ki3, ki4, ki5, ks128, ks400, ks999, ks1000, ks4010]
        refine ok_bt rfl ?_
        iterate 2 (refine ok_st rfl rfl ?_; simp only [okS_some, xst, xp0, xp1, xp2, xp3, xp4, xp5, xload, xstore, xget_0, xget_s, xs_0, xs_1n, xs_1i, xs_1r, xs_1u, xs_1l, xs_s, xt_0, xt_1n, xt_1i, xt_1r, xt_1u, xt_1l, xt_s, xisref, xq0, Value.category, xcat, List.map_nil, List.map_cons, List.sum_nil, List.sum_cons, List.length_cons, List.length_nil, List.getElem?_cons_zero, List.getElem?_cons_succ, xmap_s, if_true, and_self, Nat.reduceAdd, Nat.reduceLT, Nat.reduceLeDiff, Nat.reduceEqDiff, Nat.lt_add_one, Nat.zero_le, Nat.le_refl, Nat.le_zero_eq, Nat.zero_lt_succ, xldc, kbm10, kbm9, kbm8, kbm7, kbm6, kbm5, kbm4, kbm3, kbm2, kb6, kb7, kb8, kb9, kb10, kb11, kb16, kb19, kb20, kb30, kb31, kb32, kb34, kb40, kb64, kb100, kb127, kim1, ki0, ki1, ki2, ki3, ki4, ki5, ks128, ks400, ks999, ks1000, ks4010])
        refine ok_cm (vs := [_, _]) rfl rfl rfl rfl (Nat.le_of_ble_eq_true rfl) (Nat.le_of_ble_eq_true rfl) (by show xcl0 2 6 _ _ = true; simp [xcl0, cs]) (by decide) hW (ix38 hW cs) ?_
        rintro _ _ ⟨rfl, ⟨rfl, c9⟩ | ⟨rfl, c9⟩⟩ k205 al206
        · dsimp only [Option.toList, List.cons_append, List.nil_append, Nat.reduceAdd]
          refine ok_st rfl rfl ?_
          simp only [okS_some, xst, xp0, xp1, xp2, xp3, xp4, xp5, xload, xstore, xget_0, xget_s, xs_0, xs_1n, xs_1i, xs_1r, xs_1u, xs_1l, xs_s, xt_0, xt_1n, xt_1i, xt_1r, xt_1u, xt_1l, xt_s, xisref, xq0, Value.category, xcat, List.map_nil, List.map_cons, List.sum_nil, List.sum_cons, List.length_cons, List.length_nil, List.getElem?_cons_zero, List.getElem?_cons_succ, xmap_s, if_true, and_self, Nat.reduceAdd, Nat.reduceLT, Nat.reduceLeDiff, Nat.reduceEqDiff, Nat.lt_add_one, Nat.zero_le, Nat.le_refl, Nat.le_zero_eq, Nat.zero_lt_succ, xldc, kbm10, kbm9, kbm8, kbm7, kbm6, kbm5, kbm4, kbm3, kbm2, kb6, kb7, kb8, kb9, kb10, kb11, kb16, kb19, kb20, kb30, kb31, kb32, kb34, kb40, kb64, kb100, kb127, kim1, ki0, ki1, ki2, ki3, ki4, ki5, ks128, ks400, ks999, ks1000, ks4010]
          refine ok_bf rfl ?_
          refine ok_st rfl rfl ?_
          simp only [okS_some, xst, xp0, xp1, xp2, xp3, xp4, xp5, xload, xstore, xget_0, xget_s, xs_0, xs_1n, xs_1i, xs_1r, xs_1u, xs_1l, xs_s, xt_0, xt_1n, xt_1i, xt_1r, xt_1u, xt_1l, xt_s, xisref, xq0, Value.category, xcat, List.map_nil, List.map_cons, List.sum_nil, List.sum_cons, List.length_cons, List.length_nil, List.getElem?_cons_zero, List.getElem?_cons_succ, xmap_s, if_true, and_self, Nat.reduceAdd, Nat.reduceLT, Nat.reduceLeDiff, Nat.reduceEqDiff, Nat.lt_add_one, Nat.zero_le, Nat.le_refl, Nat.le_zero_eq, Nat.zero_lt_succ, xldc, kbm10, kbm9, kbm8, kbm7, kbm6, kbm5, kbm4, kbm3, kbm2, kb6, kb7, kb8, kb9, kb10, kb11, kb16, kb19, kb20, kb30, kb31, kb32, kb34, kb40, kb64, kb100, kb127, kim1, ki0, ki1, ki2, ki3, ki4, ki5, ks128, ks400, ks999, ks1000, ks4010]
          refine ok_r1 rfl rfl rfl rfl ?_
          try dsimp only
          refine Or.inr ⟨s, hs, rfl, Int32.not_lt.mpr c0, ?_⟩
          exact Or.inr ⟨co, Or.inl ⟨rfl, c9, rfl⟩⟩
        · dsimp only [Option.toList, List.cons_append, List.nil_append, Nat.reduceAdd]
          refine ok_st rfl rfl ?_
          simp only [okS_some, xst, xp0, xp1, xp2, xp3, xp4, xp5, xload, xstore, xget_0, xget_s, xs_0, xs_1n, xs_1i, xs_1r, xs_1u, xs_1l, xs_s, xt_0, xt_1n, xt_1i, xt_1r, xt_1u, xt_1l, xt_s, xisref, xq0, Value.category, xcat, List.map_nil, List.map_cons, List.sum_nil, List.sum_cons, List.length_cons, List.length_nil, List.getElem?_cons_zero, List.getElem?_cons_succ, xmap_s, if_true, and_self, Nat.reduceAdd, Nat.reduceLT, Nat.reduceLeDiff, Nat.reduceEqDiff, Nat.lt_add_one, Nat.zero_le, Nat.le_refl, Nat.le_zero_eq, Nat.zero_lt_succ, xldc, kbm10, kbm9, kbm8, kbm7, kbm6, kbm5, kbm4, kbm3, kbm2, kb6, kb7, kb8, kb9, kb10, kb11, kb16, kb19, kb20, kb30, kb31, kb32, kb34, kb40, kb64, kb100, kb127, kim1, ki0, ki1, ki2, ki3, ki4, ki5, ks128, ks400, ks999, ks1000, ks4010]
          refine ok_bt rfl ?_
          refine ok_nw rfl hW (by decide) rfl ?_
          intro h207 k208 w209 s211 og212
          obtain ⟨p210, ep210⟩ : ∃ p, p = h.1 := ⟨_, rfl⟩
          rw [← ep210] at w209 og212 ⊢
          rw [show xfn 2 = 13 from rfl] at s211
          have w213 := (og212 0 (ne_new hW h0 ep210)).trans h0
          have w214 := (og212 12 (ne_new hW f1 ep210)).trans f1
          have w215 := (og212 (53 + s) (ne_new hW cs ep210)).trans cs
          have hW := k208.1
          have hpn : ∀ q e, h.2.2 q = some e → q ≠ p210 := fun q e he z => by have := (hW0 q e he).1; omega
          have hx : hEx h h207 := fun q e he => (og212 q (hpn q e he)).trans he
          have hI := hI.kp k208 (by decide)
          iterate 5 (refine ok_st rfl rfl ?_; simp only [okS_some, xst, xp0, xp1, xp2, xp3, xp4, xp5, xload, xstore, xget_0, xget_s, xs_0, xs_1n, xs_1i, xs_1r, xs_1u, xs_1l, xs_s, xt_0, xt_1n, xt_1i, xt_1r, xt_1u, xt_1l, xt_s, xisref, xq0, Value.category, xcat, List.map_nil, List.map_cons, List.sum_nil, List.sum_cons, List.length_cons, List.length_nil, List.getElem?_cons_zero, List.getElem?_cons_succ, xmap_s, if_true, and_self, Nat.reduceAdd, Nat.reduceLT, Nat.reduceLeDiff, Nat.reduceEqDiff, Nat.lt_add_one, Nat.zero_le, Nat.le_refl, Nat.le_zero_eq, Nat.zero_lt_succ, xldc, kbm10, kbm9, kbm8, kbm7, kbm6, kbm5, kbm4, kbm3, kbm2, kb6, kb7, kb8, kb9, kb10, kb11, kb16, kb19, kb20, kb30, kb31, kb32, kb34, kb40, kb64, kb100, kb127, kim1, ki0, ki1, ki2, ki3, ki4, ki5, ks128, ks400, ks999, ks1000, ks4010])
          refine ok_st rfl rfl ?_
          simp only [okS_some, xst, xp0, xp1, xp2, xp3, xp4, xp5, xload, xstore, xget_0, xget_s, xs_0, xs_1n, xs_1i, xs_1r, xs_1u, xs_1l, xs_s, xt_0, xt_1n, xt_1i, xt_1r, xt_1u, xt_1l, xt_s, xisref, xq0, Value.category, xcat, List.map_nil, List.map_cons, List.sum_nil, List.sum_cons, List.length_cons, List.length_nil, List.getElem?_cons_zero, List.getElem?_cons_succ, xmap_s, if_true, and_self, Nat.reduceAdd, Nat.reduceLT, Nat.reduceLeDiff, Nat.reduceEqDiff, Nat.lt_add_one, Nat.zero_le, Nat.le_refl, Nat.le_zero_eq, Nat.zero_lt_succ, xldc, kbm10, kbm9, kbm8, kbm7, kbm6, kbm5, kbm4, kbm3, kbm2, kb6, kb7, kb8, kb9, kb10, kb11, kb16, kb19, kb20, kb30, kb31, kb32, kb34, kb40, kb64, kb100, kb127, kim1, ki0, ki1, ki2, ki3, ki4, ki5, ks128, ks400, ks999, ks1000, ks4010, w213]
          iterate 3 (refine ok_st rfl rfl ?_; simp only [okS_some, xst, xp0, xp1, xp2, xp3, xp4, xp5, xload, xstore, xget_0, xget_s, xs_0, xs_1n, xs_1i, xs_1r, xs_1u, xs_1l, xs_s, xt_0, xt_1n, xt_1i, xt_1r, xt_1u, xt_1l, xt_s, xisref, xq0, Value.category, xcat, List.map_nil, List.map_cons, List.sum_nil, List.sum_cons, List.length_cons, List.length_nil, List.getElem?_cons_zero, List.getElem?_cons_succ, xmap_s, if_true, and_self, Nat.reduceAdd, Nat.reduceLT, Nat.reduceLeDiff, Nat.reduceEqDiff, Nat.lt_add_one, Nat.zero_le, Nat.le_refl, Nat.le_zero_eq, Nat.zero_lt_succ, xldc, kbm10, kbm9, kbm8, kbm7, kbm6, kbm5, kbm4, kbm3, kbm2, kb6, kb7, kb8, kb9, kb10, kb11, kb16, kb19, kb20, kb30, kb31, kb32, kb34, kb40, kb64, kb100, kb127, kim1, ki0, ki1, ki2, ki3, ki4, ki5, ks128, ks400, ks999, ks1000, ks4010])
          refine ok_cm (vs := [_, _, _, _, _, _]) rfl rfl rfl rfl (Nat.le_of_ble_eq_true rfl) (Nat.le_of_ble_eq_true rfl) rfl (by decide) hW (ix7 hW w209) ?_
          rintro _ h218 ⟨rfl, w219, og220⟩ k216 al217
          dsimp only [Option.toList, List.cons_append, List.nil_append, Nat.reduceAdd]
          have w221 := (og220 0 (ne_oo w213 w209 (by decide))).trans w213
          have w222 := (og220 12 (Ne.symm (ne_oa w209 w214))).trans w214
          have w223 := (og220 (53 + s) (ne_oo w215 w209 (by decide))).trans w215
          have hW := k216.1
          have hI := hI.kp k216 (by decide)
          have hx : hEx h h218 := fun q e he => (og220 q (hpn q e he)).trans (hx q e he)
          iterate 5 (refine ok_st rfl rfl ?_; simp only [okS_some, xst, xp0, xp1, xp2, xp3, xp4, xp5, xload, xstore, xget_0, xget_s, xs_0, xs_1n, xs_1i, xs_1r, xs_1u, xs_1l, xs_s, xt_0, xt_1n, xt_1i, xt_1r, xt_1u, xt_1l, xt_s, xisref, xq0, Value.category, xcat, List.map_nil, List.map_cons, List.sum_nil, List.sum_cons, List.length_cons, List.length_nil, List.getElem?_cons_zero, List.getElem?_cons_succ, xmap_s, if_true, and_self, Nat.reduceAdd, Nat.reduceLT, Nat.reduceLeDiff, Nat.reduceEqDiff, Nat.lt_add_one, Nat.zero_le, Nat.le_refl, Nat.le_zero_eq, Nat.zero_lt_succ, xldc, kbm10, kbm9, kbm8, kbm7, kbm6, kbm5, kbm4, kbm3, kbm2, kb6, kb7, kb8, kb9, kb10, kb11, kb16, kb19, kb20, kb30, kb31, kb32, kb34, kb40, kb64, kb100, kb127, kim1, ki0, ki1, ki2, ki3, ki4, ki5, ks128, ks400, ks999, ks1000, ks4010])
          refine ok_cm (vs := [_, _, _, _]) rfl rfl rfl rfl (Nat.le_of_ble_eq_true rfl) (Nat.le_of_ble_eq_true rfl) (by show xcl0 2 2 _ _ = true; simp [xcl0, w219]) (by decide) hW (ix8 hW w219) ?_
          rintro _ h226 ⟨rfl, w227, og228⟩ k224 al225
          dsimp only [Option.toList, List.cons_append, List.nil_append, Nat.reduceAdd]
          have w229 := (og228 0 (ne_oo w221 w219 (by decide))).trans w221
          have w230 := (og228 12 (Ne.symm (ne_oa w219 w222))).trans w222
          have w231 := (og228 (53 + s) (ne_oo w223 w219 (by decide))).trans w223
          have hW := k224.1
          have hI := hI.kp k224 (by decide)
          have hx : hEx h h226 := fun q e he => (og228 q (hpn q e he)).trans (hx q e he)
          iterate 3 (refine ok_st rfl rfl ?_; simp only [okS_some, xst, xp0, xp1, xp2, xp3, xp4, xp5, xload, xstore, xget_0, xget_s, xs_0, xs_1n, xs_1i, xs_1r, xs_1u, xs_1l, xs_s, xt_0, xt_1n, xt_1i, xt_1r, xt_1u, xt_1l, xt_s, xisref, xq0, Value.category, xcat, List.map_nil, List.map_cons, List.sum_nil, List.sum_cons, List.length_cons, List.length_nil, List.getElem?_cons_zero, List.getElem?_cons_succ, xmap_s, if_true, and_self, Nat.reduceAdd, Nat.reduceLT, Nat.reduceLeDiff, Nat.reduceEqDiff, Nat.lt_add_one, Nat.zero_le, Nat.le_refl, Nat.le_zero_eq, Nat.zero_lt_succ, xldc, kbm10, kbm9, kbm8, kbm7, kbm6, kbm5, kbm4, kbm3, kbm2, kb6, kb7, kb8, kb9, kb10, kb11, kb16, kb19, kb20, kb30, kb31, kb32, kb34, kb40, kb64, kb100, kb127, kim1, ki0, ki1, ki2, ki3, ki4, ki5, ks128, ks400, ks999, ks1000, ks4010])
          refine ok_cm (vs := [_, _, _]) rfl rfl rfl rfl (Nat.le_of_ble_eq_true rfl) (Nat.le_of_ble_eq_true rfl) (by show xcl0 2 8 _ _ = true; simp [xcl0, w229]) (by decide) hW (br_r hW hI (by omega) (cS_ex hS hx) (jZ_ex hj hx) hM w227 (fun n hn z => hpn _ _ (hcell n hn) z.symm) hdI) ?_
          rintro _ h9 ⟨r, rfl, hb⟩ k232 al233
          dsimp only [Option.toList, List.cons_append, List.nil_append, Nat.reduceAdd]
          have hW := k232.1
          have hfk := brQ_fK hb
          have ws := hfk _ _ w231 (fun c fs z => by cases z; decide) (fun _ _ _ z => by cases z) (by omega) (by omega)
          iterate 3 (refine ok_st rfl rfl ?_; simp only [okS_some, xst, xp0, xp1, xp2, xp3, xp4, xp5, xload, xstore, xget_0, xget_s, xs_0, xs_1n, xs_1i, xs_1r, xs_1u, xs_1l, xs_s, xt_0, xt_1n, xt_1i, xt_1r, xt_1u, xt_1l, xt_s, xisref, xq0, Value.category, xcat, List.map_nil, List.map_cons, List.sum_nil, List.sum_cons, List.length_cons, List.length_nil, List.getElem?_cons_zero, List.getElem?_cons_succ, xmap_s, if_true, and_self, Nat.reduceAdd, Nat.reduceLT, Nat.reduceLeDiff, Nat.reduceEqDiff, Nat.lt_add_one, Nat.zero_le, Nat.le_refl, Nat.le_zero_eq, Nat.zero_lt_succ, xldc, kbm10, kbm9, kbm8, kbm7, kbm6, kbm5, kbm4, kbm3, kbm2, kb6, kb7, kb8, kb9, kb10, kb11, kb16, kb19, kb20, kb30, kb31, kb32, kb34, kb40, kb64, kb100, kb127, kim1, ki0, ki1, ki2, ki3, ki4, ki5, ks128, ks400, ks999, ks1000, ks4010])
          refine ok_if (fun cr => ?_) (fun cr => ?_)
          · simp only [xcnd, decide_eq_true_eq, decide_eq_false_iff_not, Bool.not_eq_true', Bool.not_eq_false'] at cr
            refine ok_st rfl rfl ?_
            simp only [okS_some, xst, xp0, xp1, xp2, xp3, xp4, xp5, xload, xstore, xget_0, xget_s, xs_0, xs_1n, xs_1i, xs_1r, xs_1u, xs_1l, xs_s, xt_0, xt_1n, xt_1i, xt_1r, xt_1u, xt_1l, xt_s, xisref, xq0, Value.category, xcat, List.map_nil, List.map_cons, List.sum_nil, List.sum_cons, List.length_cons, List.length_nil, List.getElem?_cons_zero, List.getElem?_cons_succ, xmap_s, if_true, and_self, Nat.reduceAdd, Nat.reduceLT, Nat.reduceLeDiff, Nat.reduceEqDiff, Nat.lt_add_one, Nat.zero_le, Nat.le_refl, Nat.le_zero_eq, Nat.zero_lt_succ, xldc, kbm10, kbm9, kbm8, kbm7, kbm6, kbm5, kbm4, kbm3, kbm2, kb6, kb7, kb8, kb9, kb10, kb11, kb16, kb19, kb20, kb30, kb31, kb32, kb34, kb40, kb64, kb100, kb127, kim1, ki0, ki1, ki2, ki3, ki4, ki5, ks128, ks400, ks999, ks1000, ks4010]
            refine ok_r1 rfl rfl rfl rfl ?_
            try dsimp only
            refine Or.inr ⟨s, hs, rfl, Int32.not_lt.mpr c0, ?_⟩
            refine Or.inr ⟨co, Or.inr ⟨c9, r, p210, h226, h9, rfl, hx, hpn, cS_ex hS hx, jZ_ex hj hx, hb, ?_⟩⟩
            exact Or.inl ⟨cr, rfl⟩
          · simp only [xcnd, decide_eq_true_eq, decide_eq_false_iff_not, Bool.not_eq_true', Bool.not_eq_false'] at cr
            iterate 2 (refine ok_st rfl rfl ?_; simp only [okS_some, xst, xp0, xp1, xp2, xp3, xp4, xp5, xload, xstore, xget_0, xget_s, xs_0, xs_1n, xs_1i, xs_1r, xs_1u, xs_1l, xs_s, xt_0, xt_1n, xt_1i, xt_1r, xt_1u, xt_1l, xt_s, xisref, xq0, Value.category, xcat, List.map_nil, List.map_cons, List.sum_nil, List.sum_cons, List.length_cons, List.length_nil, List.getElem?_cons_zero, List.getElem?_cons_succ, xmap_s, if_true, and_self, Nat.reduceAdd, Nat.reduceLT, Nat.reduceLeDiff, Nat.reduceEqDiff, Nat.lt_add_one, Nat.zero_le, Nat.le_refl, Nat.le_zero_eq, Nat.zero_lt_succ, xldc, kbm10, kbm9, kbm8, kbm7, kbm6, kbm5, kbm4, kbm3, kbm2, kb6, kb7, kb8, kb9, kb10, kb11, kb16, kb19, kb20, kb30, kb31, kb32, kb34, kb40, kb64, kb100, kb127, kim1, ki0, ki1, ki2, ki3, ki4, ki5, ks128, ks400, ks999, ks1000, ks4010])
            refine ok_cm (vs := [_, _]) rfl rfl rfl rfl (Nat.le_of_ble_eq_true rfl) (Nat.le_of_ble_eq_true rfl) (by show xcl0 2 6 _ _ = true; simp [xcl0, ws]) (by decide) hW (ix39 hW ws) ?_
            rintro _ h10 ⟨rfl, w39, o39⟩ k234 al235
            dsimp only [Option.toList, List.cons_append, List.nil_append, Nat.reduceAdd]
            refine ok_st rfl rfl ?_
            simp only [okS_some, xst, xp0, xp1, xp2, xp3, xp4, xp5, xload, xstore, xget_0, xget_s, xs_0, xs_1n, xs_1i, xs_1r, xs_1u, xs_1l, xs_s, xt_0, xt_1n, xt_1i, xt_1r, xt_1u, xt_1l, xt_s, xisref, xq0, Value.category, xcat, List.map_nil, List.map_cons, List.sum_nil, List.sum_cons, List.length_cons, List.length_nil, List.getElem?_cons_zero, List.getElem?_cons_succ, xmap_s, if_true, and_self, Nat.reduceAdd, Nat.reduceLT, Nat.reduceLeDiff, Nat.reduceEqDiff, Nat.lt_add_one, Nat.zero_le, Nat.le_refl, Nat.le_zero_eq, Nat.zero_lt_succ, xldc, kbm10, kbm9, kbm8, kbm7, kbm6, kbm5, kbm4, kbm3, kbm2, kb6, kb7, kb8, kb9, kb10, kb11, kb16, kb19, kb20, kb30, kb31, kb32, kb34, kb40, kb64, kb100, kb127, kim1, ki0, ki1, ki2, ki3, ki4, ki5, ks128, ks400, ks999, ks1000, ks4010]
            refine ok_r1 rfl rfl rfl rfl ?_
            try dsimp only
            refine Or.inr ⟨s, hs, rfl, Int32.not_lt.mpr c0, ?_⟩
            refine Or.inr ⟨co, Or.inr ⟨c9, r, p210, h226, h9, rfl, hx, hpn, cS_ex hS hx, jZ_ex hj hx, hb, ?_⟩⟩
            exact Or.inr ⟨Int32.not_lt.mpr (Int32.not_lt.mp cr), w39, o39⟩
    · simp only [xcnd, decide_eq_true_eq, decide_eq_false_iff_not, Bool.not_eq_true', Bool.not_eq_false'] at c0
      refine ok_st rfl rfl ?_
      simp only [okS_some, xst, xp0, xp1, xp2, xp3, xp4, xp5, xload, xstore, xget_0, xget_s, xs_0, xs_1n, xs_1i, xs_1r, xs_1u, xs_1l, xs_s, xt_0, xt_1n, xt_1i, xt_1r, xt_1u, xt_1l, xt_s, xisref, xq0, Value.category, xcat, List.map_nil, List.map_cons, List.sum_nil, List.sum_cons, List.length_cons, List.length_nil, List.getElem?_cons_zero, List.getElem?_cons_succ, xmap_s, if_true, and_self, Nat.reduceAdd, Nat.reduceLT, Nat.reduceLeDiff, Nat.reduceEqDiff, Nat.lt_add_one, Nat.zero_le, Nat.le_refl, Nat.le_zero_eq, Nat.zero_lt_succ, xldc, kbm10, kbm9, kbm8, kbm7, kbm6, kbm5, kbm4, kbm3, kbm2, kb6, kb7, kb8, kb9, kb10, kb11, kb16, kb19, kb20, kb30, kb31, kb32, kb34, kb40, kb64, kb100, kb127, kim1, ki0, ki1, ki2, ki3, ki4, ki5, ks128, ks400, ks999, ks1000, ks4010]
      refine ok_r1 rfl rfl rfl rfl ?_
      try dsimp only
      exact Or.inl ⟨rfl, fun z => z.2 (Int32.not_le.mp c0), rfl⟩
  · dsimp only [Option.toList, List.cons_append, List.nil_append, Nat.reduceAdd]
    iterate 4 (refine ok_st rfl rfl ?_; simp only [okS_some, xst, xp0, xp1, xp2, xp3, xp4, xp5, xload, xstore, xget_0, xget_s, xs_0, xs_1n, xs_1i, xs_1r, xs_1u, xs_1l, xs_s, xt_0, xt_1n, xt_1i, xt_1r, xt_1u, xt_1l, xt_s, xisref, xq0, Value.category, xcat, List.map_nil, List.map_cons, List.sum_nil, List.sum_cons, List.length_cons, List.length_nil, List.getElem?_cons_zero, List.getElem?_cons_succ, xmap_s, if_true, and_self, Nat.reduceAdd, Nat.reduceLT, Nat.reduceLeDiff, Nat.reduceEqDiff, Nat.lt_add_one, Nat.zero_le, Nat.le_refl, Nat.le_zero_eq, Nat.zero_lt_succ, xldc, kbm10, kbm9, kbm8, kbm7, kbm6, kbm5, kbm4, kbm3, kbm2, kb6, kb7, kb8, kb9, kb10, kb11, kb16, kb19, kb20, kb30, kb31, kb32, kb34, kb40, kb64, kb100, kb127, kim1, ki0, ki1, ki2, ki3, ki4, ki5, ks128, ks400, ks999, ks1000, ks4010])
    refine ok_r1 rfl rfl rfl rfl ?_
    try dsimp only
    exact Or.inl ⟨rfl, fun z => hno z.1, rfl⟩
set_option maxRecDepth 20000 in
set_option maxHeartbeats 4000000 in
/-- ToldHouse.step(I)I -/
theorem ix63 {X : Nat × (Nat → Int32)} {h : xH} (hW : xWF h) {c : Nat} {td vc dc : Int32} (hI : cI c td vc dc h) (hc : c ≤ 1026) {A : Nat → Nat → Int32} {M : Nat} {a T : Nat → Nat} (hS : cS h A M a T) (hj : jZ h) (hM : M ≤ 400) (hdI : ∀ s, s < 20 → dI A (mst A s) M){gd : Nat → Option Nat} {da tl lg en un : Nat → Nat} {b0 how : Nat → Int32} {gl : Nat → Nat → Option Nat} {lq : Nat → Nat → Nat} {s0 am : Nat → Nat → Int32} {chv : Nat → Nat → Value} {D : Nat} (hD : D ≤ 10) (hdc : dc = nI D) (f1 : h.2.2 11 = some (.inl (5, 10, .inr (.inr gd)))) (f2 : ∀ d, d < D → gd d = some (da d)) (f3 : ∀ d, d < D → h.2.2 (da d) = some (.inr (1, [.int (b0 d), .int (how d), .int (nI (lg d)), .int (nI (en d)), .int (nI (un d)), .ref (tl d)]))) (f4 : ∀ d, d < D → h.2.2 (tl d) = some (.inl (8, 4, .inr (.inr (gl d))))) (f5 : ∀ d, d < D → lg d ≤ 4 ∧ en d ≤ lg d) (f6 : ∀ d, d < D → how d = 1 → en d < lg d) (f7 : ∀ d, d < D → how d = 2 → un d < en d) (f8 : ∀ d k, d < D → k < lg d → gl d k = some (lq d k) ∧ h.2.2 (lq d k) = some (.inr (4, [.int (s0 d k), .int (am d k), chv d k]))) (f9 : ∀ d k, d < D → k < en d → ∃ x, x < M ∧ chv d k = .ref (a x)) {x1 : Int32} : okM X 63 [.ref 0, .int x1] h (fun v h' => (v = some (.int (-2)) ∧ ¬ (∃ d, d < D ∧ x1 = nI d) ∧ h = h') ∨ ∃ d, d < D ∧ x1 = nI d ∧ ((how d = 1 ∧ ∃ r p1 h1 h9, v = some (.int r) ∧ hEx h h1 ∧ (∀ x f, h.2.2 x = some f → x ≠ p1) ∧ cS h1 A M a T ∧ jZ h1 ∧ brQ h1 h9 A (rowA A M (s0 d (en d)) 1 1 (am d (en d)) 9 td td (-1) (b0 d)) M a p1 (s0 d (en d)) 1 1 (am d (en d)) 9 td td (-1) (-1) r ∧ ((r < 0 ∧ h'.2.2 (da d) = some (.inr (1, [.int (b0 d), .int (if (en d) = 0 then 4 else 2), .int (nI (lg d)), .int (nI (en d)), .int (nI (un d)), .ref (tl d)])) ∧ ∀ x, x ≠ (da d) → h'.2.2 x = h9.2.2 x) ∨ (¬ r < 0 ∧ h'.2.2 (lq d (en d)) = some (.inr (4, [.int (s0 d (en d)), .int (am d (en d)), .ref p1])) ∧ h'.2.2 (da d) = some (.inr (1, [.int (b0 d), .int (if (en d) + 1 = (lg d) then 3 else (how d)), .int (nI (lg d)), .int (nI ((en d) + 1)), .int (nI (un d)), .ref (tl d)])) ∧ ∀ x, x ≠ (da d) → x ≠ (lq d (en d)) → h'.2.2 x = h9.2.2 x))) ∨ (how d = 2 ∧ ∃ x, x < M ∧ chv d (en d - un d - 1) = .ref (a x) ∧ ∃ r p1 h1 h9, v = some (.int r) ∧ hEx h h1 ∧ (∀ x f, h.2.2 x = some f → x ≠ p1) ∧ cS h1 A M a T ∧ jZ h1 ∧ brQ h1 h9 A (rowA A M (s0 d (en d - un d - 1)) 4 0 0 0 td td (hfl A x 3) (b0 d)) M a p1 (s0 d (en d - un d - 1)) 4 0 0 0 td td (hfl A x 3) (-1) r ∧ ((r < 0 ∧ h9 = h') ∨ (¬ r < 0 ∧ h'.2.2 (da d) = some (.inr (1, [.int (b0 d), .int (if (un d) + 1 = (en d) then 4 else (how d)), .int (nI (lg d)), .int (nI (en d)), .int (nI ((un d) + 1)), .ref (tl d)])) ∧ ∀ x, x ≠ (da d) → h'.2.2 x = h9.2.2 x))) ∨ (¬ how d = 1 ∧ ¬ how d = 2 ∧ v = some (.int (-1)) ∧ h = h'))) := by
  have h0 := hI.1
  obtain ⟨Vv, Mv, hcell⟩ := hS.2.2.2.2.1
  subst hdc
  show ok X cd63 (0, [some (.ref 0), some (.int x1), none], []) h _
  iterate 2 (refine ok_st rfl rfl ?_; simp only [okS_some, xst, xp0, xp1, xp2, xp3, xp4, xp5, xload, xstore, xget_0, xget_s, xs_0, xs_1n, xs_1i, xs_1r, xs_1u, xs_1l, xs_s, xt_0, xt_1n, xt_1i, xt_1r, xt_1u, xt_1l, xt_s, xisref, xq0, Value.category, xcat, List.map_nil, List.map_cons, List.sum_nil, List.sum_cons, List.length_cons, List.length_nil, List.getElem?_cons_zero, List.getElem?_cons_succ, xmap_s, if_true, and_self, Nat.reduceAdd, Nat.reduceLT, Nat.reduceLeDiff, Nat.reduceEqDiff, Nat.lt_add_one, Nat.zero_le, Nat.le_refl, Nat.le_zero_eq, Nat.zero_lt_succ, xldc, kbm10, kbm9, kbm8, kbm7, kbm6, kbm5, kbm4, kbm3, kbm2, kb6, kb7, kb8, kb9, kb10, kb11, kb16, kb19, kb20, kb30, kb31, kb32, kb34, kb40, kb64, kb100, kb127, kim1, ki0, ki1, ki2, ki3, ki4, ki5, ks128, ks400, ks999, ks1000, ks4010])
  refine ok_cm (vs := [_, _]) rfl rfl rfl rfl (Nat.le_of_ble_eq_true rfl) (Nat.le_of_ble_eq_true rfl) (by show xcl0 2 8 _ _ = true; simp [xcl0, h0]) (by decide) hW (ix75 hW h0 hD f1 f2) ?_
  rintro _ _ ⟨rfl, ⟨d, hd, rfl, rfl⟩ | ⟨hno, rfl⟩⟩ k201 al202
  · dsimp only [Option.toList, List.cons_append, List.nil_append, Nat.reduceAdd]
    have cp := f3 d hd
    have ctl := f4 d hd
    iterate 4 (refine ok_st rfl rfl ?_; simp only [okS_some, xst, xp0, xp1, xp2, xp3, xp4, xp5, xload, xstore, xget_0, xget_s, xs_0, xs_1n, xs_1i, xs_1r, xs_1u, xs_1l, xs_s, xt_0, xt_1n, xt_1i, xt_1r, xt_1u, xt_1l, xt_s, xisref, xq0, Value.category, xcat, List.map_nil, List.map_cons, List.sum_nil, List.sum_cons, List.length_cons, List.length_nil, List.getElem?_cons_zero, List.getElem?_cons_succ, xmap_s, if_true, and_self, Nat.reduceAdd, Nat.reduceLT, Nat.reduceLeDiff, Nat.reduceEqDiff, Nat.lt_add_one, Nat.zero_le, Nat.le_refl, Nat.le_zero_eq, Nat.zero_lt_succ, xldc, kbm10, kbm9, kbm8, kbm7, kbm6, kbm5, kbm4, kbm3, kbm2, kb6, kb7, kb8, kb9, kb10, kb11, kb16, kb19, kb20, kb30, kb31, kb32, kb34, kb40, kb64, kb100, kb127, kim1, ki0, ki1, ki2, ki3, ki4, ki5, ks128, ks400, ks999, ks1000, ks4010])
    refine ok_st rfl rfl ?_
    simp only [okS_some, xst, xp0, xp1, xp2, xp3, xp4, xp5, xload, xstore, xget_0, xget_s, xs_0, xs_1n, xs_1i, xs_1r, xs_1u, xs_1l, xs_s, xt_0, xt_1n, xt_1i, xt_1r, xt_1u, xt_1l, xt_s, xisref, xq0, Value.category, xcat, List.map_nil, List.map_cons, List.sum_nil, List.sum_cons, List.length_cons, List.length_nil, List.getElem?_cons_zero, List.getElem?_cons_succ, xmap_s, if_true, and_self, Nat.reduceAdd, Nat.reduceLT, Nat.reduceLeDiff, Nat.reduceEqDiff, Nat.lt_add_one, Nat.zero_le, Nat.le_refl, Nat.le_zero_eq, Nat.zero_lt_succ, xldc, kbm10, kbm9, kbm8, kbm7, kbm6, kbm5, kbm4, kbm3, kbm2, kb6, kb7, kb8, kb9, kb10, kb11, kb16, kb19, kb20, kb30, kb31, kb32, kb34, kb40, kb64, kb100, kb127, kim1, ki0, ki1, ki2, ki3, ki4, ki5, ks128, ks400, ks999, ks1000, ks4010, cp]
    refine ok_st rfl rfl ?_
    simp only [xst, xp6, xmap_s, okS_some]
    show ok X cd63 (xlw 17 39 _ [(1, 27), (2, 33)], _, _) _ _
    refine ok_lw_c (fun cs1 => ?_) (fun cs1 => ?_)
    · show ok X cd63 (44, _, _) _ _
      iterate 2 (refine ok_st rfl rfl ?_; simp only [okS_some, xst, xp0, xp1, xp2, xp3, xp4, xp5, xload, xstore, xget_0, xget_s, xs_0, xs_1n, xs_1i, xs_1r, xs_1u, xs_1l, xs_s, xt_0, xt_1n, xt_1i, xt_1r, xt_1u, xt_1l, xt_s, xisref, xq0, Value.category, xcat, List.map_nil, List.map_cons, List.sum_nil, List.sum_cons, List.length_cons, List.length_nil, List.getElem?_cons_zero, List.getElem?_cons_succ, xmap_s, if_true, and_self, Nat.reduceAdd, Nat.reduceLT, Nat.reduceLeDiff, Nat.reduceEqDiff, Nat.lt_add_one, Nat.zero_le, Nat.le_refl, Nat.le_zero_eq, Nat.zero_lt_succ, xldc, kbm10, kbm9, kbm8, kbm7, kbm6, kbm5, kbm4, kbm3, kbm2, kb6, kb7, kb8, kb9, kb10, kb11, kb16, kb19, kb20, kb30, kb31, kb32, kb34, kb40, kb64, kb100, kb127, kim1, ki0, ki1, ki2, ki3, ki4, ki5, ks128, ks400, ks999, ks1000, ks4010])
      have hh : how d = 1 := by rw [← Int32.toInt_inj, kt1]; exact cs1
      obtain ⟨g1, g2⟩ := f8 d (en d) hd (f6 d hd hh)
      refine ok_cm (vs := [_, _]) rfl rfl rfl rfl (Nat.le_of_ble_eq_true rfl) (Nat.le_of_ble_eq_true rfl) (by show xcl0 2 8 _ _ = true; simp [xcl0, h0]) (by decide) hW (ix82 hW hI hc hS hj hM hdI (f5 d hd).1 (f6 d hd hh) cp ctl g1 g2) ?_
      rintro _ h7 ⟨r, p1, h1, h9, rfl, hq⟩ k203 al204
      dsimp only [Option.toList, List.cons_append, List.nil_append, Nat.reduceAdd]
      refine ok_r1 rfl rfl rfl rfl ?_
      try dsimp only
      refine Or.inr ⟨d, hd, rfl, ?_⟩
      exact Or.inl ⟨hh, r, p1, h1, h9, rfl, hq⟩
    refine ok_lw_c (fun cs2 => ?_) (fun cs2 => ?_)
    · show ok X cd63 (50, _, _) _ _
      iterate 2 (refine ok_st rfl rfl ?_; simp only [okS_some, xst, xp0, xp1, xp2, xp3, xp4, xp5, xload, xstore, xget_0, xget_s, xs_0, xs_1n, xs_1i, xs_1r, xs_1u, xs_1l, xs_s, xt_0, xt_1n, xt_1i, xt_1r, xt_1u, xt_1l, xt_s, xisref, xq0, Value.category, xcat, List.map_nil, List.map_cons, List.sum_nil, List.sum_cons, List.length_cons, List.length_nil, List.getElem?_cons_zero, List.getElem?_cons_succ, xmap_s, if_true, and_self, Nat.reduceAdd, Nat.reduceLT, Nat.reduceLeDiff, Nat.reduceEqDiff, Nat.lt_add_one, Nat.zero_le, Nat.le_refl, Nat.le_zero_eq, Nat.zero_lt_succ, xldc, kbm10, kbm9, kbm8, kbm7, kbm6, kbm5, kbm4, kbm3, kbm2, kb6, kb7, kb8, kb9, kb10, kb11, kb16, kb19, kb20, kb30, kb31, kb32, kb34, kb40, kb64, kb100, kb127, kim1, ki0, ki1, ki2, ki3, ki4, ki5, ks128, ks400, ks999, ks1000, ks4010])
      have hh : how d = 2 := by rw [← Int32.toInt_inj, kt2]; exact cs2
      have hu := f7 d hd hh
      obtain ⟨g1, g2⟩ := f8 d (en d - un d - 1) hd (by have := (f5 d hd).2; omega)
      obtain ⟨x, hx1, hx2⟩ := f9 d (en d - un d - 1) hd (by omega)
      rw [hx2] at g2
      refine ok_cm (vs := [_, _]) rfl rfl rfl rfl (Nat.le_of_ble_eq_true rfl) (Nat.le_of_ble_eq_true rfl) (by show xcl0 2 8 _ _ = true; simp [xcl0, h0]) (by decide) hW (ix83 hW hI hc hS hj hM hdI (f5 d hd).1 (f5 d hd).2 hu cp ctl g1 g2 (hcell x hx1)) ?_
      rintro _ h7 ⟨r, p1, h1, h9, rfl, hq⟩ k205 al206
      dsimp only [Option.toList, List.cons_append, List.nil_append, Nat.reduceAdd]
      refine ok_r1 rfl rfl rfl rfl ?_
      try dsimp only
      refine Or.inr ⟨d, hd, rfl, ?_⟩
      exact Or.inr (Or.inl ⟨hh, x, hx1, hx2, r, p1, h1, h9, rfl, hq⟩)
    show ok X cd63 (56, _, _) _ _
    refine ok_st rfl rfl ?_
    simp only [okS_some, xst, xp0, xp1, xp2, xp3, xp4, xp5, xload, xstore, xget_0, xget_s, xs_0, xs_1n, xs_1i, xs_1r, xs_1u, xs_1l, xs_s, xt_0, xt_1n, xt_1i, xt_1r, xt_1u, xt_1l, xt_s, xisref, xq0, Value.category, xcat, List.map_nil, List.map_cons, List.sum_nil, List.sum_cons, List.length_cons, List.length_nil, List.getElem?_cons_zero, List.getElem?_cons_succ, xmap_s, if_true, and_self, Nat.reduceAdd, Nat.reduceLT, Nat.reduceLeDiff, Nat.reduceEqDiff, Nat.lt_add_one, Nat.zero_le, Nat.le_refl, Nat.le_zero_eq, Nat.zero_lt_succ, xldc, kbm10, kbm9, kbm8, kbm7, kbm6, kbm5, kbm4, kbm3, kbm2, kb6, kb7, kb8, kb9, kb10, kb11, kb16, kb19, kb20, kb30, kb31, kb32, kb34, kb40, kb64, kb100, kb127, kim1, ki0, ki1, ki2, ki3, ki4, ki5, ks128, ks400, ks999, ks1000, ks4010]
    refine ok_r1 rfl rfl rfl rfl ?_
    try dsimp only
    refine Or.inr ⟨d, hd, rfl, ?_⟩
    exact Or.inr (Or.inr ⟨fun z => cs1 (by rw [z]; rfl), fun z => cs2 (by rw [z]; rfl), rfl, rfl⟩)
  · dsimp only [Option.toList, List.cons_append, List.nil_append, Nat.reduceAdd]
    iterate 4 (refine ok_st rfl rfl ?_; simp only [okS_some, xst, xp0, xp1, xp2, xp3, xp4, xp5, xload, xstore, xget_0, xget_s, xs_0, xs_1n, xs_1i, xs_1r, xs_1u, xs_1l, xs_s, xt_0, xt_1n, xt_1i, xt_1r, xt_1u, xt_1l, xt_s, xisref, xq0, Value.category, xcat, List.map_nil, List.map_cons, List.sum_nil, List.sum_cons, List.length_cons, List.length_nil, List.getElem?_cons_zero, List.getElem?_cons_succ, xmap_s, if_true, and_self, Nat.reduceAdd, Nat.reduceLT, Nat.reduceLeDiff, Nat.reduceEqDiff, Nat.lt_add_one, Nat.zero_le, Nat.le_refl, Nat.le_zero_eq, Nat.zero_lt_succ, xldc, kbm10, kbm9, kbm8, kbm7, kbm6, kbm5, kbm4, kbm3, kbm2, kb6, kb7, kb8, kb9, kb10, kb11, kb16, kb19, kb20, kb30, kb31, kb32, kb34, kb40, kb64, kb100, kb127, kim1, ki0, ki1, ki2, ki3, ki4, ki5, ks128, ks400, ks999, ks1000, ks4010])
    refine ok_r1 rfl rfl rfl rfl ?_
    try dsimp only
    exact Or.inl ⟨rfl, hno, rfl⟩
