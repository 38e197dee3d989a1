/-! EXACT: commands of the class -/
def rowA (A : Nat → Nat → Int32) (M : Nat) (x0 x2 x3 x4 x5 x6 x7 x8 x9 : Int32) : Nat → Nat → Int32 := mrw A M x0 (nI (mcn (mst A x0.toNatClampNeg) M)) x2 x3 x4 x5 x6 x7 x8 x9
def kP (h h' : xH) (A : Nat → Nat → Int32) (M : Nat) (a : Nat → Nat) : Prop := ∃ T', cS h' A M a T' ∧ jZ h' ∧ fK h h'
/-- what a command does: as bring, and what was there stays -/
def cmQ (h h' : xH) (A A' : Nat → Nat → Int32) (M : Nat) (a : Nat → Nat) (x0 x4 x5 x6 x7 x8 x9 x10 x2 r : Int32) : Prop :=
  (r = -2 ∧ ¬ ((∃ s, s < 20 ∧ x0 = nI s) ∧ asT x4 x5 x6 x7 x8 x9) ∧ kP h h' A M a) ∨
  ∃ s, s < 20 ∧ x0 = nI s ∧ asT x4 x5 x6 x7 x8 x9 ∧
    ((r = -3 ∧ ¬ x2 = -1 ∧ ¬ x2 = nI (mcn (mst A s) M) ∧ kP h h' A M a) ∨
    ((x2 = -1 ∨ x2 = nI (mcn (mst A s) M)) ∧
      ((r = -4 ∧ ¬ M < 400 ∧ kP h h' A M a) ∨
      (M < 400 ∧
        ((r = -5 ∧ ¬ ((x4 ≤ 2 ∧ x10 = -1) ∨ (¬ x4 ≤ 2 ∧ ∃ k, k < mcn (mst A s) M ∧ x10 = nI k ∧ (x4 = 4 ∨ lF A (mst A s) M k 4 ≤ 2))) ∧ kP h h' A M a) ∨
        (((x4 ≤ 2 ∧ x10 = -1) ∨ (¬ x4 ≤ 2 ∧ ∃ k, k < mcn (mst A s) M ∧ x10 = nI k ∧ (x4 = 4 ∨ lF A (mst A s) M k 4 ≤ 2))) ∧ ∃ (w : Int32) (z8 z9 : Nat → Int64), dZ z8 z9 ∧ vdR (wT (lF A' (mst A' s) (M + 1)) (mcn (mst A s) M + 1) z8 z9) w ∧
          ((¬ w = 0 ∧ r = w ∧ kP h h' A M a) ∨ (w = 0 ∧ r = nI M ∧ ∃ a' T', cS h' A' (M + 1) a' T' ∧ (∀ n, n < M → a' n = a n) ∧ jZ h' ∧ fK h h'))))))))
def hEx (h h1 : xH) : Prop := ∀ p e, h.2.2 p = some e → h1.2.2 p = some e
theorem cS_ex {h h1 : xH} {A : Nat → Nat → Int32} {M : Nat} {a T : Nat → Nat} (hS : cS h A M a T) (hx : hEx h h1) : cS h1 A M a T := by
  obtain ⟨⟨e1, l0, g0, e0, b0, c0⟩, ⟨gs, e3, c3⟩, h3, ⟨n4, l4, g4, e4, f4⟩, ⟨V, Mv, hc⟩, h6, h7⟩ := hS
  refine ⟨⟨hx _ _ e1, l0, g0, hx _ _ e0, b0, c0⟩, ⟨gs, hx _ _ e3, c3⟩, fun s hs => ?_, ⟨n4, l4, g4, hx _ _ e4, hx _ _ f4⟩, ⟨V, Mv, fun n hn => hx _ _ (hc n hn)⟩, h6, h7⟩
  obtain ⟨q1, len, g, q2, q3, q4⟩ := h3 s hs
  exact ⟨hx _ _ q1, len, g, hx _ _ q2, q3, q4⟩
theorem jZ_ex {h h1 : xH} (hj : jZ h) (hx : hEx h h1) : jZ h1 := by
  obtain ⟨⟨a1, a2, a3, a4, a5, a6, a7, s8, e6⟩, e7, g8, g9, e8, e9, hz⟩ := hj
  exact ⟨⟨a1, a2, a3, a4, a5, a6, a7, s8, hx _ _ e6⟩, hx _ _ e7, g8, g9, hx _ _ e8, hx _ _ e9, hz⟩
theorem fK_ex {h h1 : xH} (hx : hEx h h1) : fK h h1 := fun p e he _ _ _ _ => hx p e he
theorem cm_of {h h1 h' : xH} {A A' : Nat → Nat → Int32} {M p1 : Nat} {a T : Nat → Nat} {x0 x4 x5 x6 x7 x8 x9 x10 x2 r : Int32} (hS : cS h1 A M a T) (hj : jZ h1) (hf : fK h h1) (hb : brQ h1 h' A A' M a p1 x0 x4 x5 x6 x7 x8 x9 x10 x2 r) : cmQ h h' A A' M a x0 x4 x5 x6 x7 x8 x9 x10 x2 r := by
  have k0 : kP h h1 A M a := ⟨T, hS, hj, hf⟩
  have k1 : (∃ T', cS h' A M a T' ∧ jZ h' ∧ fK h1 h') → kP h h' A M a := fun ⟨T', q1, q2, q3⟩ => ⟨T', q1, q2, hf.tr q3⟩
  rcases hb with ⟨b1, b2, rfl⟩ | ⟨s, b1, b2, b3, ⟨c1, c2, c3, rfl⟩ | ⟨c1, ⟨d1, d2, rfl⟩ | ⟨d1, ⟨f1, f2, f3⟩ | ⟨f1, w, z8, z9, f2, f3, ⟨g1, g2, g3⟩ | ⟨g1, g2, T', g3, g4, g5⟩⟩⟩⟩⟩
  · exact Or.inl ⟨b1, b2, k0⟩
  · exact Or.inr ⟨s, b1, b2, b3, Or.inl ⟨c1, c2, c3, k0⟩⟩
  · exact Or.inr ⟨s, b1, b2, b3, Or.inr ⟨c1, Or.inl ⟨d1, d2, k0⟩⟩⟩
  · exact Or.inr ⟨s, b1, b2, b3, Or.inr ⟨c1, Or.inr ⟨d1, Or.inl ⟨f1, f2, k1 f3⟩⟩⟩⟩
  · exact Or.inr ⟨s, b1, b2, b3, Or.inr ⟨c1, Or.inr ⟨d1, Or.inr ⟨f1, w, z8, z9, f2, f3, Or.inl ⟨g1, g2, k1 g3⟩⟩⟩⟩⟩
  · refine Or.inr ⟨s, b1, b2, b3, Or.inr ⟨c1, Or.inr ⟨d1, Or.inr ⟨f1, w, z8, z9, f2, f3, Or.inr ⟨g1, g2, _, T', g3, fun n hn => ?_, g4, hf.tr g5⟩⟩⟩⟩⟩
    simp only [va_up]
    rw [if_neg (by omega)]
theorem rowA_lo {A : Nat → Nat → Int32} {M : Nat} {x0 x2 x3 x4 x5 x6 x7 x8 x9 : Int32} : ∀ i, i < 10 * M → rowA A M x0 x2 x3 x4 x5 x6 x7 x8 x9 58 i = A 58 i := fun i hi => mrw_lo hi
theorem rowA_1 {A : Nat → Nat → Int32} {M : Nat} {x0 x2 x3 x4 x5 x6 x7 x8 x9 : Int32} : ∀ s, s < 20 → x0 = nI s → rowA A M x0 x2 x3 x4 x5 x6 x7 x8 x9 58 (10 * M + 1) = nI (mcn (mst A s) M) := fun s hs e => by
  unfold rowA
  rw [mrw_at.2.1, e, nI_clamp (by omega)]
theorem rowA_2 {A : Nat → Nat → Int32} {M : Nat} {x0 x2 x3 x4 x5 x6 x7 x8 x9 : Int32} : rowA A M x0 x2 x3 x4 x5 x6 x7 x8 x9 58 (10 * M + 2) = x2 ∧ rowA A M x0 x2 x3 x4 x5 x6 x7 x8 x9 58 (10 * M + 3) = x3 ∧ rowA A M x0 x2 x3 x4 x5 x6 x7 x8 x9 58 (10 * M + 4) = x4 ∧ rowA A M x0 x2 x3 x4 x5 x6 x7 x8 x9 58 (10 * M + 5) = x5 ∧ rowA A M x0 x2 x3 x4 x5 x6 x7 x8 x9 58 (10 * M + 6) = x6 ∧ rowA A M x0 x2 x3 x4 x5 x6 x7 x8 x9 58 (10 * M + 7) = x7 ∧ rowA A M x0 x2 x3 x4 x5 x6 x7 x8 x9 58 (10 * M + 8) = x8 ∧ rowA A M x0 x2 x3 x4 x5 x6 x7 x8 x9 58 (10 * M + 9) = x9 := mrw_at.2.2
/-- bring, with the row that it writes -/
theorem br_r {X : Nat × (Nat → Int32)} {h : xH} (hW : xWF h) {c : Nat} {td vc dc : Int32} (hI : cI c td vc dc h) (hc : c ≤ 1026) {A : Nat → Nat → Int32} {M : Nat} {a T : Nat → Nat} (hS : cS h A M a T) (hj : jZ h) (hM : M ≤ 400) {p1 : Nat} {x0 x1 y2 y3 x4 x5 x6 x7 x8 x9 x10 v0 x2 : Int32} {m0 : Value} (hp1 : h.2.2 p1 = some (.inr (2, [.int x0, .int x1, .int y2, .int y3, .int x4, .int x5, .int x6, .int x7, .int x8, .int x9, .int x10, .int v0, m0]))) (hpa : ∀ n, n < M → p1 ≠ a n) (hdI : ∀ s, s < 20 → dI A (mst A s) M) : okM X 81 [.ref 0, .ref p1, .int x2] h (fun v h' => ∃ r, v = some (.int r) ∧ brQ h h' A (rowA A M x0 x4 x5 x6 x7 x8 x9 x10 x1) M a p1 x0 x4 x5 x6 x7 x8 x9 x10 x2 r) := ix81 hW hI hc hS hj hM hp1 hpa hdI rowA_lo mrw_at.1 rowA_1 rowA_2
set_option maxRecDepth 20000 in
set_option maxHeartbeats 4000000 in
/-- ToldHouse$Happening.<init>(IIIII)V -/
theorem ix7 {X : Nat × (Nat → Int32)} {h : xH} (hW : xWF h) {p0 : Nat} {x1 x2 x3 x4 x5 : Int32} (hp0 : h.2.2 p0 = some (.inr (2, [.int 0, .int 0, .int 0, .int 0, .int 0, .int 0, .int 0, .int 0, .int 0, .int 0, .int 0, .int 0, .null]))) : okM X 7 [.ref p0, .int x1, .int x2, .int x3, .int x4, .int x5] h (fun v h' => v = none ∧ h'.2.2 p0 = some (.inr (2, [.int x1, .int x5, .int (-1), .int (-1), .int x2, .int 0, .int 0, .int 0, .int x3, .int x4, .int (-1), .int 0, .null])) ∧ ∀ p, p ≠ p0 → h'.2.2 p = h.2.2 p) := by
  have ho : ∀ p, p ≠ p0 → h.2.2 p = h.2.2 p := fun _ _ => rfl
  show ok X cd7 (0, [some (.ref p0), some (.int x1), some (.int x2), some (.int x3), some (.int x4), some (.int x5)], []) h _
  iterate 4 (refine ok_st rfl rfl ?_; simp only [okS_some, xst, xp0, xp1, xp2, xp3, xp4, xp5, xload, xstore, xget_0, xget_s, xs_0, xs_1n, xs_1i, xs_1r, xs_1u, xs_1l, xs_s, xt_0, xt_1n, xt_1i, xt_1r, xt_1u, xt_1l, xt_s, xisref, xq0, Value.category, xcat, List.map_nil, List.map_cons, List.sum_nil, List.sum_cons, List.length_cons, List.length_nil, List.getElem?_cons_zero, List.getElem?_cons_succ, xmap_s, if_true, and_self, Nat.reduceAdd, Nat.reduceLT, Nat.reduceLeDiff, Nat.reduceEqDiff, Nat.lt_add_one, Nat.zero_le, Nat.le_refl, Nat.le_zero_eq, Nat.zero_lt_succ, xldc, kbm10, kbm9, kbm8, kbm7, kbm6, kbm5, kbm4, kbm3, kbm2, kb6, kb7, kb8, kb9, kb10, kb11, kb16, kb19, kb20, kb30, kb31, kb32, kb34, kb40, kb64, kb100, kb127, kim1, ki0, ki1, ki2, ki3, ki4, ki5, ks128, ks400, ks999, ks1000, ks4010])
  refine ok_pf rfl hW hp0 (Nat.le_of_ble_eq_true rfl) rfl rfl ?_
  intro h201 k202 w203 s204 og205
  dsimp only [List.set, Nat.reduceAdd] at w203 ⊢
  have hW := k202.1
  have ho := fun p (hp : p ≠ p0) => (og205 p hp).trans (ho p hp)
  iterate 2 (refine ok_st rfl rfl ?_; simp only [okS_some, xst, xp0, xp1, xp2, xp3, xp4, xp5, xload, xstore, xget_0, xget_s, xs_0, xs_1n, xs_1i, xs_1r, xs_1u, xs_1l, xs_s, xt_0, xt_1n, xt_1i, xt_1r, xt_1u, xt_1l, xt_s, xisref, xq0, Value.category, xcat, List.map_nil, List.map_cons, List.sum_nil, List.sum_cons, List.length_cons, List.length_nil, List.getElem?_cons_zero, List.getElem?_cons_succ, xmap_s, if_true, and_self, Nat.reduceAdd, Nat.reduceLT, Nat.reduceLeDiff, Nat.reduceEqDiff, Nat.lt_add_one, Nat.zero_le, Nat.le_refl, Nat.le_zero_eq, Nat.zero_lt_succ, xldc, kbm10, kbm9, kbm8, kbm7, kbm6, kbm5, kbm4, kbm3, kbm2, kb6, kb7, kb8, kb9, kb10, kb11, kb16, kb19, kb20, kb30, kb31, kb32, kb34, kb40, kb64, kb100, kb127, kim1, ki0, ki1, ki2, ki3, ki4, ki5, ks128, ks400, ks999, ks1000, ks4010])
  refine ok_pf rfl hW w203 (Nat.le_of_ble_eq_true rfl) rfl rfl ?_
  intro h206 k207 w208 s209 og210
  dsimp only [List.set, Nat.reduceAdd] at w208 ⊢
  have hW := k207.1
  have ho := fun p (hp : p ≠ p0) => (og210 p hp).trans (ho p hp)
  iterate 2 (refine ok_st rfl rfl ?_; simp only [okS_some, xst, xp0, xp1, xp2, xp3, xp4, xp5, xload, xstore, xget_0, xget_s, xs_0, xs_1n, xs_1i, xs_1r, xs_1u, xs_1l, xs_s, xt_0, xt_1n, xt_1i, xt_1r, xt_1u, xt_1l, xt_s, xisref, xq0, Value.category, xcat, List.map_nil, List.map_cons, List.sum_nil, List.sum_cons, List.length_cons, List.length_nil, List.getElem?_cons_zero, List.getElem?_cons_succ, xmap_s, if_true, and_self, Nat.reduceAdd, Nat.reduceLT, Nat.reduceLeDiff, Nat.reduceEqDiff, Nat.lt_add_one, Nat.zero_le, Nat.le_refl, Nat.le_zero_eq, Nat.zero_lt_succ, xldc, kbm10, kbm9, kbm8, kbm7, kbm6, kbm5, kbm4, kbm3, kbm2, kb6, kb7, kb8, kb9, kb10, kb11, kb16, kb19, kb20, kb30, kb31, kb32, kb34, kb40, kb64, kb100, kb127, kim1, ki0, ki1, ki2, ki3, ki4, ki5, ks128, ks400, ks999, ks1000, ks4010])
  refine ok_pf rfl hW w208 (Nat.le_of_ble_eq_true rfl) rfl rfl ?_
  intro h211 k212 w213 s214 og215
  dsimp only [List.set, Nat.reduceAdd] at w213 ⊢
  have hW := k212.1
  have ho := fun p (hp : p ≠ p0) => (og215 p hp).trans (ho p hp)
  iterate 2 (refine ok_st rfl rfl ?_; simp only [okS_some, xst, xp0, xp1, xp2, xp3, xp4, xp5, xload, xstore, xget_0, xget_s, xs_0, xs_1n, xs_1i, xs_1r, xs_1u, xs_1l, xs_s, xt_0, xt_1n, xt_1i, xt_1r, xt_1u, xt_1l, xt_s, xisref, xq0, Value.category, xcat, List.map_nil, List.map_cons, List.sum_nil, List.sum_cons, List.length_cons, List.length_nil, List.getElem?_cons_zero, List.getElem?_cons_succ, xmap_s, if_true, and_self, Nat.reduceAdd, Nat.reduceLT, Nat.reduceLeDiff, Nat.reduceEqDiff, Nat.lt_add_one, Nat.zero_le, Nat.le_refl, Nat.le_zero_eq, Nat.zero_lt_succ, xldc, kbm10, kbm9, kbm8, kbm7, kbm6, kbm5, kbm4, kbm3, kbm2, kb6, kb7, kb8, kb9, kb10, kb11, kb16, kb19, kb20, kb30, kb31, kb32, kb34, kb40, kb64, kb100, kb127, kim1, ki0, ki1, ki2, ki3, ki4, ki5, ks128, ks400, ks999, ks1000, ks4010])
  refine ok_pf rfl hW w213 (Nat.le_of_ble_eq_true rfl) rfl rfl ?_
  intro h216 k217 w218 s219 og220
  dsimp only [List.set, Nat.reduceAdd] at w218 ⊢
  have hW := k217.1
  have ho := fun p (hp : p ≠ p0) => (og220 p hp).trans (ho p hp)
  iterate 2 (refine ok_st rfl rfl ?_; simp only [okS_some, xst, xp0, xp1, xp2, xp3, xp4, xp5, xload, xstore, xget_0, xget_s, xs_0, xs_1n, xs_1i, xs_1r, xs_1u, xs_1l, xs_s, xt_0, xt_1n, xt_1i, xt_1r, xt_1u, xt_1l, xt_s, xisref, xq0, Value.category, xcat, List.map_nil, List.map_cons, List.sum_nil, List.sum_cons, List.length_cons, List.length_nil, List.getElem?_cons_zero, List.getElem?_cons_succ, xmap_s, if_true, and_self, Nat.reduceAdd, Nat.reduceLT, Nat.reduceLeDiff, Nat.reduceEqDiff, Nat.lt_add_one, Nat.zero_le, Nat.le_refl, Nat.le_zero_eq, Nat.zero_lt_succ, xldc, kbm10, kbm9, kbm8, kbm7, kbm6, kbm5, kbm4, kbm3, kbm2, kb6, kb7, kb8, kb9, kb10, kb11, kb16, kb19, kb20, kb30, kb31, kb32, kb34, kb40, kb64, kb100, kb127, kim1, ki0, ki1, ki2, ki3, ki4, ki5, ks128, ks400, ks999, ks1000, ks4010])
  refine ok_pf rfl hW w218 (Nat.le_of_ble_eq_true rfl) rfl rfl ?_
  intro h221 k222 w223 s224 og225
  dsimp only [List.set, Nat.reduceAdd] at w223 ⊢
  have hW := k222.1
  have ho := fun p (hp : p ≠ p0) => (og225 p hp).trans (ho p hp)
  iterate 2 (refine ok_st rfl rfl ?_; simp only [okS_some, xst, xp0, xp1, xp2, xp3, xp4, xp5, xload, xstore, xget_0, xget_s, xs_0, xs_1n, xs_1i, xs_1r, xs_1u, xs_1l, xs_s, xt_0, xt_1n, xt_1i, xt_1r, xt_1u, xt_1l, xt_s, xisref, xq0, Value.category, xcat, List.map_nil, List.map_cons, List.sum_nil, List.sum_cons, List.length_cons, List.length_nil, List.getElem?_cons_zero, List.getElem?_cons_succ, xmap_s, if_true, and_self, Nat.reduceAdd, Nat.reduceLT, Nat.reduceLeDiff, Nat.reduceEqDiff, Nat.lt_add_one, Nat.zero_le, Nat.le_refl, Nat.le_zero_eq, Nat.zero_lt_succ, xldc, kbm10, kbm9, kbm8, kbm7, kbm6, kbm5, kbm4, kbm3, kbm2, kb6, kb7, kb8, kb9, kb10, kb11, kb16, kb19, kb20, kb30, kb31, kb32, kb34, kb40, kb64, kb100, kb127, kim1, ki0, ki1, ki2, ki3, ki4, ki5, ks128, ks400, ks999, ks1000, ks4010])
  refine ok_pf rfl hW w223 (Nat.le_of_ble_eq_true rfl) rfl rfl ?_
  intro h226 k227 w228 s229 og230
  dsimp only [List.set, Nat.reduceAdd] at w228 ⊢
  have hW := k227.1
  have ho := fun p (hp : p ≠ p0) => (og230 p hp).trans (ho p hp)
  iterate 2 (refine ok_st rfl rfl ?_; simp only [okS_some, xst, xp0, xp1, xp2, xp3, xp4, xp5, xload, xstore, xget_0, xget_s, xs_0, xs_1n, xs_1i, xs_1r, xs_1u, xs_1l, xs_s, xt_0, xt_1n, xt_1i, xt_1r, xt_1u, xt_1l, xt_s, xisref, xq0, Value.category, xcat, List.map_nil, List.map_cons, List.sum_nil, List.sum_cons, List.length_cons, List.length_nil, List.getElem?_cons_zero, List.getElem?_cons_succ, xmap_s, if_true, and_self, Nat.reduceAdd, Nat.reduceLT, Nat.reduceLeDiff, Nat.reduceEqDiff, Nat.lt_add_one, Nat.zero_le, Nat.le_refl, Nat.le_zero_eq, Nat.zero_lt_succ, xldc, kbm10, kbm9, kbm8, kbm7, kbm6, kbm5, kbm4, kbm3, kbm2, kb6, kb7, kb8, kb9, kb10, kb11, kb16, kb19, kb20, kb30, kb31, kb32, kb34, kb40, kb64, kb100, kb127, kim1, ki0, ki1, ki2, ki3, ki4, ki5, ks128, ks400, ks999, ks1000, ks4010])
  refine ok_pf rfl hW w228 (Nat.le_of_ble_eq_true rfl) rfl rfl ?_
  intro h231 k232 w233 s234 og235
  dsimp only [List.set, Nat.reduceAdd] at w233 ⊢
  have hW := k232.1
  have ho := fun p (hp : p ≠ p0) => (og235 p hp).trans (ho p hp)
  iterate 2 (refine ok_st rfl rfl ?_; simp only [okS_some, xst, xp0, xp1, xp2, xp3, xp4, xp5, xload, xstore, xget_0, xget_s, xs_0, xs_1n, xs_1i, xs_1r, xs_1u, xs_1l, xs_s, xt_0, xt_1n, xt_1i, xt_1r, xt_1u, xt_1l, xt_s, xisref, xq0, Value.category, xcat, List.map_nil, List.map_cons, List.sum_nil, List.sum_cons, List.length_cons, List.length_nil, List.getElem?_cons_zero, List.getElem?_cons_succ, xmap_s, if_true, and_self, Nat.reduceAdd, Nat.reduceLT, Nat.reduceLeDiff, Nat.reduceEqDiff, Nat.lt_add_one, Nat.zero_le, Nat.le_refl, Nat.le_zero_eq, Nat.zero_lt_succ, xldc, kbm10, kbm9, kbm8, kbm7, kbm6, kbm5, kbm4, kbm3, kbm2, kb6, kb7, kb8, kb9, kb10, kb11, kb16, kb19, kb20, kb30, kb31, kb32, kb34, kb40, kb64, kb100, kb127, kim1, ki0, ki1, ki2, ki3, ki4, ki5, ks128, ks400, ks999, ks1000, ks4010])
  refine ok_pf rfl hW w233 (Nat.le_of_ble_eq_true rfl) rfl rfl ?_
  intro h236 k237 w238 s239 og240
  dsimp only [List.set, Nat.reduceAdd] at w238 ⊢
  have hW := k237.1
  have ho := fun p (hp : p ≠ p0) => (og240 p hp).trans (ho p hp)
  iterate 2 (refine ok_st rfl rfl ?_; simp only [okS_some, xst, xp0, xp1, xp2, xp3, xp4, xp5, xload, xstore, xget_0, xget_s, xs_0, xs_1n, xs_1i, xs_1r, xs_1u, xs_1l, xs_s, xt_0, xt_1n, xt_1i, xt_1r, xt_1u, xt_1l, xt_s, xisref, xq0, Value.category, xcat, List.map_nil, List.map_cons, List.sum_nil, List.sum_cons, List.length_cons, List.length_nil, List.getElem?_cons_zero, List.getElem?_cons_succ, xmap_s, if_true, and_self, Nat.reduceAdd, Nat.reduceLT, Nat.reduceLeDiff, Nat.reduceEqDiff, Nat.lt_add_one, Nat.zero_le, Nat.le_refl, Nat.le_zero_eq, Nat.zero_lt_succ, xldc, kbm10, kbm9, kbm8, kbm7, kbm6, kbm5, kbm4, kbm3, kbm2, kb6, kb7, kb8, kb9, kb10, kb11, kb16, kb19, kb20, kb30, kb31, kb32, kb34, kb40, kb64, kb100, kb127, kim1, ki0, ki1, ki2, ki3, ki4, ki5, ks128, ks400, ks999, ks1000, ks4010])
  refine ok_pf rfl hW w238 (Nat.le_of_ble_eq_true rfl) rfl rfl ?_
  intro h241 k242 w243 s244 og245
  dsimp only [List.set, Nat.reduceAdd] at w243 ⊢
  have hW := k242.1
  have ho := fun p (hp : p ≠ p0) => (og245 p hp).trans (ho p hp)
  iterate 2 (refine ok_st rfl rfl ?_; simp only [okS_some, xst, xp0, xp1, xp2, xp3, xp4, xp5, xload, xstore, xget_0, xget_s, xs_0, xs_1n, xs_1i, xs_1r, xs_1u, xs_1l, xs_s, xt_0, xt_1n, xt_1i, xt_1r, xt_1u, xt_1l, xt_s, xisref, xq0, Value.category, xcat, List.map_nil, List.map_cons, List.sum_nil, List.sum_cons, List.length_cons, List.length_nil, List.getElem?_cons_zero, List.getElem?_cons_succ, xmap_s, if_true, and_self, Nat.reduceAdd, Nat.reduceLT, Nat.reduceLeDiff, Nat.reduceEqDiff, Nat.lt_add_one, Nat.zero_le, Nat.le_refl, Nat.le_zero_eq, Nat.zero_lt_succ, xldc, kbm10, kbm9, kbm8, kbm7, kbm6, kbm5, kbm4, kbm3, kbm2, kb6, kb7, kb8, kb9, kb10, kb11, kb16, kb19, kb20, kb30, kb31, kb32, kb34, kb40, kb64, kb100, kb127, kim1, ki0, ki1, ki2, ki3, ki4, ki5, ks128, ks400, ks999, ks1000, ks4010])
  refine ok_pf rfl hW w243 (Nat.le_of_ble_eq_true rfl) rfl rfl ?_
  intro h246 k247 w248 s249 og250
  dsimp only [List.set, Nat.reduceAdd] at w248 ⊢
  have hW := k247.1
  have ho := fun p (hp : p ≠ p0) => (og250 p hp).trans (ho p hp)
  iterate 2 (refine ok_st rfl rfl ?_; simp only [okS_some, xst, xp0, xp1, xp2, xp3, xp4, xp5, xload, xstore, xget_0, xget_s, xs_0, xs_1n, xs_1i, xs_1r, xs_1u, xs_1l, xs_s, xt_0, xt_1n, xt_1i, xt_1r, xt_1u, xt_1l, xt_s, xisref, xq0, Value.category, xcat, List.map_nil, List.map_cons, List.sum_nil, List.sum_cons, List.length_cons, List.length_nil, List.getElem?_cons_zero, List.getElem?_cons_succ, xmap_s, if_true, and_self, Nat.reduceAdd, Nat.reduceLT, Nat.reduceLeDiff, Nat.reduceEqDiff, Nat.lt_add_one, Nat.zero_le, Nat.le_refl, Nat.le_zero_eq, Nat.zero_lt_succ, xldc, kbm10, kbm9, kbm8, kbm7, kbm6, kbm5, kbm4, kbm3, kbm2, kb6, kb7, kb8, kb9, kb10, kb11, kb16, kb19, kb20, kb30, kb31, kb32, kb34, kb40, kb64, kb100, kb127, kim1, ki0, ki1, ki2, ki3, ki4, ki5, ks128, ks400, ks999, ks1000, ks4010])
  refine ok_pf rfl hW w248 (Nat.le_of_ble_eq_true rfl) rfl rfl ?_
  intro h251 k252 w253 s254 og255
  dsimp only [List.set, Nat.reduceAdd] at w253 ⊢
  have hW := k252.1
  have ho := fun p (hp : p ≠ p0) => (og255 p hp).trans (ho p hp)
  iterate 2 (refine ok_st rfl rfl ?_; simp only [okS_some, xst, xp0, xp1, xp2, xp3, xp4, xp5, xload, xstore, xget_0, xget_s, xs_0, xs_1n, xs_1i, xs_1r, xs_1u, xs_1l, xs_s, xt_0, xt_1n, xt_1i, xt_1r, xt_1u, xt_1l, xt_s, xisref, xq0, Value.category, xcat, List.map_nil, List.map_cons, List.sum_nil, List.sum_cons, List.length_cons, List.length_nil, List.getElem?_cons_zero, List.getElem?_cons_succ, xmap_s, if_true, and_self, Nat.reduceAdd, Nat.reduceLT, Nat.reduceLeDiff, Nat.reduceEqDiff, Nat.lt_add_one, Nat.zero_le, Nat.le_refl, Nat.le_zero_eq, Nat.zero_lt_succ, xldc, kbm10, kbm9, kbm8, kbm7, kbm6, kbm5, kbm4, kbm3, kbm2, kb6, kb7, kb8, kb9, kb10, kb11, kb16, kb19, kb20, kb30, kb31, kb32, kb34, kb40, kb64, kb100, kb127, kim1, ki0, ki1, ki2, ki3, ki4, ki5, ks128, ks400, ks999, ks1000, ks4010])
  refine ok_pf rfl hW w253 (Nat.le_of_ble_eq_true rfl) rfl rfl ?_
  intro h256 k257 w258 s259 og260
  dsimp only [List.set, Nat.reduceAdd] at w258 ⊢
  have hW := k257.1
  have ho := fun p (hp : p ≠ p0) => (og260 p hp).trans (ho p hp)
  iterate 2 (refine ok_st rfl rfl ?_; simp only [okS_some, xst, xp0, xp1, xp2, xp3, xp4, xp5, xload, xstore, xget_0, xget_s, xs_0, xs_1n, xs_1i, xs_1r, xs_1u, xs_1l, xs_s, xt_0, xt_1n, xt_1i, xt_1r, xt_1u, xt_1l, xt_s, xisref, xq0, Value.category, xcat, List.map_nil, List.map_cons, List.sum_nil, List.sum_cons, List.length_cons, List.length_nil, List.getElem?_cons_zero, List.getElem?_cons_succ, xmap_s, if_true, and_self, Nat.reduceAdd, Nat.reduceLT, Nat.reduceLeDiff, Nat.reduceEqDiff, Nat.lt_add_one, Nat.zero_le, Nat.le_refl, Nat.le_zero_eq, Nat.zero_lt_succ, xldc, kbm10, kbm9, kbm8, kbm7, kbm6, kbm5, kbm4, kbm3, kbm2, kb6, kb7, kb8, kb9, kb10, kb11, kb16, kb19, kb20, kb30, kb31, kb32, kb34, kb40, kb64, kb100, kb127, kim1, ki0, ki1, ki2, ki3, ki4, ki5, ks128, ks400, ks999, ks1000, ks4010])
  refine ok_pf rfl hW w258 (Nat.le_of_ble_eq_true rfl) rfl rfl ?_
  intro h261 k262 w263 s264 og265
  dsimp only [List.set, Nat.reduceAdd] at w263 ⊢
  have hW := k262.1
  have ho := fun p (hp : p ≠ p0) => (og265 p hp).trans (ho p hp)
  refine ok_r0 rfl rfl rfl ?_
  try dsimp only
  exact ⟨rfl, w263, ho⟩
set_option maxRecDepth 20000 in
set_option maxHeartbeats 4000000 in
/-- ToldHouse$Happening.say(III)V -/
theorem ix8 {X : Nat × (Nat → Int32)} {h : xH} (hW : xWF h) {p0 : Nat} {a0 a1 a2 a3 a4 a5 a6 a7 a8 a9 a10 a11 : Int32} {m : Value} (hp0 : h.2.2 p0 = some (.inr (2, [.int a0, .int a1, .int a2, .int a3, .int a4, .int a5, .int a6, .int a7, .int a8, .int a9, .int a10, .int a11, m]))) {x1 x2 x3 : Int32} : okM X 8 [.ref p0, .int x1, .int x2, .int x3] h (fun v h' => v = none ∧ h'.2.2 p0 = some (.inr (2, [.int a0, .int a1, .int a2, .int a3, .int a4, .int x1, .int x2, .int x3, .int a8, .int a9, .int a10, .int a11, m])) ∧ ∀ p, p ≠ p0 → h'.2.2 p = h.2.2 p) := by
  have ho : ∀ p, p ≠ p0 → h.2.2 p = h.2.2 p := fun _ _ => rfl
  show ok X cd8 (0, [some (.ref p0), some (.int x1), some (.int x2), some (.int x3)], []) h _
  iterate 2 (refine ok_st rfl rfl ?_; simp only [okS_some, xst, xp0, xp1, xp2, xp3, xp4, xp5, xload, xstore, xget_0, xget_s, xs_0, xs_1n, xs_1i, xs_1r, xs_1u, xs_1l, xs_s, xt_0, xt_1n, xt_1i, xt_1r, xt_1u, xt_1l, xt_s, xisref, xq0, Value.category, xcat, List.map_nil, List.map_cons, List.sum_nil, List.sum_cons, List.length_cons, List.length_nil, List.getElem?_cons_zero, List.getElem?_cons_succ, xmap_s, if_true, and_self, Nat.reduceAdd, Nat.reduceLT, Nat.reduceLeDiff, Nat.reduceEqDiff, Nat.lt_add_one, Nat.zero_le, Nat.le_refl, Nat.le_zero_eq, Nat.zero_lt_succ, xldc, kbm10, kbm9, kbm8, kbm7, kbm6, kbm5, kbm4, kbm3, kbm2, kb6, kb7, kb8, kb9, kb10, kb11, kb16, kb19, kb20, kb30, kb31, kb32, kb34, kb40, kb64, kb100, kb127, kim1, ki0, ki1, ki2, ki3, ki4, ki5, ks128, ks400, ks999, ks1000, ks4010])
  refine ok_pf rfl hW hp0 (Nat.le_of_ble_eq_true rfl) rfl rfl ?_
  intro h201 k202 w203 s204 og205
  dsimp only [List.set, Nat.reduceAdd] at w203 ⊢
  have hW := k202.1
  have ho := fun p (hp : p ≠ p0) => (og205 p hp).trans (ho p hp)
  iterate 2 (refine ok_st rfl rfl ?_; simp only [okS_some, xst, xp0, xp1, xp2, xp3, xp4, xp5, xload, xstore, xget_0, xget_s, xs_0, xs_1n, xs_1i, xs_1r, xs_1u, xs_1l, xs_s, xt_0, xt_1n, xt_1i, xt_1r, xt_1u, xt_1l, xt_s, xisref, xq0, Value.category, xcat, List.map_nil, List.map_cons, List.sum_nil, List.sum_cons, List.length_cons, List.length_nil, List.getElem?_cons_zero, List.getElem?_cons_succ, xmap_s, if_true, and_self, Nat.reduceAdd, Nat.reduceLT, Nat.reduceLeDiff, Nat.reduceEqDiff, Nat.lt_add_one, Nat.zero_le, Nat.le_refl, Nat.le_zero_eq, Nat.zero_lt_succ, xldc, kbm10, kbm9, kbm8, kbm7, kbm6, kbm5, kbm4, kbm3, kbm2, kb6, kb7, kb8, kb9, kb10, kb11, kb16, kb19, kb20, kb30, kb31, kb32, kb34, kb40, kb64, kb100, kb127, kim1, ki0, ki1, ki2, ki3, ki4, ki5, ks128, ks400, ks999, ks1000, ks4010])
  refine ok_pf rfl hW w203 (Nat.le_of_ble_eq_true rfl) rfl rfl ?_
  intro h206 k207 w208 s209 og210
  dsimp only [List.set, Nat.reduceAdd] at w208 ⊢
  have hW := k207.1
  have ho := fun p (hp : p ≠ p0) => (og210 p hp).trans (ho p hp)
  iterate 2 (refine ok_st rfl rfl ?_; simp only [okS_some, xst, xp0, xp1, xp2, xp3, xp4, xp5, xload, xstore, xget_0, xget_s, xs_0, xs_1n, xs_1i, xs_1r, xs_1u, xs_1l, xs_s, xt_0, xt_1n, xt_1i, xt_1r, xt_1u, xt_1l, xt_s, xisref, xq0, Value.category, xcat, List.map_nil, List.map_cons, List.sum_nil, List.sum_cons, List.length_cons, List.length_nil, List.getElem?_cons_zero, List.getElem?_cons_succ, xmap_s, if_true, and_self, Nat.reduceAdd, Nat.reduceLT, Nat.reduceLeDiff, Nat.reduceEqDiff, Nat.lt_add_one, Nat.zero_le, Nat.le_refl, Nat.le_zero_eq, Nat.zero_lt_succ, xldc, kbm10, kbm9, kbm8, kbm7, kbm6, kbm5, kbm4, kbm3, kbm2, kb6, kb7, kb8, kb9, kb10, kb11, kb16, kb19, kb20, kb30, kb31, kb32, kb34, kb40, kb64, kb100, kb127, kim1, ki0, ki1, ki2, ki3, ki4, ki5, ks128, ks400, ks999, ks1000, ks4010])
  refine ok_pf rfl hW w208 (Nat.le_of_ble_eq_true rfl) rfl rfl ?_
  intro h211 k212 w213 s214 og215
  dsimp only [List.set, Nat.reduceAdd] at w213 ⊢
  have hW := k212.1
  have ho := fun p (hp : p ≠ p0) => (og215 p hp).trans (ho p hp)
  refine ok_r0 rfl rfl rfl ?_
  try dsimp only
  exact ⟨rfl, w213, ho⟩
set_option maxRecDepth 20000 in
set_option maxHeartbeats 4000000 in
/-- ToldHouse.tell(IIIIIII)I -/
theorem ix46 {X : Nat × (Nat → Int32)} {h : xH} (hW : xWF h) {c : Nat} {td vc dc : Int32} (hI : cI c td vc dc h) (hc : c ≤ 1026) {A : Nat → Nat → Int32} {M : Nat} {a T : Nat → Nat} (hS : cS h A M a T) (hj : jZ h) (hM : M ≤ 400) (hdI : ∀ s, s < 20 → dI A (mst A s) M) {x1 x2 x3 x4 x5 x6 x7 : Int32} : okM X 46 [.ref 0, .int x1, .int x2, .int x3, .int x4, .int x5, .int x6, .int x7] h (fun v h' => ∃ r, v = some (.int r) ∧ ((r = -2 ∧ ¬ (0 ≤ x2 ∧ x2 ≤ 2) ∧ kP h h' A M a) ∨ ((0 ≤ x2 ∧ x2 ≤ 2) ∧ cmQ h h' A (rowA A M x1 x2 (if x2 = 2 then 0 else x3) (if x2 = 2 then 0 else x4) (if x2 = 2 then 0 else x5) x6 td (-1) 0) M a x1 x2 (if x2 = 2 then 0 else x3) (if x2 = 2 then 0 else x4) (if x2 = 2 then 0 else x5) x6 td (-1) x7 r))) := by
  have hW0 := hW
  have h0 := hI.1
  obtain ⟨Vv, Mv, hcell⟩ := hS.2.2.2.2.1
  have hx : hEx h h := fun _ _ he => he
  show ok X cd46 (0, [some (.ref 0), some (.int x1), some (.int x2), some (.int x3), some (.int x4), some (.int x5), some (.int x6), some (.int x7), none], []) h _
  iterate 3 (refine ok_st rfl rfl ?_; simp only [okS_some, xst, xp0, xp1, xp2, xp3, xp4, xp5, xload, xstore, xget_0, xget_s, xs_0, xs_1n, xs_1i, xs_1r, xs_1u, xs_1l, xs_s, xt_0, xt_1n, xt_1i, xt_1r, xt_1u, xt_1l, xt_s, xisref, xq0, Value.category, xcat, List.map_nil, List.map_cons, List.sum_nil, List.sum_cons, List.length_cons, List.length_nil, List.getElem?_cons_zero, List.getElem?_cons_succ, xmap_s, if_true, and_self, Nat.reduceAdd, Nat.reduceLT, Nat.reduceLeDiff, Nat.reduceEqDiff, Nat.lt_add_one, Nat.zero_le, Nat.le_refl, Nat.le_zero_eq, Nat.zero_lt_succ, xldc, kbm10, kbm9, kbm8, kbm7, kbm6, kbm5, kbm4, kbm3, kbm2, kb6, kb7, kb8, kb9, kb10, kb11, kb16, kb19, kb20, kb30, kb31, kb32, kb34, kb40, kb64, kb100, kb127, kim1, ki0, ki1, ki2, ki3, ki4, ki5, ks128, ks400, ks999, ks1000, ks4010])
  refine ok_cm (vs := [_, _, _]) rfl rfl rfl rfl (Nat.le_of_ble_eq_true rfl) (Nat.le_of_ble_eq_true rfl) rfl (by decide) hW (ix68 hW) ?_
  rintro _ _ ⟨rfl, ⟨rfl, ck⟩ | ⟨rfl, ck⟩⟩ k201 al202
  · dsimp only [Option.toList, List.cons_append, List.nil_append, Nat.reduceAdd]
    refine ok_st rfl rfl ?_
    simp only [okS_some, xst, xp0, xp1, xp2, xp3, xp4, xp5, xload, xstore, xget_0, xget_s, xs_0, xs_1n, xs_1i, xs_1r, xs_1u, xs_1l, xs_s, xt_0, xt_1n, xt_1i, xt_1r, xt_1u, xt_1l, xt_s, xisref, xq0, Value.category, xcat, List.map_nil, List.map_cons, List.sum_nil, List.sum_cons, List.length_cons, List.length_nil, List.getElem?_cons_zero, List.getElem?_cons_succ, xmap_s, if_true, and_self, Nat.reduceAdd, Nat.reduceLT, Nat.reduceLeDiff, Nat.reduceEqDiff, Nat.lt_add_one, Nat.zero_le, Nat.le_refl, Nat.le_zero_eq, Nat.zero_lt_succ, xldc, kbm10, kbm9, kbm8, kbm7, kbm6, kbm5, kbm4, kbm3, kbm2, kb6, kb7, kb8, kb9, kb10, kb11, kb16, kb19, kb20, kb30, kb31, kb32, kb34, kb40, kb64, kb100, kb127, kim1, ki0, ki1, ki2, ki3, ki4, ki5, ks128, ks400, ks999, ks1000, ks4010]
    refine ok_bt rfl ?_
    refine ok_nw rfl hW (by decide) rfl ?_
    intro h203 k204 w205 s207 og208
    obtain ⟨p206, ep206⟩ : ∃ p, p = h.1 := ⟨_, rfl⟩
    rw [← ep206] at w205 og208 ⊢
    rw [show xfn 2 = 13 from rfl] at s207
    have w209 := (og208 0 (ne_new hW h0 ep206)).trans h0
    have hW := k204.1
    have hpn : ∀ q e, h.2.2 q = some e → q ≠ p206 := fun q e he z => by have := (hW0 q e he).1; omega
    have hx : hEx h h203 := fun q e he => (og208 q (hpn q e he)).trans he
    have hI := hI.kp k204 (by decide)
    iterate 5 (refine ok_st rfl rfl ?_; simp only [okS_some, xst, xp0, xp1, xp2, xp3, xp4, xp5, xload, xstore, xget_0, xget_s, xs_0, xs_1n, xs_1i, xs_1r, xs_1u, xs_1l, xs_s, xt_0, xt_1n, xt_1i, xt_1r, xt_1u, xt_1l, xt_s, xisref, xq0, Value.category, xcat, List.map_nil, List.map_cons, List.sum_nil, List.sum_cons, List.length_cons, List.length_nil, List.getElem?_cons_zero, List.getElem?_cons_succ, xmap_s, if_true, and_self, Nat.reduceAdd, Nat.reduceLT, Nat.reduceLeDiff, Nat.reduceEqDiff, Nat.lt_add_one, Nat.zero_le, Nat.le_refl, Nat.le_zero_eq, Nat.zero_lt_succ, xldc, kbm10, kbm9, kbm8, kbm7, kbm6, kbm5, kbm4, kbm3, kbm2, kb6, kb7, kb8, kb9, kb10, kb11, kb16, kb19, kb20, kb30, kb31, kb32, kb34, kb40, kb64, kb100, kb127, kim1, ki0, ki1, ki2, ki3, ki4, ki5, ks128, ks400, ks999, ks1000, ks4010])
    refine ok_st rfl rfl ?_
    simp only [okS_some, xst, xp0, xp1, xp2, xp3, xp4, xp5, xload, xstore, xget_0, xget_s, xs_0, xs_1n, xs_1i, xs_1r, xs_1u, xs_1l, xs_s, xt_0, xt_1n, xt_1i, xt_1r, xt_1u, xt_1l, xt_s, xisref, xq0, Value.category, xcat, List.map_nil, List.map_cons, List.sum_nil, List.sum_cons, List.length_cons, List.length_nil, List.getElem?_cons_zero, List.getElem?_cons_succ, xmap_s, if_true, and_self, Nat.reduceAdd, Nat.reduceLT, Nat.reduceLeDiff, Nat.reduceEqDiff, Nat.lt_add_one, Nat.zero_le, Nat.le_refl, Nat.le_zero_eq, Nat.zero_lt_succ, xldc, kbm10, kbm9, kbm8, kbm7, kbm6, kbm5, kbm4, kbm3, kbm2, kb6, kb7, kb8, kb9, kb10, kb11, kb16, kb19, kb20, kb30, kb31, kb32, kb34, kb40, kb64, kb100, kb127, kim1, ki0, ki1, ki2, ki3, ki4, ki5, ks128, ks400, ks999, ks1000, ks4010, w209]
    refine ok_st rfl rfl ?_
    simp only [okS_some, xst, xp0, xp1, xp2, xp3, xp4, xp5, xload, xstore, xget_0, xget_s, xs_0, xs_1n, xs_1i, xs_1r, xs_1u, xs_1l, xs_s, xt_0, xt_1n, xt_1i, xt_1r, xt_1u, xt_1l, xt_s, xisref, xq0, Value.category, xcat, List.map_nil, List.map_cons, List.sum_nil, List.sum_cons, List.length_cons, List.length_nil, List.getElem?_cons_zero, List.getElem?_cons_succ, xmap_s, if_true, and_self, Nat.reduceAdd, Nat.reduceLT, Nat.reduceLeDiff, Nat.reduceEqDiff, Nat.lt_add_one, Nat.zero_le, Nat.le_refl, Nat.le_zero_eq, Nat.zero_lt_succ, xldc, kbm10, kbm9, kbm8, kbm7, kbm6, kbm5, kbm4, kbm3, kbm2, kb6, kb7, kb8, kb9, kb10, kb11, kb16, kb19, kb20, kb30, kb31, kb32, kb34, kb40, kb64, kb100, kb127, kim1, ki0, ki1, ki2, ki3, ki4, ki5, ks128, ks400, ks999, ks1000, ks4010]
    refine ok_cm (vs := [_, _, _, _, _, _]) rfl rfl rfl rfl (Nat.le_of_ble_eq_true rfl) (Nat.le_of_ble_eq_true rfl) rfl (by decide) hW (ix7 hW w205) ?_
    rintro _ h212 ⟨rfl, w213, og214⟩ k210 al211
    dsimp only [Option.toList, List.cons_append, List.nil_append, Nat.reduceAdd]
    have w215 := (og214 0 (ne_oo w209 w205 (by decide))).trans w209
    have hW := k210.1
    have hI := hI.kp k210 (by decide)
    have hx : hEx h h212 := fun q e he => (og214 q (hpn q e he)).trans (hx q e he)
    iterate 4 (refine ok_st rfl rfl ?_; simp only [okS_some, xst, xp0, xp1, xp2, xp3, xp4, xp5, xload, xstore, xget_0, xget_s, xs_0, xs_1n, xs_1i, xs_1r, xs_1u, xs_1l, xs_s, xt_0, xt_1n, xt_1i, xt_1r, xt_1u, xt_1l, xt_s, xisref, xq0, Value.category, xcat, List.map_nil, List.map_cons, List.sum_nil, List.sum_cons, List.length_cons, List.length_nil, List.getElem?_cons_zero, List.getElem?_cons_succ, xmap_s, if_true, and_self, Nat.reduceAdd, Nat.reduceLT, Nat.reduceLeDiff, Nat.reduceEqDiff, Nat.lt_add_one, Nat.zero_le, Nat.le_refl, Nat.le_zero_eq, Nat.zero_lt_succ, xldc, kbm10, kbm9, kbm8, kbm7, kbm6, kbm5, kbm4, kbm3, kbm2, kb6, kb7, kb8, kb9, kb10, kb11, kb16, kb19, kb20, kb30, kb31, kb32, kb34, kb40, kb64, kb100, kb127, kim1, ki0, ki1, ki2, ki3, ki4, ki5, ks128, ks400, ks999, ks1000, ks4010])
    refine ok_if (fun c2 => ?_) (fun c2 => ?_)
    · simp only [xcnd, decide_eq_true_eq, decide_eq_false_iff_not, Bool.not_eq_true', Bool.not_eq_false'] at c2
      iterate 3 (refine ok_st rfl rfl ?_; simp only [okS_some, xst, xp0, xp1, xp2, xp3, xp4, xp5, xload, xstore, xget_0, xget_s, xs_0, xs_1n, xs_1i, xs_1r, xs_1u, xs_1l, xs_s, xt_0, xt_1n, xt_1i, xt_1r, xt_1u, xt_1l, xt_s, xisref, xq0, Value.category, xcat, List.map_nil, List.map_cons, List.sum_nil, List.sum_cons, List.length_cons, List.length_nil, List.getElem?_cons_zero, List.getElem?_cons_succ, xmap_s, if_true, and_self, Nat.reduceAdd, Nat.reduceLT, Nat.reduceLeDiff, Nat.reduceEqDiff, Nat.lt_add_one, Nat.zero_le, Nat.le_refl, Nat.le_zero_eq, Nat.zero_lt_succ, xldc, kbm10, kbm9, kbm8, kbm7, kbm6, kbm5, kbm4, kbm3, kbm2, kb6, kb7, kb8, kb9, kb10, kb11, kb16, kb19, kb20, kb30, kb31, kb32, kb34, kb40, kb64, kb100, kb127, kim1, ki0, ki1, ki2, ki3, ki4, ki5, ks128, ks400, ks999, ks1000, ks4010])
      refine ok_cm (vs := [_, _, _]) rfl rfl rfl rfl (Nat.le_of_ble_eq_true rfl) (Nat.le_of_ble_eq_true rfl) (by show xcl0 2 8 _ _ = true; simp [xcl0, w215]) (by decide) hW (br_r hW hI (by omega) (cS_ex hS hx) (jZ_ex hj hx) hM w213 (fun n hn z => hpn _ _ (hcell n hn) z.symm) hdI) ?_
      rintro _ h9 ⟨r, rfl, hb⟩ k216 al217
      dsimp only [Option.toList, List.cons_append, List.nil_append, Nat.reduceAdd]
      have hcm := cm_of (cS_ex hS hx) (jZ_ex hj hx) (fK_ex hx) hb
      refine ok_r1 rfl rfl rfl rfl ?_
      try dsimp only
      refine ⟨_, rfl, Or.inr ⟨ck, ?_⟩⟩
      first | (simp only [if_pos c2]; exact hcm) | (simp only [if_neg c2]; exact hcm)
    · simp only [xcnd, decide_eq_true_eq, decide_eq_false_iff_not, Bool.not_eq_true', Bool.not_eq_false'] at c2
      iterate 4 (refine ok_st rfl rfl ?_; simp only [okS_some, xst, xp0, xp1, xp2, xp3, xp4, xp5, xload, xstore, xget_0, xget_s, xs_0, xs_1n, xs_1i, xs_1r, xs_1u, xs_1l, xs_s, xt_0, xt_1n, xt_1i, xt_1r, xt_1u, xt_1l, xt_s, xisref, xq0, Value.category, xcat, List.map_nil, List.map_cons, List.sum_nil, List.sum_cons, List.length_cons, List.length_nil, List.getElem?_cons_zero, List.getElem?_cons_succ, xmap_s, if_true, and_self, Nat.reduceAdd, Nat.reduceLT, Nat.reduceLeDiff, Nat.reduceEqDiff, Nat.lt_add_one, Nat.zero_le, Nat.le_refl, Nat.le_zero_eq, Nat.zero_lt_succ, xldc, kbm10, kbm9, kbm8, kbm7, kbm6, kbm5, kbm4, kbm3, kbm2, kb6, kb7, kb8, kb9, kb10, kb11, kb16, kb19, kb20, kb30, kb31, kb32, kb34, kb40, kb64, kb100, kb127, kim1, ki0, ki1, ki2, ki3, ki4, ki5, ks128, ks400, ks999, ks1000, ks4010])
      refine ok_cm (vs := [_, _, _, _]) rfl rfl rfl rfl (Nat.le_of_ble_eq_true rfl) (Nat.le_of_ble_eq_true rfl) (by show xcl0 2 2 _ _ = true; simp [xcl0, w213]) (by decide) hW (ix8 hW w213) ?_
      rintro _ h220 ⟨rfl, w221, og222⟩ k218 al219
      dsimp only [Option.toList, List.cons_append, List.nil_append, Nat.reduceAdd]
      have w223 := (og222 0 (ne_oo w215 w213 (by decide))).trans w215
      have hW := k218.1
      have hI := hI.kp k218 (by decide)
      have hx : hEx h h220 := fun q e he => (og222 q (hpn q e he)).trans (hx q e he)
      iterate 3 (refine ok_st rfl rfl ?_; simp only [okS_some, xst, xp0, xp1, xp2, xp3, xp4, xp5, xload, xstore, xget_0, xget_s, xs_0, xs_1n, xs_1i, xs_1r, xs_1u, xs_1l, xs_s, xt_0, xt_1n, xt_1i, xt_1r, xt_1u, xt_1l, xt_s, xisref, xq0, Value.category, xcat, List.map_nil, List.map_cons, List.sum_nil, List.sum_cons, List.length_cons, List.length_nil, List.getElem?_cons_zero, List.getElem?_cons_succ, xmap_s, if_true, and_self, Nat.reduceAdd, Nat.reduceLT, Nat.reduceLeDiff, Nat.reduceEqDiff, Nat.lt_add_one, Nat.zero_le, Nat.le_refl, Nat.le_zero_eq, Nat.zero_lt_succ, xldc, kbm10, kbm9, kbm8, kbm7, kbm6, kbm5, kbm4, kbm3, kbm2, kb6, kb7, kb8, kb9, kb10, kb11, kb16, kb19, kb20, kb30, kb31, kb32, kb34, kb40, kb64, kb100, kb127, kim1, ki0, ki1, ki2, ki3, ki4, ki5, ks128, ks400, ks999, ks1000, ks4010])
      refine ok_cm (vs := [_, _, _]) rfl rfl rfl rfl (Nat.le_of_ble_eq_true rfl) (Nat.le_of_ble_eq_true rfl) (by show xcl0 2 8 _ _ = true; simp [xcl0, w223]) (by decide) hW (br_r hW hI (by omega) (cS_ex hS hx) (jZ_ex hj hx) hM w221 (fun n hn z => hpn _ _ (hcell n hn) z.symm) hdI) ?_
      rintro _ h9 ⟨r, rfl, hb⟩ k224 al225
      dsimp only [Option.toList, List.cons_append, List.nil_append, Nat.reduceAdd]
      have hcm := cm_of (cS_ex hS hx) (jZ_ex hj hx) (fK_ex hx) hb
      refine ok_r1 rfl rfl rfl rfl ?_
      try dsimp only
      refine ⟨_, rfl, Or.inr ⟨ck, ?_⟩⟩
      first | (simp only [if_pos c2]; exact hcm) | (simp only [if_neg c2]; exact hcm)
  · dsimp only [Option.toList, List.cons_append, List.nil_append, Nat.reduceAdd]
    refine ok_st rfl rfl ?_
    simp only [okS_some, xst, xp0, xp1, xp2, xp3, xp4, xp5, xload, xstore, xget_0, xget_s, xs_0, xs_1n, xs_1i, xs_1r, xs_1u, xs_1l, xs_s, xt_0, xt_1n, xt_1i, xt_1r, xt_1u, xt_1l, xt_s, xisref, xq0, Value.category, xcat, List.map_nil, List.map_cons, List.sum_nil, List.sum_cons, List.length_cons, List.length_nil, List.getElem?_cons_zero, List.getElem?_cons_succ, xmap_s, if_true, and_self, Nat.reduceAdd, Nat.reduceLT, Nat.reduceLeDiff, Nat.reduceEqDiff, Nat.lt_add_one, Nat.zero_le, Nat.le_refl, Nat.le_zero_eq, Nat.zero_lt_succ, xldc, kbm10, kbm9, kbm8, kbm7, kbm6, kbm5, kbm4, kbm3, kbm2, kb6, kb7, kb8, kb9, kb10, kb11, kb16, kb19, kb20, kb30, kb31, kb32, kb34, kb40, kb64, kb100, kb127, kim1, ki0, ki1, ki2, ki3, ki4, ki5, ks128, ks400, ks999, ks1000, ks4010]
    refine ok_bf rfl ?_
    refine ok_st rfl rfl ?_
    simp only [okS_some, xst, xp0, xp1, xp2, xp3, xp4, xp5, xload, xstore, xget_0, xget_s, xs_0, xs_1n, xs_1i, xs_1r, xs_1u, xs_1l, xs_s, xt_0, xt_1n, xt_1i, xt_1r, xt_1u, xt_1l, xt_s, xisref, xq0, Value.category, xcat, List.map_nil, List.map_cons, List.sum_nil, List.sum_cons, List.length_cons, List.length_nil, List.getElem?_cons_zero, List.getElem?_cons_succ, xmap_s, if_true, and_self, Nat.reduceAdd, Nat.reduceLT, Nat.reduceLeDiff, Nat.reduceEqDiff, Nat.lt_add_one, Nat.zero_le, Nat.le_refl, Nat.le_zero_eq, Nat.zero_lt_succ, xldc, kbm10, kbm9, kbm8, kbm7, kbm6, kbm5, kbm4, kbm3, kbm2, kb6, kb7, kb8, kb9, kb10, kb11, kb16, kb19, kb20, kb30, kb31, kb32, kb34, kb40, kb64, kb100, kb127, kim1, ki0, ki1, ki2, ki3, ki4, ki5, ks128, ks400, ks999, ks1000, ks4010]
    refine ok_r1 rfl rfl rfl rfl ?_
    try dsimp only
    exact ⟨_, rfl, Or.inl ⟨rfl, ck, T, hS, hj, fK.rf⟩⟩
set_option maxRecDepth 20000 in
set_option maxHeartbeats 4000000 in
/-- ToldHouse.mend(IIIIIII)I -/
theorem ix47 {X : Nat × (Nat → Int32)} {h : xH} (hW : xWF h) {c : Nat} {td vc dc : Int32} (hI : cI c td vc dc h) (hc : c ≤ 1026) {A : Nat → Nat → Int32} {M : Nat} {a T : Nat → Nat} (hS : cS h A M a T) (hj : jZ h) (hM : M ≤ 400) (hdI : ∀ s, s < 20 → dI A (mst A s) M) {x1 x2 x3 x4 x5 x6 x7 : Int32} : okM X 47 [.ref 0, .int x1, .int x2, .int x3, .int x4, .int x5, .int x6, .int x7] h (fun v h' => ∃ r, v = some (.int r) ∧ cmQ h h' A (rowA A M x1 3 x3 x4 x5 x6 td x2 0) M a x1 3 x3 x4 x5 x6 td x2 x7 r) := by
  have hW0 := hW
  have h0 := hI.1
  obtain ⟨Vv, Mv, hcell⟩ := hS.2.2.2.2.1
  have hx : hEx h h := fun _ _ he => he
  show ok X cd47 (0, [some (.ref 0), some (.int x1), some (.int x2), some (.int x3), some (.int x4), some (.int x5), some (.int x6), some (.int x7), none], []) h _
  refine ok_nw rfl hW (by decide) rfl ?_
  intro h201 k202 w203 s205 og206
  obtain ⟨p204, ep204⟩ : ∃ p, p = h.1 := ⟨_, rfl⟩
  rw [← ep204] at w203 og206 ⊢
  rw [show xfn 2 = 13 from rfl] at s205
  have w207 := (og206 0 (ne_new hW h0 ep204)).trans h0
  have hW := k202.1
  have hpn : ∀ q e, h.2.2 q = some e → q ≠ p204 := fun q e he z => by have := (hW0 q e he).1; omega
  have hx : hEx h h201 := fun q e he => (og206 q (hpn q e he)).trans he
  have hI := hI.kp k202 (by decide)
  iterate 5 (refine ok_st rfl rfl ?_; simp only [okS_some, xst, xp0, xp1, xp2, xp3, xp4, xp5, xload, xstore, xget_0, xget_s, xs_0, xs_1n, xs_1i, xs_1r, xs_1u, xs_1l, xs_s, xt_0, xt_1n, xt_1i, xt_1r, xt_1u, xt_1l, xt_s, xisref, xq0, Value.category, xcat, List.map_nil, List.map_cons, List.sum_nil, List.sum_cons, List.length_cons, List.length_nil, List.getElem?_cons_zero, List.getElem?_cons_succ, xmap_s, if_true, and_self, Nat.reduceAdd, Nat.reduceLT, Nat.reduceLeDiff, Nat.reduceEqDiff, Nat.lt_add_one, Nat.zero_le, Nat.le_refl, Nat.le_zero_eq, Nat.zero_lt_succ, xldc, kbm10, kbm9, kbm8, kbm7, kbm6, kbm5, kbm4, kbm3, kbm2, kb6, kb7, kb8, kb9, kb10, kb11, kb16, kb19, kb20, kb30, kb31, kb32, kb34, kb40, kb64, kb100, kb127, kim1, ki0, ki1, ki2, ki3, ki4, ki5, ks128, ks400, ks999, ks1000, ks4010])
  refine ok_st rfl rfl ?_
  simp only [okS_some, xst, xp0, xp1, xp2, xp3, xp4, xp5, xload, xstore, xget_0, xget_s, xs_0, xs_1n, xs_1i, xs_1r, xs_1u, xs_1l, xs_s, xt_0, xt_1n, xt_1i, xt_1r, xt_1u, xt_1l, xt_s, xisref, xq0, Value.category, xcat, List.map_nil, List.map_cons, List.sum_nil, List.sum_cons, List.length_cons, List.length_nil, List.getElem?_cons_zero, List.getElem?_cons_succ, xmap_s, if_true, and_self, Nat.reduceAdd, Nat.reduceLT, Nat.reduceLeDiff, Nat.reduceEqDiff, Nat.lt_add_one, Nat.zero_le, Nat.le_refl, Nat.le_zero_eq, Nat.zero_lt_succ, xldc, kbm10, kbm9, kbm8, kbm7, kbm6, kbm5, kbm4, kbm3, kbm2, kb6, kb7, kb8, kb9, kb10, kb11, kb16, kb19, kb20, kb30, kb31, kb32, kb34, kb40, kb64, kb100, kb127, kim1, ki0, ki1, ki2, ki3, ki4, ki5, ks128, ks400, ks999, ks1000, ks4010, w207]
  refine ok_st rfl rfl ?_
  simp only [okS_some, xst, xp0, xp1, xp2, xp3, xp4, xp5, xload, xstore, xget_0, xget_s, xs_0, xs_1n, xs_1i, xs_1r, xs_1u, xs_1l, xs_s, xt_0, xt_1n, xt_1i, xt_1r, xt_1u, xt_1l, xt_s, xisref, xq0, Value.category, xcat, List.map_nil, List.map_cons, List.sum_nil, List.sum_cons, List.length_cons, List.length_nil, List.getElem?_cons_zero, List.getElem?_cons_succ, xmap_s, if_true, and_self, Nat.reduceAdd, Nat.reduceLT, Nat.reduceLeDiff, Nat.reduceEqDiff, Nat.lt_add_one, Nat.zero_le, Nat.le_refl, Nat.le_zero_eq, Nat.zero_lt_succ, xldc, kbm10, kbm9, kbm8, kbm7, kbm6, kbm5, kbm4, kbm3, kbm2, kb6, kb7, kb8, kb9, kb10, kb11, kb16, kb19, kb20, kb30, kb31, kb32, kb34, kb40, kb64, kb100, kb127, kim1, ki0, ki1, ki2, ki3, ki4, ki5, ks128, ks400, ks999, ks1000, ks4010]
  refine ok_cm (vs := [_, _, _, _, _, _]) rfl rfl rfl rfl (Nat.le_of_ble_eq_true rfl) (Nat.le_of_ble_eq_true rfl) rfl (by decide) hW (ix7 hW w203) ?_
  rintro _ h210 ⟨rfl, w211, og212⟩ k208 al209
  dsimp only [Option.toList, List.cons_append, List.nil_append, Nat.reduceAdd]
  have w213 := (og212 0 (ne_oo w207 w203 (by decide))).trans w207
  have hW := k208.1
  have hI := hI.kp k208 (by decide)
  have hx : hEx h h210 := fun q e he => (og212 q (hpn q e he)).trans (hx q e he)
  iterate 5 (refine ok_st rfl rfl ?_; simp only [okS_some, xst, xp0, xp1, xp2, xp3, xp4, xp5, xload, xstore, xget_0, xget_s, xs_0, xs_1n, xs_1i, xs_1r, xs_1u, xs_1l, xs_s, xt_0, xt_1n, xt_1i, xt_1r, xt_1u, xt_1l, xt_s, xisref, xq0, Value.category, xcat, List.map_nil, List.map_cons, List.sum_nil, List.sum_cons, List.length_cons, List.length_nil, List.getElem?_cons_zero, List.getElem?_cons_succ, xmap_s, if_true, and_self, Nat.reduceAdd, Nat.reduceLT, Nat.reduceLeDiff, Nat.reduceEqDiff, Nat.lt_add_one, Nat.zero_le, Nat.le_refl, Nat.le_zero_eq, Nat.zero_lt_succ, xldc, kbm10, kbm9, kbm8, kbm7, kbm6, kbm5, kbm4, kbm3, kbm2, kb6, kb7, kb8, kb9, kb10, kb11, kb16, kb19, kb20, kb30, kb31, kb32, kb34, kb40, kb64, kb100, kb127, kim1, ki0, ki1, ki2, ki3, ki4, ki5, ks128, ks400, ks999, ks1000, ks4010])
  refine ok_cm (vs := [_, _, _, _]) rfl rfl rfl rfl (Nat.le_of_ble_eq_true rfl) (Nat.le_of_ble_eq_true rfl) (by show xcl0 2 2 _ _ = true; simp [xcl0, w211]) (by decide) hW (ix8 hW w211) ?_
  rintro _ h216 ⟨rfl, w217, og218⟩ k214 al215
  dsimp only [Option.toList, List.cons_append, List.nil_append, Nat.reduceAdd]
  have w219 := (og218 0 (ne_oo w213 w211 (by decide))).trans w213
  have hW := k214.1
  have hI := hI.kp k214 (by decide)
  have hx : hEx h h216 := fun q e he => (og218 q (hpn q e he)).trans (hx q e he)
  iterate 2 (refine ok_st rfl rfl ?_; simp only [okS_some, xst, xp0, xp1, xp2, xp3, xp4, xp5, xload, xstore, xget_0, xget_s, xs_0, xs_1n, xs_1i, xs_1r, xs_1u, xs_1l, xs_s, xt_0, xt_1n, xt_1i, xt_1r, xt_1u, xt_1l, xt_s, xisref, xq0, Value.category, xcat, List.map_nil, List.map_cons, List.sum_nil, List.sum_cons, List.length_cons, List.length_nil, List.getElem?_cons_zero, List.getElem?_cons_succ, xmap_s, if_true, and_self, Nat.reduceAdd, Nat.reduceLT, Nat.reduceLeDiff, Nat.reduceEqDiff, Nat.lt_add_one, Nat.zero_le, Nat.le_refl, Nat.le_zero_eq, Nat.zero_lt_succ, xldc, kbm10, kbm9, kbm8, kbm7, kbm6, kbm5, kbm4, kbm3, kbm2, kb6, kb7, kb8, kb9, kb10, kb11, kb16, kb19, kb20, kb30, kb31, kb32, kb34, kb40, kb64, kb100, kb127, kim1, ki0, ki1, ki2, ki3, ki4, ki5, ks128, ks400, ks999, ks1000, ks4010])
  refine ok_pf rfl hW w217 (Nat.le_of_ble_eq_true rfl) rfl rfl ?_
  intro h220 k221 w222 s223 og224
  dsimp only [List.set, Nat.reduceAdd] at w222 ⊢
  have hW := k221.1
  have w225 := (og224 0 (ne_oo w219 w217 (by decide))).trans w219
  have hx : hEx h h220 := fun q e he => (og224 q (hpn q e he)).trans (hx q e he)
  have hI := hI.kp k221 (by decide)
  iterate 3 (refine ok_st rfl rfl ?_; simp only [okS_some, xst, xp0, xp1, xp2, xp3, xp4, xp5, xload, xstore, xget_0, xget_s, xs_0, xs_1n, xs_1i, xs_1r, xs_1u, xs_1l, xs_s, xt_0, xt_1n, xt_1i, xt_1r, xt_1u, xt_1l, xt_s, xisref, xq0, Value.category, xcat, List.map_nil, List.map_cons, List.sum_nil, List.sum_cons, List.length_cons, List.length_nil, List.getElem?_cons_zero, List.getElem?_cons_succ, xmap_s, if_true, and_self, Nat.reduceAdd, Nat.reduceLT, Nat.reduceLeDiff, Nat.reduceEqDiff, Nat.lt_add_one, Nat.zero_le, Nat.le_refl, Nat.le_zero_eq, Nat.zero_lt_succ, xldc, kbm10, kbm9, kbm8, kbm7, kbm6, kbm5, kbm4, kbm3, kbm2, kb6, kb7, kb8, kb9, kb10, kb11, kb16, kb19, kb20, kb30, kb31, kb32, kb34, kb40, kb64, kb100, kb127, kim1, ki0, ki1, ki2, ki3, ki4, ki5, ks128, ks400, ks999, ks1000, ks4010])
  refine ok_cm (vs := [_, _, _]) rfl rfl rfl rfl (Nat.le_of_ble_eq_true rfl) (Nat.le_of_ble_eq_true rfl) (by show xcl0 2 8 _ _ = true; simp [xcl0, w225]) (by decide) hW (br_r hW hI (by omega) (cS_ex hS hx) (jZ_ex hj hx) hM w222 (fun n hn z => hpn _ _ (hcell n hn) z.symm) hdI) ?_
  rintro _ h9 ⟨r, rfl, hb⟩ k226 al227
  dsimp only [Option.toList, List.cons_append, List.nil_append, Nat.reduceAdd]
  have hcm := cm_of (cS_ex hS hx) (jZ_ex hj hx) (fK_ex hx) hb
  refine ok_r1 rfl rfl rfl rfl ?_
  try dsimp only
  exact ⟨_, rfl, hcm⟩
set_option maxRecDepth 20000 in
set_option maxHeartbeats 4000000 in
/-- ToldHouse.taking(III)LToldHouse$Happening; -/
theorem ix80 {X : Nat × (Nat → Int32)} {h : xH} (hW : xWF h) {c : Nat} {td vc dc : Int32} (hI : cI c td vc dc h) {x1 x2 x3 : Int32} : okM X 80 [.ref 0, .int x1, .int x2, .int x3] h (fun v h' => ∃ p, v = some (.ref p) ∧ cI c td vc dc h' ∧ hEx h h' ∧ (∀ q e, h.2.2 q = some e → q ≠ p) ∧ h'.2.2 p = some (.inr (2, [.int x1, .int x3, .int (-1), .int (-1), .int 4, .int 0, .int 0, .int 0, .int td, .int td, .int x2, .int 0, .null]))) := by
  have hW0 := hW
  have h0 := hI.1
  have hx : hEx h h := fun _ _ he => he
  show ok X cd80 (0, [some (.ref 0), some (.int x1), some (.int x2), some (.int x3), none], []) h _
  refine ok_nw rfl hW (by decide) rfl ?_
  intro h201 k202 w203 s205 og206
  obtain ⟨p204, ep204⟩ : ∃ p, p = h.1 := ⟨_, rfl⟩
  rw [← ep204] at w203 og206 ⊢
  rw [show xfn 2 = 13 from rfl] at s205
  have w207 := (og206 0 (ne_new hW h0 ep204)).trans h0
  have hW := k202.1
  have hpn : ∀ q e, h.2.2 q = some e → q ≠ p204 := fun q e he z => by have := (hW0 q e he).1; omega
  have hx : hEx h h201 := fun q e he => (og206 q (hpn q e he)).trans he
  have hI := hI.kp k202 (by decide)
  iterate 4 (refine ok_st rfl rfl ?_; simp only [okS_some, xst, xp0, xp1, xp2, xp3, xp4, xp5, xload, xstore, xget_0, xget_s, xs_0, xs_1n, xs_1i, xs_1r, xs_1u, xs_1l, xs_s, xt_0, xt_1n, xt_1i, xt_1r, xt_1u, xt_1l, xt_s, xisref, xq0, Value.category, xcat, List.map_nil, List.map_cons, List.sum_nil, List.sum_cons, List.length_cons, List.length_nil, List.getElem?_cons_zero, List.getElem?_cons_succ, xmap_s, if_true, and_self, Nat.reduceAdd, Nat.reduceLT, Nat.reduceLeDiff, Nat.reduceEqDiff, Nat.lt_add_one, Nat.zero_le, Nat.le_refl, Nat.le_zero_eq, Nat.zero_lt_succ, xldc, kbm10, kbm9, kbm8, kbm7, kbm6, kbm5, kbm4, kbm3, kbm2, kb6, kb7, kb8, kb9, kb10, kb11, kb16, kb19, kb20, kb30, kb31, kb32, kb34, kb40, kb64, kb100, kb127, kim1, ki0, ki1, ki2, ki3, ki4, ki5, ks128, ks400, ks999, ks1000, ks4010])
  refine ok_st rfl rfl ?_
  simp only [okS_some, xst, xp0, xp1, xp2, xp3, xp4, xp5, xload, xstore, xget_0, xget_s, xs_0, xs_1n, xs_1i, xs_1r, xs_1u, xs_1l, xs_s, xt_0, xt_1n, xt_1i, xt_1r, xt_1u, xt_1l, xt_s, xisref, xq0, Value.category, xcat, List.map_nil, List.map_cons, List.sum_nil, List.sum_cons, List.length_cons, List.length_nil, List.getElem?_cons_zero, List.getElem?_cons_succ, xmap_s, if_true, and_self, Nat.reduceAdd, Nat.reduceLT, Nat.reduceLeDiff, Nat.reduceEqDiff, Nat.lt_add_one, Nat.zero_le, Nat.le_refl, Nat.le_zero_eq, Nat.zero_lt_succ, xldc, kbm10, kbm9, kbm8, kbm7, kbm6, kbm5, kbm4, kbm3, kbm2, kb6, kb7, kb8, kb9, kb10, kb11, kb16, kb19, kb20, kb30, kb31, kb32, kb34, kb40, kb64, kb100, kb127, kim1, ki0, ki1, ki2, ki3, ki4, ki5, ks128, ks400, ks999, ks1000, ks4010, w207]
  refine ok_st rfl rfl ?_
  simp only [okS_some, xst, xp0, xp1, xp2, xp3, xp4, xp5, xload, xstore, xget_0, xget_s, xs_0, xs_1n, xs_1i, xs_1r, xs_1u, xs_1l, xs_s, xt_0, xt_1n, xt_1i, xt_1r, xt_1u, xt_1l, xt_s, xisref, xq0, Value.category, xcat, List.map_nil, List.map_cons, List.sum_nil, List.sum_cons, List.length_cons, List.length_nil, List.getElem?_cons_zero, List.getElem?_cons_succ, xmap_s, if_true, and_self, Nat.reduceAdd, Nat.reduceLT, Nat.reduceLeDiff, Nat.reduceEqDiff, Nat.lt_add_one, Nat.zero_le, Nat.le_refl, Nat.le_zero_eq, Nat.zero_lt_succ, xldc, kbm10, kbm9, kbm8, kbm7, kbm6, kbm5, kbm4, kbm3, kbm2, kb6, kb7, kb8, kb9, kb10, kb11, kb16, kb19, kb20, kb30, kb31, kb32, kb34, kb40, kb64, kb100, kb127, kim1, ki0, ki1, ki2, ki3, ki4, ki5, ks128, ks400, ks999, ks1000, ks4010]
  refine ok_st rfl rfl ?_
  simp only [okS_some, xst, xp0, xp1, xp2, xp3, xp4, xp5, xload, xstore, xget_0, xget_s, xs_0, xs_1n, xs_1i, xs_1r, xs_1u, xs_1l, xs_s, xt_0, xt_1n, xt_1i, xt_1r, xt_1u, xt_1l, xt_s, xisref, xq0, Value.category, xcat, List.map_nil, List.map_cons, List.sum_nil, List.sum_cons, List.length_cons, List.length_nil, List.getElem?_cons_zero, List.getElem?_cons_succ, xmap_s, if_true, and_self, Nat.reduceAdd, Nat.reduceLT, Nat.reduceLeDiff, Nat.reduceEqDiff, Nat.lt_add_one, Nat.zero_le, Nat.le_refl, Nat.le_zero_eq, Nat.zero_lt_succ, xldc, kbm10, kbm9, kbm8, kbm7, kbm6, kbm5, kbm4, kbm3, kbm2, kb6, kb7, kb8, kb9, kb10, kb11, kb16, kb19, kb20, kb30, kb31, kb32, kb34, kb40, kb64, kb100, kb127, kim1, ki0, ki1, ki2, ki3, ki4, ki5, ks128, ks400, ks999, ks1000, ks4010, w207]
  refine ok_st rfl rfl ?_
  simp only [okS_some, xst, xp0, xp1, xp2, xp3, xp4, xp5, xload, xstore, xget_0, xget_s, xs_0, xs_1n, xs_1i, xs_1r, xs_1u, xs_1l, xs_s, xt_0, xt_1n, xt_1i, xt_1r, xt_1u, xt_1l, xt_s, xisref, xq0, Value.category, xcat, List.map_nil, List.map_cons, List.sum_nil, List.sum_cons, List.length_cons, List.length_nil, List.getElem?_cons_zero, List.getElem?_cons_succ, xmap_s, if_true, and_self, Nat.reduceAdd, Nat.reduceLT, Nat.reduceLeDiff, Nat.reduceEqDiff, Nat.lt_add_one, Nat.zero_le, Nat.le_refl, Nat.le_zero_eq, Nat.zero_lt_succ, xldc, kbm10, kbm9, kbm8, kbm7, kbm6, kbm5, kbm4, kbm3, kbm2, kb6, kb7, kb8, kb9, kb10, kb11, kb16, kb19, kb20, kb30, kb31, kb32, kb34, kb40, kb64, kb100, kb127, kim1, ki0, ki1, ki2, ki3, ki4, ki5, ks128, ks400, ks999, ks1000, ks4010]
  refine ok_cm (vs := [_, _, _, _, _, _]) rfl rfl rfl rfl (Nat.le_of_ble_eq_true rfl) (Nat.le_of_ble_eq_true rfl) rfl (by decide) hW (ix7 hW w203) ?_
  rintro _ h210 ⟨rfl, w211, og212⟩ k208 al209
  dsimp only [Option.toList, List.cons_append, List.nil_append, Nat.reduceAdd]
  have w213 := (og212 0 (ne_oo w207 w203 (by decide))).trans w207
  have hW := k208.1
  have hI := hI.kp k208 (by decide)
  have hx : hEx h h210 := fun q e he => (og212 q (hpn q e he)).trans (hx q e he)
  iterate 3 (refine ok_st rfl rfl ?_; simp only [okS_some, xst, xp0, xp1, xp2, xp3, xp4, xp5, xload, xstore, xget_0, xget_s, xs_0, xs_1n, xs_1i, xs_1r, xs_1u, xs_1l, xs_s, xt_0, xt_1n, xt_1i, xt_1r, xt_1u, xt_1l, xt_s, xisref, xq0, Value.category, xcat, List.map_nil, List.map_cons, List.sum_nil, List.sum_cons, List.length_cons, List.length_nil, List.getElem?_cons_zero, List.getElem?_cons_succ, xmap_s, if_true, and_self, Nat.reduceAdd, Nat.reduceLT, Nat.reduceLeDiff, Nat.reduceEqDiff, Nat.lt_add_one, Nat.zero_le, Nat.le_refl, Nat.le_zero_eq, Nat.zero_lt_succ, xldc, kbm10, kbm9, kbm8, kbm7, kbm6, kbm5, kbm4, kbm3, kbm2, kb6, kb7, kb8, kb9, kb10, kb11, kb16, kb19, kb20, kb30, kb31, kb32, kb34, kb40, kb64, kb100, kb127, kim1, ki0, ki1, ki2, ki3, ki4, ki5, ks128, ks400, ks999, ks1000, ks4010])
  refine ok_pf rfl hW w211 (Nat.le_of_ble_eq_true rfl) rfl rfl ?_
  intro h214 k215 w216 s217 og218
  dsimp only [List.set, Nat.reduceAdd] at w216 ⊢
  have hW := k215.1
  have w219 := (og218 0 (ne_oo w213 w211 (by decide))).trans w213
  have hx : hEx h h214 := fun q e he => (og218 q (hpn q e he)).trans (hx q e he)
  have hI := hI.kp k215 (by decide)
  refine ok_st rfl rfl ?_
  simp only [okS_some, xst, xp0, xp1, xp2, xp3, xp4, xp5, xload, xstore, xget_0, xget_s, xs_0, xs_1n, xs_1i, xs_1r, xs_1u, xs_1l, xs_s, xt_0, xt_1n, xt_1i, xt_1r, xt_1u, xt_1l, xt_s, xisref, xq0, Value.category, xcat, List.map_nil, List.map_cons, List.sum_nil, List.sum_cons, List.length_cons, List.length_nil, List.getElem?_cons_zero, List.getElem?_cons_succ, xmap_s, if_true, and_self, Nat.reduceAdd, Nat.reduceLT, Nat.reduceLeDiff, Nat.reduceEqDiff, Nat.lt_add_one, Nat.zero_le, Nat.le_refl, Nat.le_zero_eq, Nat.zero_lt_succ, xldc, kbm10, kbm9, kbm8, kbm7, kbm6, kbm5, kbm4, kbm3, kbm2, kb6, kb7, kb8, kb9, kb10, kb11, kb16, kb19, kb20, kb30, kb31, kb32, kb34, kb40, kb64, kb100, kb127, kim1, ki0, ki1, ki2, ki3, ki4, ki5, ks128, ks400, ks999, ks1000, ks4010]
  refine ok_r1 rfl rfl rfl rfl ?_
  try dsimp only
  exact ⟨_, rfl, hI, hx, hpn, w216⟩
set_option maxRecDepth 20000 in
set_option maxHeartbeats 4000000 in
/-- ToldHouse.take(III)I -/
theorem ix48 {X : Nat × (Nat → Int32)} {h : xH} (hW : xWF h) {c : Nat} {td vc dc : Int32} (hI : cI c td vc dc h) (hc : c ≤ 1026) {A : Nat → Nat → Int32} {M : Nat} {a T : Nat → Nat} (hS : cS h A M a T) (hj : jZ h) (hM : M ≤ 400) (hdI : ∀ s, s < 20 → dI A (mst A s) M) {x1 x2 x3 : Int32} : okM X 48 [.ref 0, .int x1, .int x2, .int x3] h (fun v h' => ∃ r, v = some (.int r) ∧ cmQ h h' A (rowA A M x1 4 0 0 0 td td x2 0) M a x1 4 0 0 0 td td x2 x3 r) := by
  have hW0 := hW
  have h0 := hI.1
  obtain ⟨Vv, Mv, hcell⟩ := hS.2.2.2.2.1
  have hx : hEx h h := fun _ _ he => he
  show ok X cd48 (0, [some (.ref 0), some (.int x1), some (.int x2), some (.int x3)], []) h _
  iterate 5 (refine ok_st rfl rfl ?_; simp only [okS_some, xst, xp0, xp1, xp2, xp3, xp4, xp5, xload, xstore, xget_0, xget_s, xs_0, xs_1n, xs_1i, xs_1r, xs_1u, xs_1l, xs_s, xt_0, xt_1n, xt_1i, xt_1r, xt_1u, xt_1l, xt_s, xisref, xq0, Value.category, xcat, List.map_nil, List.map_cons, List.sum_nil, List.sum_cons, List.length_cons, List.length_nil, List.getElem?_cons_zero, List.getElem?_cons_succ, xmap_s, if_true, and_self, Nat.reduceAdd, Nat.reduceLT, Nat.reduceLeDiff, Nat.reduceEqDiff, Nat.lt_add_one, Nat.zero_le, Nat.le_refl, Nat.le_zero_eq, Nat.zero_lt_succ, xldc, kbm10, kbm9, kbm8, kbm7, kbm6, kbm5, kbm4, kbm3, kbm2, kb6, kb7, kb8, kb9, kb10, kb11, kb16, kb19, kb20, kb30, kb31, kb32, kb34, kb40, kb64, kb100, kb127, kim1, ki0, ki1, ki2, ki3, ki4, ki5, ks128, ks400, ks999, ks1000, ks4010])
  refine ok_cm (vs := [_, _, _, _]) rfl rfl rfl rfl (Nat.le_of_ble_eq_true rfl) (Nat.le_of_ble_eq_true rfl) (by show xcl0 2 8 _ _ = true; simp [xcl0, h0]) (by decide) hW (ix80 hW hI) ?_
  rintro _ h8 ⟨p8, rfl, hI, hx, hpn, w8⟩ k201 al202
  dsimp only [Option.toList, List.cons_append, List.nil_append, Nat.reduceAdd]
  have hW := k201.1
  have h0 := hI.1
  refine ok_st rfl rfl ?_
  simp only [okS_some, xst, xp0, xp1, xp2, xp3, xp4, xp5, xload, xstore, xget_0, xget_s, xs_0, xs_1n, xs_1i, xs_1r, xs_1u, xs_1l, xs_s, xt_0, xt_1n, xt_1i, xt_1r, xt_1u, xt_1l, xt_s, xisref, xq0, Value.category, xcat, List.map_nil, List.map_cons, List.sum_nil, List.sum_cons, List.length_cons, List.length_nil, List.getElem?_cons_zero, List.getElem?_cons_succ, xmap_s, if_true, and_self, Nat.reduceAdd, Nat.reduceLT, Nat.reduceLeDiff, Nat.reduceEqDiff, Nat.lt_add_one, Nat.zero_le, Nat.le_refl, Nat.le_zero_eq, Nat.zero_lt_succ, xldc, kbm10, kbm9, kbm8, kbm7, kbm6, kbm5, kbm4, kbm3, kbm2, kb6, kb7, kb8, kb9, kb10, kb11, kb16, kb19, kb20, kb30, kb31, kb32, kb34, kb40, kb64, kb100, kb127, kim1, ki0, ki1, ki2, ki3, ki4, ki5, ks128, ks400, ks999, ks1000, ks4010]
  refine ok_cm (vs := [_, _, _]) rfl rfl rfl rfl (Nat.le_of_ble_eq_true rfl) (Nat.le_of_ble_eq_true rfl) (by show xcl0 2 8 _ _ = true; simp [xcl0, h0]) (by decide) hW (br_r hW hI (by omega) (cS_ex hS hx) (jZ_ex hj hx) hM w8 (fun n hn z => hpn _ _ (hcell n hn) z.symm) hdI) ?_
  rintro _ h9 ⟨r, rfl, hb⟩ k203 al204
  dsimp only [Option.toList, List.cons_append, List.nil_append, Nat.reduceAdd]
  have hcm := cm_of (cS_ex hS hx) (jZ_ex hj hx) (fK_ex hx) hb
  refine ok_r1 rfl rfl rfl rfl ?_
  try dsimp only
  exact ⟨_, rfl, hcm⟩
