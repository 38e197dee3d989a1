/-! EXACT: senders. Bits of ints -/
def tb32 (x : Int32) (i : Nat) : Bool := x.toBitVec.getLsbD i
theorem sh_all : (List.range 32).all (fun t => decide ((nI t &&& 31).toBitVec.smod 32 = BitVec.ofNat 32 t)) = true := by decide +kernel
theorem ush_all : (List.range 32).all (fun t => decide (((nI t).toUInt32 &&& Int32.toUInt32 31).toBitVec % 32 = BitVec.ofNat 32 t)) = true := by decide +kernel
theorem tb32_or (x y : Int32) (i : Nat) : tb32 (x ||| y) i = (tb32 x i || tb32 y i) := by simp [tb32]
theorem tb32_shl {x : Int32} {t i : Nat} (ht : t < 32) : tb32 (x <<< (nI t &&& 31)) i = (decide (i < 32) && !decide (i < t) && tb32 x (i - t)) := by
  have h := of_decide_eq_true (List.all_eq_true.mp sh_all t (List.mem_range.mpr ht))
  show (x <<< (nI t &&& 31)).toBitVec.getLsbD i = _
  rw [Int32.toBitVec_shiftLeft]
  have h2 : (nI t &&& 31).toBitVec.smod ((32 : Nat) : BitVec 32) = BitVec.ofNat 32 t := h
  rw [show ((nI t &&& 31).toBitVec.smod 32) = BitVec.ofNat 32 t from h, BitVec.shiftLeft_eq', BitVec.toNat_ofNat, Nat.mod_eq_of_lt (by omega), BitVec.getLsbD_shiftLeft]
  rfl
theorem tb32_shr {x : Int32} {t : Nat} (ht : t < 32) : ((x.toUInt32 >>> ((nI t).toUInt32 &&& Int32.toUInt32 31)).toInt32 &&& 1 = 0) ↔ tb32 x t = false := by
  have h := of_decide_eq_true (List.all_eq_true.mp ush_all t (List.mem_range.mpr ht))
  have e : ((x.toUInt32 >>> ((nI t).toUInt32 &&& Int32.toUInt32 31)).toInt32).toBitVec = x.toBitVec >>> t := by
    show (x.toUInt32 >>> ((nI t).toUInt32 &&& Int32.toUInt32 31)).toBitVec = _
    rw [UInt32.toBitVec_shiftRight, show (((nI t).toUInt32 &&& Int32.toUInt32 31).toBitVec % 32) = BitVec.ofNat 32 t from h, BitVec.ushiftRight_eq', BitVec.toNat_ofNat, Nat.mod_eq_of_lt (by omega)]
    rfl
  constructor
  · intro hz
    have h2 := congrArg (fun z : Int32 => z.toBitVec.getLsbD 0) hz
    try dsimp only at h2
    rw [Int32.toBitVec_and, BitVec.getLsbD_and, e, BitVec.getLsbD_ushiftRight] at h2
    have h3 : (1 : Int32).toBitVec.getLsbD 0 = true := by decide
    have h4 : (0 : Int32).toBitVec.getLsbD 0 = false := by decide
    rw [h3, h4, Bool.and_true, Nat.add_zero] at h2
    exact h2
  · intro hz
    rw [← Int32.toBitVec_inj]
    refine BitVec.eq_of_getLsbD_eq (fun i hi => ?_)
    rw [Int32.toBitVec_and, BitVec.getLsbD_and, e, BitVec.getLsbD_ushiftRight]
    by_cases h0 : i = 0
    · subst h0
      have hz2 : x.toBitVec.getLsbD (t + 0) = false := hz
      rw [hz2]
      decide
    · have h1 : (1 : Int32).toBitVec.getLsbD i = false := by
        show (1#32).getLsbD i = false
        rw [BitVec.getLsbD_one]
        simp [h0]
      have h2 : (0 : Int32).toBitVec.getLsbD i = false := by
        show (0#32).getLsbD i = false
        exact BitVec.getLsbD_zero
      rw [h1, h2, Bool.and_false]
theorem tb32_1 (i : Nat) : tb32 1 i = decide (i = 0) := by
  show (1#32).getLsbD i = _
  rw [BitVec.getLsbD_one]
  simp
/-- a sender: gn one more than the greatest that counted, cn the class's bits, C the model's slots -/
def snR (gn : Nat) (g cn : Int32) (C : Nat → Int64) : Prop := g.toInt = (gn : Int) - 1 ∧ gn ≤ 2 ^ 31 ∧ (∀ i, i < 32 → ∃ c, c ≤ gn ∧ C i = Int64.ofNat c) ∧ ∀ k, k < gn → gn ≤ k + 32 → (tb32 cn (gn - 1 - k) = true ↔ C (k % 32) = Int64.ofNat (k + 1))
theorem o64 {a b : Nat} (ha : a < 2 ^ 40) (hb : b < 2 ^ 40) : Int64.ofNat a = Int64.ofNat b ↔ a = b := by
  constructor
  · intro h
    have h2 := congrArg Int64.toInt h
    rw [Int64.toInt_ofNat_of_lt (by omega), Int64.toInt_ofNat_of_lt (by omega)] at h2
    omega
  · intro h; rw [h]
theorem snR_old {gn k : Nat} {g cn : Int32} {C : Nat → Int64} (h : snR gn g cn C) (hk : k < 2 ^ 31) : nI k ≤ g - 32 ↔ k + 33 ≤ gn := by
  obtain ⟨h1, h2, -⟩ := h
  rw [Int32.le_iff_toInt_le, nI_toInt hk, fb_subI (by rw [kt32, h1]; omega) (by rw [kt32, h1]; omega), kt32, h1]
  omega
theorem snR_le {gn k : Nat} {g cn : Int32} {C : Nat → Int64} (h : snR gn g cn C) (hk : k < 2 ^ 31) : nI k ≤ g ↔ k < gn := by
  obtain ⟨h1, h2, -⟩ := h
  rw [Int32.le_iff_toInt_le, nI_toInt hk, h1]
  omega
theorem snR_sub {gn k : Nat} {g cn : Int32} {C : Nat → Int64} (h : snR gn g cn C) (hk : k < gn) : g - nI k = nI (gn - 1 - k) := by
  obtain ⟨h1, h2, -⟩ := h
  rw [← Int32.toInt_inj, fb_subI (by rw [h1, nI_toInt (by omega)]; omega) (by rw [h1, nI_toInt (by omega)]; omega), h1, nI_toInt (by omega), nI_toInt (by omega)]
  omega
theorem snR_sub2 {gn k : Nat} {g cn : Int32} {C : Nat → Int64} (h : snR gn g cn C) (hk : k < 2 ^ 31) (hg : gn ≤ k) (h0 : ¬ g = -1) : nI k - g = nI (k + 1 - gn) := by
  obtain ⟨h1, h2, -⟩ := h
  have h3 : gn ≠ 0 := fun e => h0 (by rw [← Int32.toInt_inj, h1, e, ktm1]; rfl)
  rw [← Int32.toInt_inj, fb_subI (by rw [h1, nI_toInt hk]; omega) (by rw [h1, nI_toInt hk]; omega), h1, nI_toInt hk, nI_toInt (by omega)]
  omega
/-- has counted, for class and model -/
theorem snR_has {gn k : Nat} {g cn : Int32} {C : Nat → Int64} (h : snR gn g cn C) (hk : k < 2 ^ 31) (ho : ¬ k + 33 ≤ gn) : (k < gn ∧ tb32 cn (gn - 1 - k) = true) ↔ C (k % 32) = Int64.ofNat (k + 1) := by
  obtain ⟨h1, h2, h3, h4⟩ := h
  by_cases hkg : k < gn
  · rw [← h4 k hkg (by omega)]
    exact ⟨fun z => z.2, fun z => ⟨hkg, z⟩⟩
  · obtain ⟨c, q1, q2⟩ := h3 (k % 32) (Nat.mod_lt _ (by decide))
    constructor
    · exact fun z => absurd z.1 hkg
    · intro z
      rw [q2, o64 (by omega) (by omega)] at z
      omega
theorem snR_r1 {gn k : Nat} {g cn : Int32} {C : Nat → Int64} (h : snR gn g cn C) (hk : k < gn) (ho : ¬ k + 33 ≤ gn) : snR gn g (cn ||| ((1 : Int32) <<< (nI (gn - 1 - k) &&& 31))) (vp_updL C (k % 32) (Int64.ofNat (k + 1))) := by
  obtain ⟨h1, h2, h3, h4⟩ := h
  refine ⟨h1, h2, fun i hi => ?_, fun k' q1 q2 => ?_⟩
  · by_cases he : i = k % 32
    · subst he; exact ⟨k + 1, by omega, pk_uLs⟩
    · obtain ⟨c, z1, z2⟩ := h3 i hi
      exact ⟨c, z1, by rw [pk_uLn he]; exact z2⟩
  · rw [tb32_or, tb32_shl (by omega), tb32_1]
    by_cases he : k' = k
    · subst he
      rw [pk_uLs]
      simp
      omega
    · have hm : k' % 32 ≠ k % 32 := by omega
      rw [pk_uLn hm, ← h4 k' q1 q2]
      have : (decide (gn - 1 - k' < 32) && !decide (gn - 1 - k' < gn - 1 - k) && decide (gn - 1 - k' - (gn - 1 - k) = 0)) = false := by
        by_cases z : gn - 1 - k' < gn - 1 - k
        · rw [decide_eq_true z]; simp
        · rw [decide_eq_false (p := gn - 1 - k' - (gn - 1 - k) = 0) (by omega), Bool.and_false]
      rw [this, Bool.or_false]
theorem snR_r2 {gn k : Nat} {g cn cn' : Int32} {C : Nat → Int64} (h : snR gn g cn C) (hk : k < 2 ^ 31) (hg : gn ≤ k) (hc : (¬ gn = 0 ∧ k + 1 - gn < 32 ∧ cn' = (cn <<< (nI (k + 1 - gn) &&& 31)) ||| 1) ∨ ((gn = 0 ∨ 32 ≤ k + 1 - gn) ∧ cn' = 1)) : snR (k + 1) (nI k) cn' (vp_updL C (k % 32) (Int64.ofNat (k + 1))) := by
  obtain ⟨h1, h2, h3, h4⟩ := h
  refine ⟨by rw [nI_toInt hk]; omega, by omega, fun i hi => ?_, fun k' q1 q2 => ?_⟩
  · by_cases he : i = k % 32
    · subst he; exact ⟨k + 1, Nat.le_refl _, pk_uLs⟩
    · obtain ⟨c, z1, z2⟩ := h3 i hi
      exact ⟨c, by omega, by rw [pk_uLn he]; exact z2⟩
  · by_cases he : k' = k
    · subst he
      rw [pk_uLs]
      refine ⟨fun _ => rfl, fun _ => ?_⟩
      rw [show k' + 1 - 1 - k' = 0 by omega]
      rcases hc with ⟨_, _, rfl⟩ | ⟨_, rfl⟩
      · rw [tb32_or, tb32_1]; simp
      · rw [tb32_1]; rfl
    · have hm : k' % 32 ≠ k % 32 := by omega
      rw [pk_uLn hm]
      obtain ⟨c, z1, z2⟩ := h3 (k' % 32) (Nat.mod_lt _ (by decide))
      have nof : gn ≤ k' → ¬ C (k' % 32) = Int64.ofNat (k' + 1) := fun hh z => by
        rw [z2, o64 (by omega) (by omega)] at z
        omega
      rcases hc with ⟨n0, n1, rfl⟩ | ⟨n0, rfl⟩
      · rw [tb32_or, tb32_1, decide_eq_false (show ¬ k + 1 - 1 - k' = 0 by omega), Bool.or_false, tb32_shl n1]
        by_cases hkg : k' < gn
        · rw [← h4 k' hkg (by omega), decide_eq_true (show k + 1 - 1 - k' < 32 by omega), decide_eq_false (show ¬ k + 1 - 1 - k' < k + 1 - gn by omega), show k + 1 - 1 - k' - (k + 1 - gn) = gn - 1 - k' by omega]
          simp
        · rw [show (decide (k + 1 - 1 - k' < 32) && !decide (k + 1 - 1 - k' < k + 1 - gn) && tb32 cn (k + 1 - 1 - k' - (k + 1 - gn))) = false by rw [decide_eq_true (show k + 1 - 1 - k' < k + 1 - gn by omega)]; simp]
          exact ⟨fun z => (by cases z), fun z => absurd z (nof (by omega))⟩
      · rw [tb32_1, decide_eq_false (show ¬ k + 1 - 1 - k' = 0 by omega)]
        refine ⟨fun z => (by cases z), fun z => absurd z (nof (by omega))⟩
set_option maxRecDepth 20000 in
set_option maxHeartbeats 4000000 in
/-- ToldHouse$Sender.isOld(I)Z -/
theorem ix37 {X : Nat × (Nat → Int32)} {h : xH} (hW : xWF h) {p0 : Nat} {g cn : Int32} (hp0 : h.2.2 p0 = some (.inr (6, [.int g, .int cn]))) {x1 : Int32} : okM X 37 [.ref p0, .int x1] h (fun v h' => h = h' ∧ ((v = some (.int 1) ∧ (x1 ≤ g - 32)) ∨ (v = some (.int 0) ∧ ¬ (x1 ≤ g - 32)))) := by
  show ok X cd37 (0, [some (.ref p0), some (.int x1)], []) h _
  iterate 2 (refine ok_st rfl rfl ?_; simp only [okS_some, xst, xp0, xp1, xp2, xp3, xp4, xp5, xload, xstore, xget_0, xget_s, xs_0, xs_1n, xs_1i, xs_1r, xs_1u, xs_1l, xs_s, xt_0, xt_1n, xt_1i, xt_1r, xt_1u, xt_1l, xt_s, xisref, xq0, Value.category, xcat, List.map_nil, List.map_cons, List.sum_nil, List.sum_cons, List.length_cons, List.length_nil, List.getElem?_cons_zero, List.getElem?_cons_succ, xmap_s, if_true, and_self, Nat.reduceAdd, Nat.reduceLT, Nat.reduceLeDiff, Nat.reduceEqDiff, Nat.lt_add_one, Nat.zero_le, Nat.le_refl, Nat.le_zero_eq, Nat.zero_lt_succ, xldc, kbm10, kbm9, kbm8, kbm7, kbm6, kbm5, kbm4, kbm3, kbm2, kb6, kb7, kb8, kb9, kb10, kb11, kb16, kb19, kb20, kb30, kb31, kb32, kb34, kb40, kb64, kb100, kb127, kim1, ki0, ki1, ki2, ki3, ki4, ki5, ks128, ks400, ks999, ks1000, ks4010])
  refine ok_st rfl rfl ?_
  simp only [okS_some, xst, xp0, xp1, xp2, xp3, xp4, xp5, xload, xstore, xget_0, xget_s, xs_0, xs_1n, xs_1i, xs_1r, xs_1u, xs_1l, xs_s, xt_0, xt_1n, xt_1i, xt_1r, xt_1u, xt_1l, xt_s, xisref, xq0, Value.category, xcat, List.map_nil, List.map_cons, List.sum_nil, List.sum_cons, List.length_cons, List.length_nil, List.getElem?_cons_zero, List.getElem?_cons_succ, xmap_s, if_true, and_self, Nat.reduceAdd, Nat.reduceLT, Nat.reduceLeDiff, Nat.reduceEqDiff, Nat.lt_add_one, Nat.zero_le, Nat.le_refl, Nat.le_zero_eq, Nat.zero_lt_succ, xldc, kbm10, kbm9, kbm8, kbm7, kbm6, kbm5, kbm4, kbm3, kbm2, kb6, kb7, kb8, kb9, kb10, kb11, kb16, kb19, kb20, kb30, kb31, kb32, kb34, kb40, kb64, kb100, kb127, kim1, ki0, ki1, ki2, ki3, ki4, ki5, ks128, ks400, ks999, ks1000, ks4010, hp0]
  iterate 3 (refine ok_st rfl rfl ?_; simp only [okS_some, xst, xp0, xp1, xp2, xp3, xp4, xp5, xload, xstore, xget_0, xget_s, xs_0, xs_1n, xs_1i, xs_1r, xs_1u, xs_1l, xs_s, xt_0, xt_1n, xt_1i, xt_1r, xt_1u, xt_1l, xt_s, xisref, xq0, Value.category, xcat, List.map_nil, List.map_cons, List.sum_nil, List.sum_cons, List.length_cons, List.length_nil, List.getElem?_cons_zero, List.getElem?_cons_succ, xmap_s, if_true, and_self, Nat.reduceAdd, Nat.reduceLT, Nat.reduceLeDiff, Nat.reduceEqDiff, Nat.lt_add_one, Nat.zero_le, Nat.le_refl, Nat.le_zero_eq, Nat.zero_lt_succ, xldc, kbm10, kbm9, kbm8, kbm7, kbm6, kbm5, kbm4, kbm3, kbm2, kb6, kb7, kb8, kb9, kb10, kb11, kb16, kb19, kb20, kb30, kb31, kb32, kb34, kb40, kb64, kb100, kb127, kim1, ki0, ki1, ki2, ki3, ki4, ki5, ks128, ks400, ks999, ks1000, ks4010])
  refine ok_if (fun cc => ?_) (fun cc => ?_)
  · simp only [xcnd, decide_eq_true_eq, decide_eq_false_iff_not, Bool.not_eq_true', Bool.not_eq_false'] at cc
    refine ok_st rfl rfl ?_
    simp only [okS_some, xst, xp0, xp1, xp2, xp3, xp4, xp5, xload, xstore, xget_0, xget_s, xs_0, xs_1n, xs_1i, xs_1r, xs_1u, xs_1l, xs_s, xt_0, xt_1n, xt_1i, xt_1r, xt_1u, xt_1l, xt_s, xisref, xq0, Value.category, xcat, List.map_nil, List.map_cons, List.sum_nil, List.sum_cons, List.length_cons, List.length_nil, List.getElem?_cons_zero, List.getElem?_cons_succ, xmap_s, if_true, and_self, Nat.reduceAdd, Nat.reduceLT, Nat.reduceLeDiff, Nat.reduceEqDiff, Nat.lt_add_one, Nat.zero_le, Nat.le_refl, Nat.le_zero_eq, Nat.zero_lt_succ, xldc, kbm10, kbm9, kbm8, kbm7, kbm6, kbm5, kbm4, kbm3, kbm2, kb6, kb7, kb8, kb9, kb10, kb11, kb16, kb19, kb20, kb30, kb31, kb32, kb34, kb40, kb64, kb100, kb127, kim1, ki0, ki1, ki2, ki3, ki4, ki5, ks128, ks400, ks999, ks1000, ks4010]
    refine ok_r1 rfl rfl rfl rfl ?_
    try dsimp only
    exact ⟨rfl, Or.inr ⟨rfl, Int32.not_le.mpr cc⟩⟩
  · simp only [xcnd, decide_eq_true_eq, decide_eq_false_iff_not, Bool.not_eq_true', Bool.not_eq_false'] at cc
    iterate 2 (refine ok_st rfl rfl ?_; simp only [okS_some, xst, xp0, xp1, xp2, xp3, xp4, xp5, xload, xstore, xget_0, xget_s, xs_0, xs_1n, xs_1i, xs_1r, xs_1u, xs_1l, xs_s, xt_0, xt_1n, xt_1i, xt_1r, xt_1u, xt_1l, xt_s, xisref, xq0, Value.category, xcat, List.map_nil, List.map_cons, List.sum_nil, List.sum_cons, List.length_cons, List.length_nil, List.getElem?_cons_zero, List.getElem?_cons_succ, xmap_s, if_true, and_self, Nat.reduceAdd, Nat.reduceLT, Nat.reduceLeDiff, Nat.reduceEqDiff, Nat.lt_add_one, Nat.zero_le, Nat.le_refl, Nat.le_zero_eq, Nat.zero_lt_succ, xldc, kbm10, kbm9, kbm8, kbm7, kbm6, kbm5, kbm4, kbm3, kbm2, kb6, kb7, kb8, kb9, kb10, kb11, kb16, kb19, kb20, kb30, kb31, kb32, kb34, kb40, kb64, kb100, kb127, kim1, ki0, ki1, ki2, ki3, ki4, ki5, ks128, ks400, ks999, ks1000, ks4010])
    refine ok_r1 rfl rfl rfl rfl ?_
    try dsimp only
    exact ⟨rfl, Or.inl ⟨rfl, Int32.not_lt.mp cc⟩⟩
set_option maxRecDepth 20000 in
set_option maxHeartbeats 4000000 in
/-- ToldHouse$Sender.hasCounted(I)Z -/
theorem ix38 {X : Nat × (Nat → Int32)} {h : xH} (hW : xWF h) {p0 : Nat} {g cn : Int32} (hp0 : h.2.2 p0 = some (.inr (6, [.int g, .int cn]))) {x1 : Int32} : okM X 38 [.ref p0, .int x1] h (fun v h' => h = h' ∧ ((v = some (.int 1) ∧ (x1 ≤ g ∧ ¬ x1 ≤ g - 32 ∧ ¬ ((cn.toUInt32 >>> ((g - x1).toUInt32 &&& Int32.toUInt32 31)).toInt32 &&& 1 = 0))) ∨ (v = some (.int 0) ∧ ¬ (x1 ≤ g ∧ ¬ x1 ≤ g - 32 ∧ ¬ ((cn.toUInt32 >>> ((g - x1).toUInt32 &&& Int32.toUInt32 31)).toInt32 &&& 1 = 0))))) := by
  show ok X cd38 (0, [some (.ref p0), some (.int x1)], []) h _
  iterate 2 (refine ok_st rfl rfl ?_; simp only [okS_some, xst, xp0, xp1, xp2, xp3, xp4, xp5, xload, xstore, xget_0, xget_s, xs_0, xs_1n, xs_1i, xs_1r, xs_1u, xs_1l, xs_s, xt_0, xt_1n, xt_1i, xt_1r, xt_1u, xt_1l, xt_s, xisref, xq0, Value.category, xcat, List.map_nil, List.map_cons, List.sum_nil, List.sum_cons, List.length_cons, List.length_nil, List.getElem?_cons_zero, List.getElem?_cons_succ, xmap_s, if_true, and_self, Nat.reduceAdd, Nat.reduceLT, Nat.reduceLeDiff, Nat.reduceEqDiff, Nat.lt_add_one, Nat.zero_le, Nat.le_refl, Nat.le_zero_eq, Nat.zero_lt_succ, xldc, kbm10, kbm9, kbm8, kbm7, kbm6, kbm5, kbm4, kbm3, kbm2, kb6, kb7, kb8, kb9, kb10, kb11, kb16, kb19, kb20, kb30, kb31, kb32, kb34, kb40, kb64, kb100, kb127, kim1, ki0, ki1, ki2, ki3, ki4, ki5, ks128, ks400, ks999, ks1000, ks4010])
  refine ok_st rfl rfl ?_
  simp only [okS_some, xst, xp0, xp1, xp2, xp3, xp4, xp5, xload, xstore, xget_0, xget_s, xs_0, xs_1n, xs_1i, xs_1r, xs_1u, xs_1l, xs_s, xt_0, xt_1n, xt_1i, xt_1r, xt_1u, xt_1l, xt_s, xisref, xq0, Value.category, xcat, List.map_nil, List.map_cons, List.sum_nil, List.sum_cons, List.length_cons, List.length_nil, List.getElem?_cons_zero, List.getElem?_cons_succ, xmap_s, if_true, and_self, Nat.reduceAdd, Nat.reduceLT, Nat.reduceLeDiff, Nat.reduceEqDiff, Nat.lt_add_one, Nat.zero_le, Nat.le_refl, Nat.le_zero_eq, Nat.zero_lt_succ, xldc, kbm10, kbm9, kbm8, kbm7, kbm6, kbm5, kbm4, kbm3, kbm2, kb6, kb7, kb8, kb9, kb10, kb11, kb16, kb19, kb20, kb30, kb31, kb32, kb34, kb40, kb64, kb100, kb127, kim1, ki0, ki1, ki2, ki3, ki4, ki5, ks128, ks400, ks999, ks1000, ks4010, hp0]
  refine ok_st rfl rfl ?_
  simp only [okS_some, xst, xp0, xp1, xp2, xp3, xp4, xp5, xload, xstore, xget_0, xget_s, xs_0, xs_1n, xs_1i, xs_1r, xs_1u, xs_1l, xs_s, xt_0, xt_1n, xt_1i, xt_1r, xt_1u, xt_1l, xt_s, xisref, xq0, Value.category, xcat, List.map_nil, List.map_cons, List.sum_nil, List.sum_cons, List.length_cons, List.length_nil, List.getElem?_cons_zero, List.getElem?_cons_succ, xmap_s, if_true, and_self, Nat.reduceAdd, Nat.reduceLT, Nat.reduceLeDiff, Nat.reduceEqDiff, Nat.lt_add_one, Nat.zero_le, Nat.le_refl, Nat.le_zero_eq, Nat.zero_lt_succ, xldc, kbm10, kbm9, kbm8, kbm7, kbm6, kbm5, kbm4, kbm3, kbm2, kb6, kb7, kb8, kb9, kb10, kb11, kb16, kb19, kb20, kb30, kb31, kb32, kb34, kb40, kb64, kb100, kb127, kim1, ki0, ki1, ki2, ki3, ki4, ki5, ks128, ks400, ks999, ks1000, ks4010]
  refine ok_if (fun cc => ?_) (fun cc => ?_)
  · simp only [xcnd, decide_eq_true_eq, decide_eq_false_iff_not, Bool.not_eq_true', Bool.not_eq_false'] at cc
    refine ok_st rfl rfl ?_
    simp only [okS_some, xst, xp0, xp1, xp2, xp3, xp4, xp5, xload, xstore, xget_0, xget_s, xs_0, xs_1n, xs_1i, xs_1r, xs_1u, xs_1l, xs_s, xt_0, xt_1n, xt_1i, xt_1r, xt_1u, xt_1l, xt_s, xisref, xq0, Value.category, xcat, List.map_nil, List.map_cons, List.sum_nil, List.sum_cons, List.length_cons, List.length_nil, List.getElem?_cons_zero, List.getElem?_cons_succ, xmap_s, if_true, and_self, Nat.reduceAdd, Nat.reduceLT, Nat.reduceLeDiff, Nat.reduceEqDiff, Nat.lt_add_one, Nat.zero_le, Nat.le_refl, Nat.le_zero_eq, Nat.zero_lt_succ, xldc, kbm10, kbm9, kbm8, kbm7, kbm6, kbm5, kbm4, kbm3, kbm2, kb6, kb7, kb8, kb9, kb10, kb11, kb16, kb19, kb20, kb30, kb31, kb32, kb34, kb40, kb64, kb100, kb127, kim1, ki0, ki1, ki2, ki3, ki4, ki5, ks128, ks400, ks999, ks1000, ks4010]
    refine ok_r1 rfl rfl rfl rfl ?_
    try dsimp only
    exact ⟨rfl, Or.inr ⟨rfl, fun z => by first | exact absurd z.1 (Int32.not_le.mpr cc) | exact z.2.1 co | exact z.2.2 cz⟩⟩
  · simp only [xcnd, decide_eq_true_eq, decide_eq_false_iff_not, Bool.not_eq_true', Bool.not_eq_false'] at cc
    iterate 2 (refine ok_st rfl rfl ?_; simp only [okS_some, xst, xp0, xp1, xp2, xp3, xp4, xp5, xload, xstore, xget_0, xget_s, xs_0, xs_1n, xs_1i, xs_1r, xs_1u, xs_1l, xs_s, xt_0, xt_1n, xt_1i, xt_1r, xt_1u, xt_1l, xt_s, xisref, xq0, Value.category, xcat, List.map_nil, List.map_cons, List.sum_nil, List.sum_cons, List.length_cons, List.length_nil, List.getElem?_cons_zero, List.getElem?_cons_succ, xmap_s, if_true, and_self, Nat.reduceAdd, Nat.reduceLT, Nat.reduceLeDiff, Nat.reduceEqDiff, Nat.lt_add_one, Nat.zero_le, Nat.le_refl, Nat.le_zero_eq, Nat.zero_lt_succ, xldc, kbm10, kbm9, kbm8, kbm7, kbm6, kbm5, kbm4, kbm3, kbm2, kb6, kb7, kb8, kb9, kb10, kb11, kb16, kb19, kb20, kb30, kb31, kb32, kb34, kb40, kb64, kb100, kb127, kim1, ki0, ki1, ki2, ki3, ki4, ki5, ks128, ks400, ks999, ks1000, ks4010])
    refine ok_cm (vs := [_, _]) rfl rfl rfl rfl (Nat.le_of_ble_eq_true rfl) (Nat.le_of_ble_eq_true rfl) (by show xcl0 2 6 _ _ = true; simp [xcl0, hp0]) (by decide) hW (ix37 hW hp0) ?_
    rintro _ _ ⟨rfl, ⟨rfl, co⟩ | ⟨rfl, co⟩⟩ k201 al202
    · dsimp only [Option.toList, List.cons_append, List.nil_append, Nat.reduceAdd]
      refine ok_st rfl rfl ?_
      simp only [okS_some, xst, xp0, xp1, xp2, xp3, xp4, xp5, xload, xstore, xget_0, xget_s, xs_0, xs_1n, xs_1i, xs_1r, xs_1u, xs_1l, xs_s, xt_0, xt_1n, xt_1i, xt_1r, xt_1u, xt_1l, xt_s, xisref, xq0, Value.category, xcat, List.map_nil, List.map_cons, List.sum_nil, List.sum_cons, List.length_cons, List.length_nil, List.getElem?_cons_zero, List.getElem?_cons_succ, xmap_s, if_true, and_self, Nat.reduceAdd, Nat.reduceLT, Nat.reduceLeDiff, Nat.reduceEqDiff, Nat.lt_add_one, Nat.zero_le, Nat.le_refl, Nat.le_zero_eq, Nat.zero_lt_succ, xldc, kbm10, kbm9, kbm8, kbm7, kbm6, kbm5, kbm4, kbm3, kbm2, kb6, kb7, kb8, kb9, kb10, kb11, kb16, kb19, kb20, kb30, kb31, kb32, kb34, kb40, kb64, kb100, kb127, kim1, ki0, ki1, ki2, ki3, ki4, ki5, ks128, ks400, ks999, ks1000, ks4010]
      refine ok_bt rfl ?_
      refine ok_st rfl rfl ?_
      simp only [okS_some, xst, xp0, xp1, xp2, xp3, xp4, xp5, xload, xstore, xget_0, xget_s, xs_0, xs_1n, xs_1i, xs_1r, xs_1u, xs_1l, xs_s, xt_0, xt_1n, xt_1i, xt_1r, xt_1u, xt_1l, xt_s, xisref, xq0, Value.category, xcat, List.map_nil, List.map_cons, List.sum_nil, List.sum_cons, List.length_cons, List.length_nil, List.getElem?_cons_zero, List.getElem?_cons_succ, xmap_s, if_true, and_self, Nat.reduceAdd, Nat.reduceLT, Nat.reduceLeDiff, Nat.reduceEqDiff, Nat.lt_add_one, Nat.zero_le, Nat.le_refl, Nat.le_zero_eq, Nat.zero_lt_succ, xldc, kbm10, kbm9, kbm8, kbm7, kbm6, kbm5, kbm4, kbm3, kbm2, kb6, kb7, kb8, kb9, kb10, kb11, kb16, kb19, kb20, kb30, kb31, kb32, kb34, kb40, kb64, kb100, kb127, kim1, ki0, ki1, ki2, ki3, ki4, ki5, ks128, ks400, ks999, ks1000, ks4010]
      refine ok_r1 rfl rfl rfl rfl ?_
      try dsimp only
      exact ⟨rfl, Or.inr ⟨rfl, fun z => by first | exact absurd z.1 (Int32.not_le.mpr cc) | exact z.2.1 co | exact z.2.2 cz⟩⟩
    · dsimp only [Option.toList, List.cons_append, List.nil_append, Nat.reduceAdd]
      refine ok_st rfl rfl ?_
      simp only [okS_some, xst, xp0, xp1, xp2, xp3, xp4, xp5, xload, xstore, xget_0, xget_s, xs_0, xs_1n, xs_1i, xs_1r, xs_1u, xs_1l, xs_s, xt_0, xt_1n, xt_1i, xt_1r, xt_1u, xt_1l, xt_s, xisref, xq0, Value.category, xcat, List.map_nil, List.map_cons, List.sum_nil, List.sum_cons, List.length_cons, List.length_nil, List.getElem?_cons_zero, List.getElem?_cons_succ, xmap_s, if_true, and_self, Nat.reduceAdd, Nat.reduceLT, Nat.reduceLeDiff, Nat.reduceEqDiff, Nat.lt_add_one, Nat.zero_le, Nat.le_refl, Nat.le_zero_eq, Nat.zero_lt_succ, xldc, kbm10, kbm9, kbm8, kbm7, kbm6, kbm5, kbm4, kbm3, kbm2, kb6, kb7, kb8, kb9, kb10, kb11, kb16, kb19, kb20, kb30, kb31, kb32, kb34, kb40, kb64, kb100, kb127, kim1, ki0, ki1, ki2, ki3, ki4, ki5, ks128, ks400, ks999, ks1000, ks4010]
      refine ok_bf rfl ?_
      refine ok_st rfl rfl ?_
      simp only [okS_some, xst, xp0, xp1, xp2, xp3, xp4, xp5, xload, xstore, xget_0, xget_s, xs_0, xs_1n, xs_1i, xs_1r, xs_1u, xs_1l, xs_s, xt_0, xt_1n, xt_1i, xt_1r, xt_1u, xt_1l, xt_s, xisref, xq0, Value.category, xcat, List.map_nil, List.map_cons, List.sum_nil, List.sum_cons, List.length_cons, List.length_nil, List.getElem?_cons_zero, List.getElem?_cons_succ, xmap_s, if_true, and_self, Nat.reduceAdd, Nat.reduceLT, Nat.reduceLeDiff, Nat.reduceEqDiff, Nat.lt_add_one, Nat.zero_le, Nat.le_refl, Nat.le_zero_eq, Nat.zero_lt_succ, xldc, kbm10, kbm9, kbm8, kbm7, kbm6, kbm5, kbm4, kbm3, kbm2, kb6, kb7, kb8, kb9, kb10, kb11, kb16, kb19, kb20, kb30, kb31, kb32, kb34, kb40, kb64, kb100, kb127, kim1, ki0, ki1, ki2, ki3, ki4, ki5, ks128, ks400, ks999, ks1000, ks4010]
      refine ok_st rfl rfl ?_
      simp only [okS_some, xst, xp0, xp1, xp2, xp3, xp4, xp5, xload, xstore, xget_0, xget_s, xs_0, xs_1n, xs_1i, xs_1r, xs_1u, xs_1l, xs_s, xt_0, xt_1n, xt_1i, xt_1r, xt_1u, xt_1l, xt_s, xisref, xq0, Value.category, xcat, List.map_nil, List.map_cons, List.sum_nil, List.sum_cons, List.length_cons, List.length_nil, List.getElem?_cons_zero, List.getElem?_cons_succ, xmap_s, if_true, and_self, Nat.reduceAdd, Nat.reduceLT, Nat.reduceLeDiff, Nat.reduceEqDiff, Nat.lt_add_one, Nat.zero_le, Nat.le_refl, Nat.le_zero_eq, Nat.zero_lt_succ, xldc, kbm10, kbm9, kbm8, kbm7, kbm6, kbm5, kbm4, kbm3, kbm2, kb6, kb7, kb8, kb9, kb10, kb11, kb16, kb19, kb20, kb30, kb31, kb32, kb34, kb40, kb64, kb100, kb127, kim1, ki0, ki1, ki2, ki3, ki4, ki5, ks128, ks400, ks999, ks1000, ks4010, hp0]
      refine ok_st rfl rfl ?_
      simp only [okS_some, xst, xp0, xp1, xp2, xp3, xp4, xp5, xload, xstore, xget_0, xget_s, xs_0, xs_1n, xs_1i, xs_1r, xs_1u, xs_1l, xs_s, xt_0, xt_1n, xt_1i, xt_1r, xt_1u, xt_1l, xt_s, xisref, xq0, Value.category, xcat, List.map_nil, List.map_cons, List.sum_nil, List.sum_cons, List.length_cons, List.length_nil, List.getElem?_cons_zero, List.getElem?_cons_succ, xmap_s, if_true, and_self, Nat.reduceAdd, Nat.reduceLT, Nat.reduceLeDiff, Nat.reduceEqDiff, Nat.lt_add_one, Nat.zero_le, Nat.le_refl, Nat.le_zero_eq, Nat.zero_lt_succ, xldc, kbm10, kbm9, kbm8, kbm7, kbm6, kbm5, kbm4, kbm3, kbm2, kb6, kb7, kb8, kb9, kb10, kb11, kb16, kb19, kb20, kb30, kb31, kb32, kb34, kb40, kb64, kb100, kb127, kim1, ki0, ki1, ki2, ki3, ki4, ki5, ks128, ks400, ks999, ks1000, ks4010]
      refine ok_st rfl rfl ?_
      simp only [okS_some, xst, xp0, xp1, xp2, xp3, xp4, xp5, xload, xstore, xget_0, xget_s, xs_0, xs_1n, xs_1i, xs_1r, xs_1u, xs_1l, xs_s, xt_0, xt_1n, xt_1i, xt_1r, xt_1u, xt_1l, xt_s, xisref, xq0, Value.category, xcat, List.map_nil, List.map_cons, List.sum_nil, List.sum_cons, List.length_cons, List.length_nil, List.getElem?_cons_zero, List.getElem?_cons_succ, xmap_s, if_true, and_self, Nat.reduceAdd, Nat.reduceLT, Nat.reduceLeDiff, Nat.reduceEqDiff, Nat.lt_add_one, Nat.zero_le, Nat.le_refl, Nat.le_zero_eq, Nat.zero_lt_succ, xldc, kbm10, kbm9, kbm8, kbm7, kbm6, kbm5, kbm4, kbm3, kbm2, kb6, kb7, kb8, kb9, kb10, kb11, kb16, kb19, kb20, kb30, kb31, kb32, kb34, kb40, kb64, kb100, kb127, kim1, ki0, ki1, ki2, ki3, ki4, ki5, ks128, ks400, ks999, ks1000, ks4010, hp0]
      iterate 6 (refine ok_st rfl rfl ?_; simp only [okS_some, xst, xp0, xp1, xp2, xp3, xp4, xp5, xload, xstore, xget_0, xget_s, xs_0, xs_1n, xs_1i, xs_1r, xs_1u, xs_1l, xs_s, xt_0, xt_1n, xt_1i, xt_1r, xt_1u, xt_1l, xt_s, xisref, xq0, Value.category, xcat, List.map_nil, List.map_cons, List.sum_nil, List.sum_cons, List.length_cons, List.length_nil, List.getElem?_cons_zero, List.getElem?_cons_succ, xmap_s, if_true, and_self, Nat.reduceAdd, Nat.reduceLT, Nat.reduceLeDiff, Nat.reduceEqDiff, Nat.lt_add_one, Nat.zero_le, Nat.le_refl, Nat.le_zero_eq, Nat.zero_lt_succ, xldc, kbm10, kbm9, kbm8, kbm7, kbm6, kbm5, kbm4, kbm3, kbm2, kb6, kb7, kb8, kb9, kb10, kb11, kb16, kb19, kb20, kb30, kb31, kb32, kb34, kb40, kb64, kb100, kb127, kim1, ki0, ki1, ki2, ki3, ki4, ki5, ks128, ks400, ks999, ks1000, ks4010])
      refine ok_if (fun cz => ?_) (fun cz => ?_)
      · simp only [xcnd, decide_eq_true_eq, decide_eq_false_iff_not, Bool.not_eq_true', Bool.not_eq_false'] at cz
        refine ok_st rfl rfl ?_
        simp only [okS_some, xst, xp0, xp1, xp2, xp3, xp4, xp5, xload, xstore, xget_0, xget_s, xs_0, xs_1n, xs_1i, xs_1r, xs_1u, xs_1l, xs_s, xt_0, xt_1n, xt_1i, xt_1r, xt_1u, xt_1l, xt_s, xisref, xq0, Value.category, xcat, List.map_nil, List.map_cons, List.sum_nil, List.sum_cons, List.length_cons, List.length_nil, List.getElem?_cons_zero, List.getElem?_cons_succ, xmap_s, if_true, and_self, Nat.reduceAdd, Nat.reduceLT, Nat.reduceLeDiff, Nat.reduceEqDiff, Nat.lt_add_one, Nat.zero_le, Nat.le_refl, Nat.le_zero_eq, Nat.zero_lt_succ, xldc, kbm10, kbm9, kbm8, kbm7, kbm6, kbm5, kbm4, kbm3, kbm2, kb6, kb7, kb8, kb9, kb10, kb11, kb16, kb19, kb20, kb30, kb31, kb32, kb34, kb40, kb64, kb100, kb127, kim1, ki0, ki1, ki2, ki3, ki4, ki5, ks128, ks400, ks999, ks1000, ks4010]
        refine ok_r1 rfl rfl rfl rfl ?_
        try dsimp only
        exact ⟨rfl, Or.inr ⟨rfl, fun z => by first | exact absurd z.1 (Int32.not_le.mpr cc) | exact z.2.1 co | exact z.2.2 cz⟩⟩
      · simp only [xcnd, decide_eq_true_eq, decide_eq_false_iff_not, Bool.not_eq_true', Bool.not_eq_false'] at cz
        iterate 2 (refine ok_st rfl rfl ?_; simp only [okS_some, xst, xp0, xp1, xp2, xp3, xp4, xp5, xload, xstore, xget_0, xget_s, xs_0, xs_1n, xs_1i, xs_1r, xs_1u, xs_1l, xs_s, xt_0, xt_1n, xt_1i, xt_1r, xt_1u, xt_1l, xt_s, xisref, xq0, Value.category, xcat, List.map_nil, List.map_cons, List.sum_nil, List.sum_cons, List.length_cons, List.length_nil, List.getElem?_cons_zero, List.getElem?_cons_succ, xmap_s, if_true, and_self, Nat.reduceAdd, Nat.reduceLT, Nat.reduceLeDiff, Nat.reduceEqDiff, Nat.lt_add_one, Nat.zero_le, Nat.le_refl, Nat.le_zero_eq, Nat.zero_lt_succ, xldc, kbm10, kbm9, kbm8, kbm7, kbm6, kbm5, kbm4, kbm3, kbm2, kb6, kb7, kb8, kb9, kb10, kb11, kb16, kb19, kb20, kb30, kb31, kb32, kb34, kb40, kb64, kb100, kb127, kim1, ki0, ki1, ki2, ki3, ki4, ki5, ks128, ks400, ks999, ks1000, ks4010])
        refine ok_r1 rfl rfl rfl rfl ?_
        try dsimp only
        exact ⟨rfl, Or.inl ⟨rfl, ⟨Int32.not_lt.mp cc, co, cz⟩⟩⟩
set_option maxRecDepth 20000 in
set_option maxHeartbeats 4000000 in
/-- ToldHouse$Sender.remember(I)V -/
theorem ix39 {X : Nat × (Nat → Int32)} {h : xH} (hW : xWF h) {p0 : Nat} {g cn : Int32} (hp0 : h.2.2 p0 = some (.inr (6, [.int g, .int cn]))) {x1 : Int32} : okM X 39 [.ref p0, .int x1] h (fun v h' => v = none ∧ ((x1 ≤ g ∧ h'.2.2 p0 = some (.inr (6, [.int g, .int (cn ||| ((1 : Int32) <<< ((g - x1) &&& 31)))]))) ∨ (¬ x1 ≤ g ∧ ∃ cn', h'.2.2 p0 = some (.inr (6, [.int x1, .int cn'])) ∧ ((¬ g = -1 ∧ x1 - g < 32 ∧ cn' = (cn <<< ((x1 - g) &&& 31)) ||| 1) ∨ ((g = -1 ∨ ¬ x1 - g < 32) ∧ cn' = 1)))) ∧ ∀ p, p ≠ p0 → h'.2.2 p = h.2.2 p) := by
  have ho : ∀ p, p ≠ p0 → h.2.2 p = h.2.2 p := fun _ _ => rfl
  show ok X cd39 (0, [some (.ref p0), some (.int x1), none], []) h _
  iterate 2 (refine ok_st rfl rfl ?_; simp only [okS_some, xst, xp0, xp1, xp2, xp3, xp4, xp5, xload, xstore, xget_0, xget_s, xs_0, xs_1n, xs_1i, xs_1r, xs_1u, xs_1l, xs_s, xt_0, xt_1n, xt_1i, xt_1r, xt_1u, xt_1l, xt_s, xisref, xq0, Value.category, xcat, List.map_nil, List.map_cons, List.sum_nil, List.sum_cons, List.length_cons, List.length_nil, List.getElem?_cons_zero, List.getElem?_cons_succ, xmap_s, if_true, and_self, Nat.reduceAdd, Nat.reduceLT, Nat.reduceLeDiff, Nat.reduceEqDiff, Nat.lt_add_one, Nat.zero_le, Nat.le_refl, Nat.le_zero_eq, Nat.zero_lt_succ, xldc, kbm10, kbm9, kbm8, kbm7, kbm6, kbm5, kbm4, kbm3, kbm2, kb6, kb7, kb8, kb9, kb10, kb11, kb16, kb19, kb20, kb30, kb31, kb32, kb34, kb40, kb64, kb100, kb127, kim1, ki0, ki1, ki2, ki3, ki4, ki5, ks128, ks400, ks999, ks1000, ks4010])
  refine ok_st rfl rfl ?_
  simp only [okS_some, xst, xp0, xp1, xp2, xp3, xp4, xp5, xload, xstore, xget_0, xget_s, xs_0, xs_1n, xs_1i, xs_1r, xs_1u, xs_1l, xs_s, xt_0, xt_1n, xt_1i, xt_1r, xt_1u, xt_1l, xt_s, xisref, xq0, Value.category, xcat, List.map_nil, List.map_cons, List.sum_nil, List.sum_cons, List.length_cons, List.length_nil, List.getElem?_cons_zero, List.getElem?_cons_succ, xmap_s, if_true, and_self, Nat.reduceAdd, Nat.reduceLT, Nat.reduceLeDiff, Nat.reduceEqDiff, Nat.lt_add_one, Nat.zero_le, Nat.le_refl, Nat.le_zero_eq, Nat.zero_lt_succ, xldc, kbm10, kbm9, kbm8, kbm7, kbm6, kbm5, kbm4, kbm3, kbm2, kb6, kb7, kb8, kb9, kb10, kb11, kb16, kb19, kb20, kb30, kb31, kb32, kb34, kb40, kb64, kb100, kb127, kim1, ki0, ki1, ki2, ki3, ki4, ki5, ks128, ks400, ks999, ks1000, ks4010, hp0]
  refine ok_st rfl rfl ?_
  simp only [okS_some, xst, xp0, xp1, xp2, xp3, xp4, xp5, xload, xstore, xget_0, xget_s, xs_0, xs_1n, xs_1i, xs_1r, xs_1u, xs_1l, xs_s, xt_0, xt_1n, xt_1i, xt_1r, xt_1u, xt_1l, xt_s, xisref, xq0, Value.category, xcat, List.map_nil, List.map_cons, List.sum_nil, List.sum_cons, List.length_cons, List.length_nil, List.getElem?_cons_zero, List.getElem?_cons_succ, xmap_s, if_true, and_self, Nat.reduceAdd, Nat.reduceLT, Nat.reduceLeDiff, Nat.reduceEqDiff, Nat.lt_add_one, Nat.zero_le, Nat.le_refl, Nat.le_zero_eq, Nat.zero_lt_succ, xldc, kbm10, kbm9, kbm8, kbm7, kbm6, kbm5, kbm4, kbm3, kbm2, kb6, kb7, kb8, kb9, kb10, kb11, kb16, kb19, kb20, kb30, kb31, kb32, kb34, kb40, kb64, kb100, kb127, kim1, ki0, ki1, ki2, ki3, ki4, ki5, ks128, ks400, ks999, ks1000, ks4010]
  refine ok_if (fun cc => ?_) (fun cc => ?_)
  · simp only [xcnd, decide_eq_true_eq, decide_eq_false_iff_not, Bool.not_eq_true', Bool.not_eq_false'] at cc
    refine ok_st rfl rfl ?_
    simp only [okS_some, xst, xp0, xp1, xp2, xp3, xp4, xp5, xload, xstore, xget_0, xget_s, xs_0, xs_1n, xs_1i, xs_1r, xs_1u, xs_1l, xs_s, xt_0, xt_1n, xt_1i, xt_1r, xt_1u, xt_1l, xt_s, xisref, xq0, Value.category, xcat, List.map_nil, List.map_cons, List.sum_nil, List.sum_cons, List.length_cons, List.length_nil, List.getElem?_cons_zero, List.getElem?_cons_succ, xmap_s, if_true, and_self, Nat.reduceAdd, Nat.reduceLT, Nat.reduceLeDiff, Nat.reduceEqDiff, Nat.lt_add_one, Nat.zero_le, Nat.le_refl, Nat.le_zero_eq, Nat.zero_lt_succ, xldc, kbm10, kbm9, kbm8, kbm7, kbm6, kbm5, kbm4, kbm3, kbm2, kb6, kb7, kb8, kb9, kb10, kb11, kb16, kb19, kb20, kb30, kb31, kb32, kb34, kb40, kb64, kb100, kb127, kim1, ki0, ki1, ki2, ki3, ki4, ki5, ks128, ks400, ks999, ks1000, ks4010]
    refine ok_st rfl rfl ?_
    simp only [okS_some, xst, xp0, xp1, xp2, xp3, xp4, xp5, xload, xstore, xget_0, xget_s, xs_0, xs_1n, xs_1i, xs_1r, xs_1u, xs_1l, xs_s, xt_0, xt_1n, xt_1i, xt_1r, xt_1u, xt_1l, xt_s, xisref, xq0, Value.category, xcat, List.map_nil, List.map_cons, List.sum_nil, List.sum_cons, List.length_cons, List.length_nil, List.getElem?_cons_zero, List.getElem?_cons_succ, xmap_s, if_true, and_self, Nat.reduceAdd, Nat.reduceLT, Nat.reduceLeDiff, Nat.reduceEqDiff, Nat.lt_add_one, Nat.zero_le, Nat.le_refl, Nat.le_zero_eq, Nat.zero_lt_succ, xldc, kbm10, kbm9, kbm8, kbm7, kbm6, kbm5, kbm4, kbm3, kbm2, kb6, kb7, kb8, kb9, kb10, kb11, kb16, kb19, kb20, kb30, kb31, kb32, kb34, kb40, kb64, kb100, kb127, kim1, ki0, ki1, ki2, ki3, ki4, ki5, ks128, ks400, ks999, ks1000, ks4010, hp0]
    iterate 2 (refine ok_st rfl rfl ?_; simp only [okS_some, xst, xp0, xp1, xp2, xp3, xp4, xp5, xload, xstore, xget_0, xget_s, xs_0, xs_1n, xs_1i, xs_1r, xs_1u, xs_1l, xs_s, xt_0, xt_1n, xt_1i, xt_1r, xt_1u, xt_1l, xt_s, xisref, xq0, Value.category, xcat, List.map_nil, List.map_cons, List.sum_nil, List.sum_cons, List.length_cons, List.length_nil, List.getElem?_cons_zero, List.getElem?_cons_succ, xmap_s, if_true, and_self, Nat.reduceAdd, Nat.reduceLT, Nat.reduceLeDiff, Nat.reduceEqDiff, Nat.lt_add_one, Nat.zero_le, Nat.le_refl, Nat.le_zero_eq, Nat.zero_lt_succ, xldc, kbm10, kbm9, kbm8, kbm7, kbm6, kbm5, kbm4, kbm3, kbm2, kb6, kb7, kb8, kb9, kb10, kb11, kb16, kb19, kb20, kb30, kb31, kb32, kb34, kb40, kb64, kb100, kb127, kim1, ki0, ki1, ki2, ki3, ki4, ki5, ks128, ks400, ks999, ks1000, ks4010])
    refine ok_if (fun cg => ?_) (fun cg => ?_)
    · simp only [xcnd, decide_eq_true_eq, decide_eq_false_iff_not, Bool.not_eq_true', Bool.not_eq_false'] at cg
      iterate 5 (refine ok_st rfl rfl ?_; simp only [okS_some, xst, xp0, xp1, xp2, xp3, xp4, xp5, xload, xstore, xget_0, xget_s, xs_0, xs_1n, xs_1i, xs_1r, xs_1u, xs_1l, xs_s, xt_0, xt_1n, xt_1i, xt_1r, xt_1u, xt_1l, xt_s, xisref, xq0, Value.category, xcat, List.map_nil, List.map_cons, List.sum_nil, List.sum_cons, List.length_cons, List.length_nil, List.getElem?_cons_zero, List.getElem?_cons_succ, xmap_s, if_true, and_self, Nat.reduceAdd, Nat.reduceLT, Nat.reduceLeDiff, Nat.reduceEqDiff, Nat.lt_add_one, Nat.zero_le, Nat.le_refl, Nat.le_zero_eq, Nat.zero_lt_succ, xldc, kbm10, kbm9, kbm8, kbm7, kbm6, kbm5, kbm4, kbm3, kbm2, kb6, kb7, kb8, kb9, kb10, kb11, kb16, kb19, kb20, kb30, kb31, kb32, kb34, kb40, kb64, kb100, kb127, kim1, ki0, ki1, ki2, ki3, ki4, ki5, ks128, ks400, ks999, ks1000, ks4010])
      refine ok_bt rfl ?_
      refine ok_st rfl rfl ?_
      simp only [okS_some, xst, xp0, xp1, xp2, xp3, xp4, xp5, xload, xstore, xget_0, xget_s, xs_0, xs_1n, xs_1i, xs_1r, xs_1u, xs_1l, xs_s, xt_0, xt_1n, xt_1i, xt_1r, xt_1u, xt_1l, xt_s, xisref, xq0, Value.category, xcat, List.map_nil, List.map_cons, List.sum_nil, List.sum_cons, List.length_cons, List.length_nil, List.getElem?_cons_zero, List.getElem?_cons_succ, xmap_s, if_true, and_self, Nat.reduceAdd, Nat.reduceLT, Nat.reduceLeDiff, Nat.reduceEqDiff, Nat.lt_add_one, Nat.zero_le, Nat.le_refl, Nat.le_zero_eq, Nat.zero_lt_succ, xldc, kbm10, kbm9, kbm8, kbm7, kbm6, kbm5, kbm4, kbm3, kbm2, kb6, kb7, kb8, kb9, kb10, kb11, kb16, kb19, kb20, kb30, kb31, kb32, kb34, kb40, kb64, kb100, kb127, kim1, ki0, ki1, ki2, ki3, ki4, ki5, ks128, ks400, ks999, ks1000, ks4010]
      refine ok_pf rfl hW hp0 (Nat.le_of_ble_eq_true rfl) rfl rfl ?_
      intro h201 k202 w203 s204 og205
      dsimp only [List.set, Nat.reduceAdd] at w203 ⊢
      have hW := k202.1
      have ho := fun p (hp : p ≠ p0) => (og205 p hp).trans (ho p hp)
      iterate 2 (refine ok_st rfl rfl ?_; simp only [okS_some, xst, xp0, xp1, xp2, xp3, xp4, xp5, xload, xstore, xget_0, xget_s, xs_0, xs_1n, xs_1i, xs_1r, xs_1u, xs_1l, xs_s, xt_0, xt_1n, xt_1i, xt_1r, xt_1u, xt_1l, xt_s, xisref, xq0, Value.category, xcat, List.map_nil, List.map_cons, List.sum_nil, List.sum_cons, List.length_cons, List.length_nil, List.getElem?_cons_zero, List.getElem?_cons_succ, xmap_s, if_true, and_self, Nat.reduceAdd, Nat.reduceLT, Nat.reduceLeDiff, Nat.reduceEqDiff, Nat.lt_add_one, Nat.zero_le, Nat.le_refl, Nat.le_zero_eq, Nat.zero_lt_succ, xldc, kbm10, kbm9, kbm8, kbm7, kbm6, kbm5, kbm4, kbm3, kbm2, kb6, kb7, kb8, kb9, kb10, kb11, kb16, kb19, kb20, kb30, kb31, kb32, kb34, kb40, kb64, kb100, kb127, kim1, ki0, ki1, ki2, ki3, ki4, ki5, ks128, ks400, ks999, ks1000, ks4010])
      refine ok_pf rfl hW w203 (Nat.le_of_ble_eq_true rfl) rfl rfl ?_
      intro h206 k207 w208 s209 og210
      dsimp only [List.set, Nat.reduceAdd] at w208 ⊢
      have hW := k207.1
      have ho := fun p (hp : p ≠ p0) => (og210 p hp).trans (ho p hp)
      refine ok_r0 rfl rfl rfl ?_
      try dsimp only
      exact ⟨rfl, Or.inr ⟨Int32.not_le.mpr cc, _, w208, by first | exact Or.inl ⟨cg, Int32.not_le.mp cs, rfl⟩ | exact Or.inr ⟨Or.inl cg, rfl⟩ | exact Or.inr ⟨Or.inr (Int32.not_lt.mpr cs), rfl⟩⟩, ho⟩
    · simp only [xcnd, decide_eq_true_eq, decide_eq_false_iff_not, Bool.not_eq_true', Bool.not_eq_false'] at cg
      iterate 2 (refine ok_st rfl rfl ?_; simp only [okS_some, xst, xp0, xp1, xp2, xp3, xp4, xp5, xload, xstore, xget_0, xget_s, xs_0, xs_1n, xs_1i, xs_1r, xs_1u, xs_1l, xs_s, xt_0, xt_1n, xt_1i, xt_1r, xt_1u, xt_1l, xt_s, xisref, xq0, Value.category, xcat, List.map_nil, List.map_cons, List.sum_nil, List.sum_cons, List.length_cons, List.length_nil, List.getElem?_cons_zero, List.getElem?_cons_succ, xmap_s, if_true, and_self, Nat.reduceAdd, Nat.reduceLT, Nat.reduceLeDiff, Nat.reduceEqDiff, Nat.lt_add_one, Nat.zero_le, Nat.le_refl, Nat.le_zero_eq, Nat.zero_lt_succ, xldc, kbm10, kbm9, kbm8, kbm7, kbm6, kbm5, kbm4, kbm3, kbm2, kb6, kb7, kb8, kb9, kb10, kb11, kb16, kb19, kb20, kb30, kb31, kb32, kb34, kb40, kb64, kb100, kb127, kim1, ki0, ki1, ki2, ki3, ki4, ki5, ks128, ks400, ks999, ks1000, ks4010])
      refine ok_st rfl rfl ?_
      simp only [okS_some, xst, xp0, xp1, xp2, xp3, xp4, xp5, xload, xstore, xget_0, xget_s, xs_0, xs_1n, xs_1i, xs_1r, xs_1u, xs_1l, xs_s, xt_0, xt_1n, xt_1i, xt_1r, xt_1u, xt_1l, xt_s, xisref, xq0, Value.category, xcat, List.map_nil, List.map_cons, List.sum_nil, List.sum_cons, List.length_cons, List.length_nil, List.getElem?_cons_zero, List.getElem?_cons_succ, xmap_s, if_true, and_self, Nat.reduceAdd, Nat.reduceLT, Nat.reduceLeDiff, Nat.reduceEqDiff, Nat.lt_add_one, Nat.zero_le, Nat.le_refl, Nat.le_zero_eq, Nat.zero_lt_succ, xldc, kbm10, kbm9, kbm8, kbm7, kbm6, kbm5, kbm4, kbm3, kbm2, kb6, kb7, kb8, kb9, kb10, kb11, kb16, kb19, kb20, kb30, kb31, kb32, kb34, kb40, kb64, kb100, kb127, kim1, ki0, ki1, ki2, ki3, ki4, ki5, ks128, ks400, ks999, ks1000, ks4010, hp0]
      iterate 3 (refine ok_st rfl rfl ?_; simp only [okS_some, xst, xp0, xp1, xp2, xp3, xp4, xp5, xload, xstore, xget_0, xget_s, xs_0, xs_1n, xs_1i, xs_1r, xs_1u, xs_1l, xs_s, xt_0, xt_1n, xt_1i, xt_1r, xt_1u, xt_1l, xt_s, xisref, xq0, Value.category, xcat, List.map_nil, List.map_cons, List.sum_nil, List.sum_cons, List.length_cons, List.length_nil, List.getElem?_cons_zero, List.getElem?_cons_succ, xmap_s, if_true, and_self, Nat.reduceAdd, Nat.reduceLT, Nat.reduceLeDiff, Nat.reduceEqDiff, Nat.lt_add_one, Nat.zero_le, Nat.le_refl, Nat.le_zero_eq, Nat.zero_lt_succ, xldc, kbm10, kbm9, kbm8, kbm7, kbm6, kbm5, kbm4, kbm3, kbm2, kb6, kb7, kb8, kb9, kb10, kb11, kb16, kb19, kb20, kb30, kb31, kb32, kb34, kb40, kb64, kb100, kb127, kim1, ki0, ki1, ki2, ki3, ki4, ki5, ks128, ks400, ks999, ks1000, ks4010])
      refine ok_if (fun cs => ?_) (fun cs => ?_)
      · simp only [xcnd, decide_eq_true_eq, decide_eq_false_iff_not, Bool.not_eq_true', Bool.not_eq_false'] at cs
        iterate 5 (refine ok_st rfl rfl ?_; simp only [okS_some, xst, xp0, xp1, xp2, xp3, xp4, xp5, xload, xstore, xget_0, xget_s, xs_0, xs_1n, xs_1i, xs_1r, xs_1u, xs_1l, xs_s, xt_0, xt_1n, xt_1i, xt_1r, xt_1u, xt_1l, xt_s, xisref, xq0, Value.category, xcat, List.map_nil, List.map_cons, List.sum_nil, List.sum_cons, List.length_cons, List.length_nil, List.getElem?_cons_zero, List.getElem?_cons_succ, xmap_s, if_true, and_self, Nat.reduceAdd, Nat.reduceLT, Nat.reduceLeDiff, Nat.reduceEqDiff, Nat.lt_add_one, Nat.zero_le, Nat.le_refl, Nat.le_zero_eq, Nat.zero_lt_succ, xldc, kbm10, kbm9, kbm8, kbm7, kbm6, kbm5, kbm4, kbm3, kbm2, kb6, kb7, kb8, kb9, kb10, kb11, kb16, kb19, kb20, kb30, kb31, kb32, kb34, kb40, kb64, kb100, kb127, kim1, ki0, ki1, ki2, ki3, ki4, ki5, ks128, ks400, ks999, ks1000, ks4010])
        refine ok_bt rfl ?_
        refine ok_st rfl rfl ?_
        simp only [okS_some, xst, xp0, xp1, xp2, xp3, xp4, xp5, xload, xstore, xget_0, xget_s, xs_0, xs_1n, xs_1i, xs_1r, xs_1u, xs_1l, xs_s, xt_0, xt_1n, xt_1i, xt_1r, xt_1u, xt_1l, xt_s, xisref, xq0, Value.category, xcat, List.map_nil, List.map_cons, List.sum_nil, List.sum_cons, List.length_cons, List.length_nil, List.getElem?_cons_zero, List.getElem?_cons_succ, xmap_s, if_true, and_self, Nat.reduceAdd, Nat.reduceLT, Nat.reduceLeDiff, Nat.reduceEqDiff, Nat.lt_add_one, Nat.zero_le, Nat.le_refl, Nat.le_zero_eq, Nat.zero_lt_succ, xldc, kbm10, kbm9, kbm8, kbm7, kbm6, kbm5, kbm4, kbm3, kbm2, kb6, kb7, kb8, kb9, kb10, kb11, kb16, kb19, kb20, kb30, kb31, kb32, kb34, kb40, kb64, kb100, kb127, kim1, ki0, ki1, ki2, ki3, ki4, ki5, ks128, ks400, ks999, ks1000, ks4010]
        refine ok_pf rfl hW hp0 (Nat.le_of_ble_eq_true rfl) rfl rfl ?_
        intro h211 k212 w213 s214 og215
        dsimp only [List.set, Nat.reduceAdd] at w213 ⊢
        have hW := k212.1
        have ho := fun p (hp : p ≠ p0) => (og215 p hp).trans (ho p hp)
        iterate 2 (refine ok_st rfl rfl ?_; simp only [okS_some, xst, xp0, xp1, xp2, xp3, xp4, xp5, xload, xstore, xget_0, xget_s, xs_0, xs_1n, xs_1i, xs_1r, xs_1u, xs_1l, xs_s, xt_0, xt_1n, xt_1i, xt_1r, xt_1u, xt_1l, xt_s, xisref, xq0, Value.category, xcat, List.map_nil, List.map_cons, List.sum_nil, List.sum_cons, List.length_cons, List.length_nil, List.getElem?_cons_zero, List.getElem?_cons_succ, xmap_s, if_true, and_self, Nat.reduceAdd, Nat.reduceLT, Nat.reduceLeDiff, Nat.reduceEqDiff, Nat.lt_add_one, Nat.zero_le, Nat.le_refl, Nat.le_zero_eq, Nat.zero_lt_succ, xldc, kbm10, kbm9, kbm8, kbm7, kbm6, kbm5, kbm4, kbm3, kbm2, kb6, kb7, kb8, kb9, kb10, kb11, kb16, kb19, kb20, kb30, kb31, kb32, kb34, kb40, kb64, kb100, kb127, kim1, ki0, ki1, ki2, ki3, ki4, ki5, ks128, ks400, ks999, ks1000, ks4010])
        refine ok_pf rfl hW w213 (Nat.le_of_ble_eq_true rfl) rfl rfl ?_
        intro h216 k217 w218 s219 og220
        dsimp only [List.set, Nat.reduceAdd] at w218 ⊢
        have hW := k217.1
        have ho := fun p (hp : p ≠ p0) => (og220 p hp).trans (ho p hp)
        refine ok_r0 rfl rfl rfl ?_
        try dsimp only
        exact ⟨rfl, Or.inr ⟨Int32.not_le.mpr cc, _, w218, by first | exact Or.inl ⟨cg, Int32.not_le.mp cs, rfl⟩ | exact Or.inr ⟨Or.inl cg, rfl⟩ | exact Or.inr ⟨Or.inr (Int32.not_lt.mpr cs), rfl⟩⟩, ho⟩
      · simp only [xcnd, decide_eq_true_eq, decide_eq_false_iff_not, Bool.not_eq_true', Bool.not_eq_false'] at cs
        iterate 6 (refine ok_st rfl rfl ?_; simp only [okS_some, xst, xp0, xp1, xp2, xp3, xp4, xp5, xload, xstore, xget_0, xget_s, xs_0, xs_1n, xs_1i, xs_1r, xs_1u, xs_1l, xs_s, xt_0, xt_1n, xt_1i, xt_1r, xt_1u, xt_1l, xt_s, xisref, xq0, Value.category, xcat, List.map_nil, List.map_cons, List.sum_nil, List.sum_cons, List.length_cons, List.length_nil, List.getElem?_cons_zero, List.getElem?_cons_succ, xmap_s, if_true, and_self, Nat.reduceAdd, Nat.reduceLT, Nat.reduceLeDiff, Nat.reduceEqDiff, Nat.lt_add_one, Nat.zero_le, Nat.le_refl, Nat.le_zero_eq, Nat.zero_lt_succ, xldc, kbm10, kbm9, kbm8, kbm7, kbm6, kbm5, kbm4, kbm3, kbm2, kb6, kb7, kb8, kb9, kb10, kb11, kb16, kb19, kb20, kb30, kb31, kb32, kb34, kb40, kb64, kb100, kb127, kim1, ki0, ki1, ki2, ki3, ki4, ki5, ks128, ks400, ks999, ks1000, ks4010])
        refine ok_bf rfl ?_
        refine ok_st rfl rfl ?_
        simp only [okS_some, xst, xp0, xp1, xp2, xp3, xp4, xp5, xload, xstore, xget_0, xget_s, xs_0, xs_1n, xs_1i, xs_1r, xs_1u, xs_1l, xs_s, xt_0, xt_1n, xt_1i, xt_1r, xt_1u, xt_1l, xt_s, xisref, xq0, Value.category, xcat, List.map_nil, List.map_cons, List.sum_nil, List.sum_cons, List.length_cons, List.length_nil, List.getElem?_cons_zero, List.getElem?_cons_succ, xmap_s, if_true, and_self, Nat.reduceAdd, Nat.reduceLT, Nat.reduceLeDiff, Nat.reduceEqDiff, Nat.lt_add_one, Nat.zero_le, Nat.le_refl, Nat.le_zero_eq, Nat.zero_lt_succ, xldc, kbm10, kbm9, kbm8, kbm7, kbm6, kbm5, kbm4, kbm3, kbm2, kb6, kb7, kb8, kb9, kb10, kb11, kb16, kb19, kb20, kb30, kb31, kb32, kb34, kb40, kb64, kb100, kb127, kim1, ki0, ki1, ki2, ki3, ki4, ki5, ks128, ks400, ks999, ks1000, ks4010]
        refine ok_st rfl rfl ?_
        simp only [okS_some, xst, xp0, xp1, xp2, xp3, xp4, xp5, xload, xstore, xget_0, xget_s, xs_0, xs_1n, xs_1i, xs_1r, xs_1u, xs_1l, xs_s, xt_0, xt_1n, xt_1i, xt_1r, xt_1u, xt_1l, xt_s, xisref, xq0, Value.category, xcat, List.map_nil, List.map_cons, List.sum_nil, List.sum_cons, List.length_cons, List.length_nil, List.getElem?_cons_zero, List.getElem?_cons_succ, xmap_s, if_true, and_self, Nat.reduceAdd, Nat.reduceLT, Nat.reduceLeDiff, Nat.reduceEqDiff, Nat.lt_add_one, Nat.zero_le, Nat.le_refl, Nat.le_zero_eq, Nat.zero_lt_succ, xldc, kbm10, kbm9, kbm8, kbm7, kbm6, kbm5, kbm4, kbm3, kbm2, kb6, kb7, kb8, kb9, kb10, kb11, kb16, kb19, kb20, kb30, kb31, kb32, kb34, kb40, kb64, kb100, kb127, kim1, ki0, ki1, ki2, ki3, ki4, ki5, ks128, ks400, ks999, ks1000, ks4010, hp0]
        iterate 2 (refine ok_st rfl rfl ?_; simp only [okS_some, xst, xp0, xp1, xp2, xp3, xp4, xp5, xload, xstore, xget_0, xget_s, xs_0, xs_1n, xs_1i, xs_1r, xs_1u, xs_1l, xs_s, xt_0, xt_1n, xt_1i, xt_1r, xt_1u, xt_1l, xt_s, xisref, xq0, Value.category, xcat, List.map_nil, List.map_cons, List.sum_nil, List.sum_cons, List.length_cons, List.length_nil, List.getElem?_cons_zero, List.getElem?_cons_succ, xmap_s, if_true, and_self, Nat.reduceAdd, Nat.reduceLT, Nat.reduceLeDiff, Nat.reduceEqDiff, Nat.lt_add_one, Nat.zero_le, Nat.le_refl, Nat.le_zero_eq, Nat.zero_lt_succ, xldc, kbm10, kbm9, kbm8, kbm7, kbm6, kbm5, kbm4, kbm3, kbm2, kb6, kb7, kb8, kb9, kb10, kb11, kb16, kb19, kb20, kb30, kb31, kb32, kb34, kb40, kb64, kb100, kb127, kim1, ki0, ki1, ki2, ki3, ki4, ki5, ks128, ks400, ks999, ks1000, ks4010])
        refine ok_st rfl rfl ?_
        simp only [okS_some, xst, xp0, xp1, xp2, xp3, xp4, xp5, xload, xstore, xget_0, xget_s, xs_0, xs_1n, xs_1i, xs_1r, xs_1u, xs_1l, xs_s, xt_0, xt_1n, xt_1i, xt_1r, xt_1u, xt_1l, xt_s, xisref, xq0, Value.category, xcat, List.map_nil, List.map_cons, List.sum_nil, List.sum_cons, List.length_cons, List.length_nil, List.getElem?_cons_zero, List.getElem?_cons_succ, xmap_s, if_true, and_self, Nat.reduceAdd, Nat.reduceLT, Nat.reduceLeDiff, Nat.reduceEqDiff, Nat.lt_add_one, Nat.zero_le, Nat.le_refl, Nat.le_zero_eq, Nat.zero_lt_succ, xldc, kbm10, kbm9, kbm8, kbm7, kbm6, kbm5, kbm4, kbm3, kbm2, kb6, kb7, kb8, kb9, kb10, kb11, kb16, kb19, kb20, kb30, kb31, kb32, kb34, kb40, kb64, kb100, kb127, kim1, ki0, ki1, ki2, ki3, ki4, ki5, ks128, ks400, ks999, ks1000, ks4010, hp0]
        iterate 5 (refine ok_st rfl rfl ?_; simp only [okS_some, xst, xp0, xp1, xp2, xp3, xp4, xp5, xload, xstore, xget_0, xget_s, xs_0, xs_1n, xs_1i, xs_1r, xs_1u, xs_1l, xs_s, xt_0, xt_1n, xt_1i, xt_1r, xt_1u, xt_1l, xt_s, xisref, xq0, Value.category, xcat, List.map_nil, List.map_cons, List.sum_nil, List.sum_cons, List.length_cons, List.length_nil, List.getElem?_cons_zero, List.getElem?_cons_succ, xmap_s, if_true, and_self, Nat.reduceAdd, Nat.reduceLT, Nat.reduceLeDiff, Nat.reduceEqDiff, Nat.lt_add_one, Nat.zero_le, Nat.le_refl, Nat.le_zero_eq, Nat.zero_lt_succ, xldc, kbm10, kbm9, kbm8, kbm7, kbm6, kbm5, kbm4, kbm3, kbm2, kb6, kb7, kb8, kb9, kb10, kb11, kb16, kb19, kb20, kb30, kb31, kb32, kb34, kb40, kb64, kb100, kb127, kim1, ki0, ki1, ki2, ki3, ki4, ki5, ks128, ks400, ks999, ks1000, ks4010])
        refine ok_pf rfl hW hp0 (Nat.le_of_ble_eq_true rfl) rfl rfl ?_
        intro h221 k222 w223 s224 og225
        dsimp only [List.set, Nat.reduceAdd] at w223 ⊢
        have hW := k222.1
        have ho := fun p (hp : p ≠ p0) => (og225 p hp).trans (ho p hp)
        iterate 2 (refine ok_st rfl rfl ?_; simp only [okS_some, xst, xp0, xp1, xp2, xp3, xp4, xp5, xload, xstore, xget_0, xget_s, xs_0, xs_1n, xs_1i, xs_1r, xs_1u, xs_1l, xs_s, xt_0, xt_1n, xt_1i, xt_1r, xt_1u, xt_1l, xt_s, xisref, xq0, Value.category, xcat, List.map_nil, List.map_cons, List.sum_nil, List.sum_cons, List.length_cons, List.length_nil, List.getElem?_cons_zero, List.getElem?_cons_succ, xmap_s, if_true, and_self, Nat.reduceAdd, Nat.reduceLT, Nat.reduceLeDiff, Nat.reduceEqDiff, Nat.lt_add_one, Nat.zero_le, Nat.le_refl, Nat.le_zero_eq, Nat.zero_lt_succ, xldc, kbm10, kbm9, kbm8, kbm7, kbm6, kbm5, kbm4, kbm3, kbm2, kb6, kb7, kb8, kb9, kb10, kb11, kb16, kb19, kb20, kb30, kb31, kb32, kb34, kb40, kb64, kb100, kb127, kim1, ki0, ki1, ki2, ki3, ki4, ki5, ks128, ks400, ks999, ks1000, ks4010])
        refine ok_pf rfl hW w223 (Nat.le_of_ble_eq_true rfl) rfl rfl ?_
        intro h226 k227 w228 s229 og230
        dsimp only [List.set, Nat.reduceAdd] at w228 ⊢
        have hW := k227.1
        have ho := fun p (hp : p ≠ p0) => (og230 p hp).trans (ho p hp)
        refine ok_r0 rfl rfl rfl ?_
        try dsimp only
        exact ⟨rfl, Or.inr ⟨Int32.not_le.mpr cc, _, w228, by first | exact Or.inl ⟨cg, Int32.not_le.mp cs, rfl⟩ | exact Or.inr ⟨Or.inl cg, rfl⟩ | exact Or.inr ⟨Or.inr (Int32.not_lt.mpr cs), rfl⟩⟩, ho⟩
  · simp only [xcnd, decide_eq_true_eq, decide_eq_false_iff_not, Bool.not_eq_true', Bool.not_eq_false'] at cc
    iterate 2 (refine ok_st rfl rfl ?_; simp only [okS_some, xst, xp0, xp1, xp2, xp3, xp4, xp5, xload, xstore, xget_0, xget_s, xs_0, xs_1n, xs_1i, xs_1r, xs_1u, xs_1l, xs_s, xt_0, xt_1n, xt_1i, xt_1r, xt_1u, xt_1l, xt_s, xisref, xq0, Value.category, xcat, List.map_nil, List.map_cons, List.sum_nil, List.sum_cons, List.length_cons, List.length_nil, List.getElem?_cons_zero, List.getElem?_cons_succ, xmap_s, if_true, and_self, Nat.reduceAdd, Nat.reduceLT, Nat.reduceLeDiff, Nat.reduceEqDiff, Nat.lt_add_one, Nat.zero_le, Nat.le_refl, Nat.le_zero_eq, Nat.zero_lt_succ, xldc, kbm10, kbm9, kbm8, kbm7, kbm6, kbm5, kbm4, kbm3, kbm2, kb6, kb7, kb8, kb9, kb10, kb11, kb16, kb19, kb20, kb30, kb31, kb32, kb34, kb40, kb64, kb100, kb127, kim1, ki0, ki1, ki2, ki3, ki4, ki5, ks128, ks400, ks999, ks1000, ks4010])
    refine ok_st rfl rfl ?_
    simp only [okS_some, xst, xp0, xp1, xp2, xp3, xp4, xp5, xload, xstore, xget_0, xget_s, xs_0, xs_1n, xs_1i, xs_1r, xs_1u, xs_1l, xs_s, xt_0, xt_1n, xt_1i, xt_1r, xt_1u, xt_1l, xt_s, xisref, xq0, Value.category, xcat, List.map_nil, List.map_cons, List.sum_nil, List.sum_cons, List.length_cons, List.length_nil, List.getElem?_cons_zero, List.getElem?_cons_succ, xmap_s, if_true, and_self, Nat.reduceAdd, Nat.reduceLT, Nat.reduceLeDiff, Nat.reduceEqDiff, Nat.lt_add_one, Nat.zero_le, Nat.le_refl, Nat.le_zero_eq, Nat.zero_lt_succ, xldc, kbm10, kbm9, kbm8, kbm7, kbm6, kbm5, kbm4, kbm3, kbm2, kb6, kb7, kb8, kb9, kb10, kb11, kb16, kb19, kb20, kb30, kb31, kb32, kb34, kb40, kb64, kb100, kb127, kim1, ki0, ki1, ki2, ki3, ki4, ki5, ks128, ks400, ks999, ks1000, ks4010, hp0]
    iterate 2 (refine ok_st rfl rfl ?_; simp only [okS_some, xst, xp0, xp1, xp2, xp3, xp4, xp5, xload, xstore, xget_0, xget_s, xs_0, xs_1n, xs_1i, xs_1r, xs_1u, xs_1l, xs_s, xt_0, xt_1n, xt_1i, xt_1r, xt_1u, xt_1l, xt_s, xisref, xq0, Value.category, xcat, List.map_nil, List.map_cons, List.sum_nil, List.sum_cons, List.length_cons, List.length_nil, List.getElem?_cons_zero, List.getElem?_cons_succ, xmap_s, if_true, and_self, Nat.reduceAdd, Nat.reduceLT, Nat.reduceLeDiff, Nat.reduceEqDiff, Nat.lt_add_one, Nat.zero_le, Nat.le_refl, Nat.le_zero_eq, Nat.zero_lt_succ, xldc, kbm10, kbm9, kbm8, kbm7, kbm6, kbm5, kbm4, kbm3, kbm2, kb6, kb7, kb8, kb9, kb10, kb11, kb16, kb19, kb20, kb30, kb31, kb32, kb34, kb40, kb64, kb100, kb127, kim1, ki0, ki1, ki2, ki3, ki4, ki5, ks128, ks400, ks999, ks1000, ks4010])
    refine ok_st rfl rfl ?_
    simp only [okS_some, xst, xp0, xp1, xp2, xp3, xp4, xp5, xload, xstore, xget_0, xget_s, xs_0, xs_1n, xs_1i, xs_1r, xs_1u, xs_1l, xs_s, xt_0, xt_1n, xt_1i, xt_1r, xt_1u, xt_1l, xt_s, xisref, xq0, Value.category, xcat, List.map_nil, List.map_cons, List.sum_nil, List.sum_cons, List.length_cons, List.length_nil, List.getElem?_cons_zero, List.getElem?_cons_succ, xmap_s, if_true, and_self, Nat.reduceAdd, Nat.reduceLT, Nat.reduceLeDiff, Nat.reduceEqDiff, Nat.lt_add_one, Nat.zero_le, Nat.le_refl, Nat.le_zero_eq, Nat.zero_lt_succ, xldc, kbm10, kbm9, kbm8, kbm7, kbm6, kbm5, kbm4, kbm3, kbm2, kb6, kb7, kb8, kb9, kb10, kb11, kb16, kb19, kb20, kb30, kb31, kb32, kb34, kb40, kb64, kb100, kb127, kim1, ki0, ki1, ki2, ki3, ki4, ki5, ks128, ks400, ks999, ks1000, ks4010, hp0]
    iterate 4 (refine ok_st rfl rfl ?_; simp only [okS_some, xst, xp0, xp1, xp2, xp3, xp4, xp5, xload, xstore, xget_0, xget_s, xs_0, xs_1n, xs_1i, xs_1r, xs_1u, xs_1l, xs_s, xt_0, xt_1n, xt_1i, xt_1r, xt_1u, xt_1l, xt_s, xisref, xq0, Value.category, xcat, List.map_nil, List.map_cons, List.sum_nil, List.sum_cons, List.length_cons, List.length_nil, List.getElem?_cons_zero, List.getElem?_cons_succ, xmap_s, if_true, and_self, Nat.reduceAdd, Nat.reduceLT, Nat.reduceLeDiff, Nat.reduceEqDiff, Nat.lt_add_one, Nat.zero_le, Nat.le_refl, Nat.le_zero_eq, Nat.zero_lt_succ, xldc, kbm10, kbm9, kbm8, kbm7, kbm6, kbm5, kbm4, kbm3, kbm2, kb6, kb7, kb8, kb9, kb10, kb11, kb16, kb19, kb20, kb30, kb31, kb32, kb34, kb40, kb64, kb100, kb127, kim1, ki0, ki1, ki2, ki3, ki4, ki5, ks128, ks400, ks999, ks1000, ks4010])
    refine ok_pf rfl hW hp0 (Nat.le_of_ble_eq_true rfl) rfl rfl ?_
    intro h231 k232 w233 s234 og235
    dsimp only [List.set, Nat.reduceAdd] at w233 ⊢
    have hW := k232.1
    have ho := fun p (hp : p ≠ p0) => (og235 p hp).trans (ho p hp)
    refine ok_r0 rfl rfl rfl ?_
    try dsimp only
    exact ⟨rfl, Or.inl ⟨Int32.not_lt.mp cc, w233⟩, ho⟩
set_option maxRecDepth 20000 in
set_option maxHeartbeats 4000000 in
/-- ToldHouse.senderAt(I)LToldHouse$Sender; -/
theorem ix76 {X : Nat × (Nat → Int32)} {h : xH} (hW : xWF h) {td vc dc : Int32} (h0 : h.2.2 0 = some (.inr (8, [.ref 1, .ref 3, .ref 4, .ref 6, .ref 10, .ref 11, .ref 12, .int td, .int vc, .int dc]))) {gs : Nat → Option Nat} (f1 : h.2.2 12 = some (.inl (6, 4, .inr (.inr gs)))) (f2 : ∀ s, s < 4 → gs s = some (53 + s)) {x1 : Int32} : okM X 76 [.ref 0, .int x1] h (fun v h' => h = h' ∧ ((∃ s, s < 4 ∧ x1 = nI s ∧ v = some (.ref (53 + s))) ∨ ((¬ ∃ s, s < 4 ∧ x1 = nI s) ∧ v = some .null))) := by
  show ok X cd76 (0, [some (.ref 0), some (.int x1)], []) h _
  iterate 3 (refine ok_st rfl rfl ?_; simp only [okS_some, xst, xp0, xp1, xp2, xp3, xp4, xp5, xload, xstore, xget_0, xget_s, xs_0, xs_1n, xs_1i, xs_1r, xs_1u, xs_1l, xs_s, xt_0, xt_1n, xt_1i, xt_1r, xt_1u, xt_1l, xt_s, xisref, xq0, Value.category, xcat, List.map_nil, List.map_cons, List.sum_nil, List.sum_cons, List.length_cons, List.length_nil, List.getElem?_cons_zero, List.getElem?_cons_succ, xmap_s, if_true, and_self, Nat.reduceAdd, Nat.reduceLT, Nat.reduceLeDiff, Nat.reduceEqDiff, Nat.lt_add_one, Nat.zero_le, Nat.le_refl, Nat.le_zero_eq, Nat.zero_lt_succ, xldc, kbm10, kbm9, kbm8, kbm7, kbm6, kbm5, kbm4, kbm3, kbm2, kb6, kb7, kb8, kb9, kb10, kb11, kb16, kb19, kb20, kb30, kb31, kb32, kb34, kb40, kb64, kb100, kb127, kim1, ki0, ki1, ki2, ki3, ki4, ki5, ks128, ks400, ks999, ks1000, ks4010])
  refine ok_cm (vs := [_, _, _]) rfl rfl rfl rfl (Nat.le_of_ble_eq_true rfl) (Nat.le_of_ble_eq_true rfl) rfl (by decide) hW (ix68 hW) ?_
  rintro _ _ ⟨rfl, ⟨rfl, cw⟩ | ⟨rfl, cw⟩⟩ k201 al202
  · dsimp only [Option.toList, List.cons_append, List.nil_append, Nat.reduceAdd]
    refine ok_st rfl rfl ?_
    simp only [okS_some, xst, xp0, xp1, xp2, xp3, xp4, xp5, xload, xstore, xget_0, xget_s, xs_0, xs_1n, xs_1i, xs_1r, xs_1u, xs_1l, xs_s, xt_0, xt_1n, xt_1i, xt_1r, xt_1u, xt_1l, xt_s, xisref, xq0, Value.category, xcat, List.map_nil, List.map_cons, List.sum_nil, List.sum_cons, List.length_cons, List.length_nil, List.getElem?_cons_zero, List.getElem?_cons_succ, xmap_s, if_true, and_self, Nat.reduceAdd, Nat.reduceLT, Nat.reduceLeDiff, Nat.reduceEqDiff, Nat.lt_add_one, Nat.zero_le, Nat.le_refl, Nat.le_zero_eq, Nat.zero_lt_succ, xldc, kbm10, kbm9, kbm8, kbm7, kbm6, kbm5, kbm4, kbm3, kbm2, kb6, kb7, kb8, kb9, kb10, kb11, kb16, kb19, kb20, kb30, kb31, kb32, kb34, kb40, kb64, kb100, kb127, kim1, ki0, ki1, ki2, ki3, ki4, ki5, ks128, ks400, ks999, ks1000, ks4010]
    refine ok_bf rfl ?_
    refine ok_st rfl rfl ?_
    simp only [okS_some, xst, xp0, xp1, xp2, xp3, xp4, xp5, xload, xstore, xget_0, xget_s, xs_0, xs_1n, xs_1i, xs_1r, xs_1u, xs_1l, xs_s, xt_0, xt_1n, xt_1i, xt_1r, xt_1u, xt_1l, xt_s, xisref, xq0, Value.category, xcat, List.map_nil, List.map_cons, List.sum_nil, List.sum_cons, List.length_cons, List.length_nil, List.getElem?_cons_zero, List.getElem?_cons_succ, xmap_s, if_true, and_self, Nat.reduceAdd, Nat.reduceLT, Nat.reduceLeDiff, Nat.reduceEqDiff, Nat.lt_add_one, Nat.zero_le, Nat.le_refl, Nat.le_zero_eq, Nat.zero_lt_succ, xldc, kbm10, kbm9, kbm8, kbm7, kbm6, kbm5, kbm4, kbm3, kbm2, kb6, kb7, kb8, kb9, kb10, kb11, kb16, kb19, kb20, kb30, kb31, kb32, kb34, kb40, kb64, kb100, kb127, kim1, ki0, ki1, ki2, ki3, ki4, ki5, ks128, ks400, ks999, ks1000, ks4010]
    refine ok_st rfl rfl ?_
    simp only [okS_some, xst, xp0, xp1, xp2, xp3, xp4, xp5, xload, xstore, xget_0, xget_s, xs_0, xs_1n, xs_1i, xs_1r, xs_1u, xs_1l, xs_s, xt_0, xt_1n, xt_1i, xt_1r, xt_1u, xt_1l, xt_s, xisref, xq0, Value.category, xcat, List.map_nil, List.map_cons, List.sum_nil, List.sum_cons, List.length_cons, List.length_nil, List.getElem?_cons_zero, List.getElem?_cons_succ, xmap_s, if_true, and_self, Nat.reduceAdd, Nat.reduceLT, Nat.reduceLeDiff, Nat.reduceEqDiff, Nat.lt_add_one, Nat.zero_le, Nat.le_refl, Nat.le_zero_eq, Nat.zero_lt_succ, xldc, kbm10, kbm9, kbm8, kbm7, kbm6, kbm5, kbm4, kbm3, kbm2, kb6, kb7, kb8, kb9, kb10, kb11, kb16, kb19, kb20, kb30, kb31, kb32, kb34, kb40, kb64, kb100, kb127, kim1, ki0, ki1, ki2, ki3, ki4, ki5, ks128, ks400, ks999, ks1000, ks4010, h0]
    refine ok_st rfl rfl ?_
    simp only [okS_some, xst, xp0, xp1, xp2, xp3, xp4, xp5, xload, xstore, xget_0, xget_s, xs_0, xs_1n, xs_1i, xs_1r, xs_1u, xs_1l, xs_s, xt_0, xt_1n, xt_1i, xt_1r, xt_1u, xt_1l, xt_s, xisref, xq0, Value.category, xcat, List.map_nil, List.map_cons, List.sum_nil, List.sum_cons, List.length_cons, List.length_nil, List.getElem?_cons_zero, List.getElem?_cons_succ, xmap_s, if_true, and_self, Nat.reduceAdd, Nat.reduceLT, Nat.reduceLeDiff, Nat.reduceEqDiff, Nat.lt_add_one, Nat.zero_le, Nat.le_refl, Nat.le_zero_eq, Nat.zero_lt_succ, xldc, kbm10, kbm9, kbm8, kbm7, kbm6, kbm5, kbm4, kbm3, kbm2, kb6, kb7, kb8, kb9, kb10, kb11, kb16, kb19, kb20, kb30, kb31, kb32, kb34, kb40, kb64, kb100, kb127, kim1, ki0, ki1, ki2, ki3, ki4, ki5, ks128, ks400, ks999, ks1000, ks4010]
    refine ok_ax rfl f1 (by decide) (by obtain ⟨s, hs, es⟩ := in19 (m := 3) (by decide) cw; rw [es]; exact nIn hs (by decide)) ?_
    obtain ⟨s, hs, es⟩ := in19 (m := 3) (by decide) cw
    subst es
    rw [nI_clamp (by omega), f2 s hs]
    dsimp only [va_rf, Nat.reduceAdd]
    refine ok_st rfl rfl ?_
    simp only [okS_some, xst, xp0, xp1, xp2, xp3, xp4, xp5, xload, xstore, xget_0, xget_s, xs_0, xs_1n, xs_1i, xs_1r, xs_1u, xs_1l, xs_s, xt_0, xt_1n, xt_1i, xt_1r, xt_1u, xt_1l, xt_s, xisref, xq0, Value.category, xcat, List.map_nil, List.map_cons, List.sum_nil, List.sum_cons, List.length_cons, List.length_nil, List.getElem?_cons_zero, List.getElem?_cons_succ, xmap_s, if_true, and_self, Nat.reduceAdd, Nat.reduceLT, Nat.reduceLeDiff, Nat.reduceEqDiff, Nat.lt_add_one, Nat.zero_le, Nat.le_refl, Nat.le_zero_eq, Nat.zero_lt_succ, xldc, kbm10, kbm9, kbm8, kbm7, kbm6, kbm5, kbm4, kbm3, kbm2, kb6, kb7, kb8, kb9, kb10, kb11, kb16, kb19, kb20, kb30, kb31, kb32, kb34, kb40, kb64, kb100, kb127, kim1, ki0, ki1, ki2, ki3, ki4, ki5, ks128, ks400, ks999, ks1000, ks4010]
    refine ok_r1 rfl rfl rfl rfl ?_
    try dsimp only
    exact ⟨rfl, Or.inl ⟨s, hs, rfl, rfl⟩⟩
  · dsimp only [Option.toList, List.cons_append, List.nil_append, Nat.reduceAdd]
    refine ok_st rfl rfl ?_
    simp only [okS_some, xst, xp0, xp1, xp2, xp3, xp4, xp5, xload, xstore, xget_0, xget_s, xs_0, xs_1n, xs_1i, xs_1r, xs_1u, xs_1l, xs_s, xt_0, xt_1n, xt_1i, xt_1r, xt_1u, xt_1l, xt_s, xisref, xq0, Value.category, xcat, List.map_nil, List.map_cons, List.sum_nil, List.sum_cons, List.length_cons, List.length_nil, List.getElem?_cons_zero, List.getElem?_cons_succ, xmap_s, if_true, and_self, Nat.reduceAdd, Nat.reduceLT, Nat.reduceLeDiff, Nat.reduceEqDiff, Nat.lt_add_one, Nat.zero_le, Nat.le_refl, Nat.le_zero_eq, Nat.zero_lt_succ, xldc, kbm10, kbm9, kbm8, kbm7, kbm6, kbm5, kbm4, kbm3, kbm2, kb6, kb7, kb8, kb9, kb10, kb11, kb16, kb19, kb20, kb30, kb31, kb32, kb34, kb40, kb64, kb100, kb127, kim1, ki0, ki1, ki2, ki3, ki4, ki5, ks128, ks400, ks999, ks1000, ks4010]
    refine ok_bt rfl ?_
    refine ok_st rfl rfl ?_
    simp only [okS_some, xst, xp0, xp1, xp2, xp3, xp4, xp5, xload, xstore, xget_0, xget_s, xs_0, xs_1n, xs_1i, xs_1r, xs_1u, xs_1l, xs_s, xt_0, xt_1n, xt_1i, xt_1r, xt_1u, xt_1l, xt_s, xisref, xq0, Value.category, xcat, List.map_nil, List.map_cons, List.sum_nil, List.sum_cons, List.length_cons, List.length_nil, List.getElem?_cons_zero, List.getElem?_cons_succ, xmap_s, if_true, and_self, Nat.reduceAdd, Nat.reduceLT, Nat.reduceLeDiff, Nat.reduceEqDiff, Nat.lt_add_one, Nat.zero_le, Nat.le_refl, Nat.le_zero_eq, Nat.zero_lt_succ, xldc, kbm10, kbm9, kbm8, kbm7, kbm6, kbm5, kbm4, kbm3, kbm2, kb6, kb7, kb8, kb9, kb10, kb11, kb16, kb19, kb20, kb30, kb31, kb32, kb34, kb40, kb64, kb100, kb127, kim1, ki0, ki1, ki2, ki3, ki4, ki5, ks128, ks400, ks999, ks1000, ks4010]
    refine ok_r1 rfl rfl rfl rfl ?_
    try dsimp only
    exact ⟨rfl, Or.inr ⟨no19 (m := 3) (by decide) cw, rfl⟩⟩
