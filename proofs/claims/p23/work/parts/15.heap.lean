/-! branches, switches, constants; fields and arrays -/
theorem xck_fl {o x a b0 : Nat} (h : xfl.any (fun q => Nat.beq q.1 o && Nat.beq q.2.1 x && Nat.beq q.2.2.1 a && Nat.beq q.2.2.2.1 b0) = true) : Cond.fieldLink (xon o) x (xon a) (xcT a b0).2.1 (xcT a b0).2.2.1 ∈ xG ∧ a < 10 := by
  obtain ⟨q, hq, h⟩ := List.any_eq_true.mp h
  have h2 := List.all_eq_true.mp xfl_ok q hq
  simp only [Bool.and_eq_true, Nat.beq_eq] at h h2
  obtain ⟨⟨⟨rfl, rfl⟩, rfl⟩, rfl⟩ := h
  exact ⟨xin_mem h2.1, Nat.lt_of_succ_le (Nat.le_of_ble_eq_true h2.2)⟩
theorem xck_cl {o x a : Nat} (h : xcll.any (fun q => Nat.beq q.1 o && Nat.beq q.2.1 x && Nat.beq q.2.2.1 a) = true) : Cond.classLink (xon o) x (xon a) ∈ xG ∧ a < 10 := by
  obtain ⟨q, hq, h⟩ := List.any_eq_true.mp h
  have h2 := List.all_eq_true.mp xcll_ok q hq
  simp only [Bool.and_eq_true, Nat.beq_eq] at h h2
  obtain ⟨⟨rfl, rfl⟩, rfl⟩ := h
  exact ⟨xin_mem h2.1, Nat.lt_of_succ_le (Nat.le_of_ble_eq_true h2.2)⟩
set_option maxRecDepth 100000 in
theorem xcw_has : (List.range 10).all (fun a => xcw.any (fun q => Nat.beq q.1 a)) = true := by decide +kernel
theorem xcw_use {a : Nat} (ha : a < 10) : Cond.instantiable (xon a) (xfn a) ∈ xG ∧ Cond.initialized (xon a) ∈ xG ∧ ∀ w ∈ u_ws (xon a) (xcT a) (xfn a), w ∈ xG := by
  obtain ⟨q, hq, h⟩ := List.any_eq_true.mp (List.all_eq_true.mp xcw_has a (List.mem_range.mpr ha))
  have h2 := List.all_eq_true.mp xcw_ok q hq
  simp only [Bool.and_eq_true, Nat.beq_eq] at h h2
  subst h
  exact ⟨xin_mem h2.1.1, xin_mem h2.1.2, fun w hw => of_decide_eq_true (List.all_eq_true.mp h2.2 w hw)⟩
theorem xvw {a : Nat} (ha : a < 10) : vwCl[a]? = some (xon a, xcT a, xfn a) := by
  match a, ha with
  | 0, _ => rfl
  | 1, _ => rfl
  | 2, _ => rfl
  | 3, _ => rfl
  | 4, _ => rfl
  | 5, _ => rfl
  | 6, _ => rfl
  | 7, _ => rfl
  | 8, _ => rfl
  | 9, _ => rfl
theorem xty_ok {a : Nat} (ha : a < 10) : ∀ k, k < xfn a → parseFieldDescriptor (xcT a k).2.2.1 = some (xfty a k) := by
  match a, ha with
  | 0, _ => exact tyX0_ok
  | 1, _ => exact tyX1_ok
  | 2, _ => exact tyX2_ok
  | 3, _ => exact tyX3_ok
  | 4, _ => exact tyX4_ok
  | 5, _ => exact tyX5_ok
  | 6, _ => exact tyX6_ok
  | 7, _ => exact tyX7_ok
  | 8, _ => exact tyX8_ok
  | 9, _ => exact tyX9_ok
theorem xnm_ok {a : Nat} (ha : a < 10) : ∀ i, i < xfn a → ∀ j, j < xfn a → i ≠ j → (xcT a i).2.1 ≠ (xcT a j).2.1 := by
  match a, ha with
  | 0, _ => exact nmX0
  | 1, _ => exact nmX1
  | 2, _ => exact nmX2
  | 3, _ => exact nmX3
  | 4, _ => exact nmX4
  | 5, _ => exact nmX5
  | 6, _ => exact nmX6
  | 7, _ => exact nmX7
  | 8, _ => exact nmX8
  | 9, _ => exact nmX9
set_option maxRecDepth 100000 in
theorem xcT_own0 : (List.range 10).all (fun a => (List.range (xfn a)).all (fun k => decide ((xcT a k).1 = xon a))) = true := by decide +kernel
theorem xcT_own {a k : Nat} (ha : a < 10) (hk : k < xfn a) : (xcT a k).1 = xon a := of_decide_eq_true (List.all_eq_true.mp (List.all_eq_true.mp xcT_own0 a (List.mem_range.mpr ha)) k (List.mem_range.mpr hk))
theorem xtys_at {dA : Nat → ClassId} {t : Nat} (h : 3 ≤ t ∧ t < 9) : (xtys dA)[t]? = some (dA t, .object (xon (xoc t))) ∧ xoc t < 10 := by
  match t, h with
  | 3, _ => exact ⟨rfl, by decide⟩
  | 4, _ => exact ⟨rfl, by decide⟩
  | 5, _ => exact ⟨rfl, by decide⟩
  | 6, _ => exact ⟨rfl, by decide⟩
  | 7, _ => exact ⟨rfl, by decide⟩
  | 8, _ => exact ⟨rfl, by decide⟩
theorem xIn_in {i : Int32} {n : Nat} (h : xIn i n) : vp_in i n := vp_in_iff.mpr h
theorem xfits_narrow {ty : FieldType} {v : Value} (hty : ty = .int ∨ ty = .long ∨ ty = .boolean ∨ (∃ C, ty = .object C) ∨ ∃ t, ty = .array t) (h : fits ty v = true) : narrow ty v = v := by
  rcases hty with rfl | rfl | rfl | ⟨C, rfl⟩ | ⟨t, rfl⟩
  · cases v <;> rfl
  · cases v <;> rfl
  · cases v with
    | int x =>
      have h : (x == 0 || x == 1) = true := h
      simp only [Bool.or_eq_true, beq_iff_eq] at h
      rcases h with rfl | rfl <;> decide
    | _ => rfl
  · cases v <;> rfl
  · cases v <;> rfl
theorem xfits_v {b scr : Nat} {ty : FieldType} {v : Value} (h : fits ty v = true) : fits ty (xv b scr v) = true := by
  cases v <;> first | exact h | (cases ty <;> first | rfl | cases h)
def xtok (ty : FieldType) : Bool := match ty with
  | .int => true
  | .long => true
  | .boolean => true
  | .object _ => true
  | .array _ => true
  | _ => false
theorem xtok_use {ty : FieldType} (h : xtok ty = true) : ty = .int ∨ ty = .long ∨ ty = .boolean ∨ (∃ C, ty = .object C) ∨ ∃ t, ty = .array t := by
  cases ty <;> first | (simp [xtok] at h; done) | simp
set_option maxRecDepth 100000 in
theorem xtok_all0 : (List.range 10).all (fun a => (List.range (xfn a)).all (fun k => xtok (xfty a k))) = true := by decide +kernel
theorem xtok_all {a k : Nat} (ha : a < 10) (hk : k < xfn a) : xtok (xfty a k) = true := List.all_eq_true.mp (List.all_eq_true.mp xtok_all0 a (List.mem_range.mpr ha)) k (List.mem_range.mpr hk)
section XW
variable {p : Program} {l : Launch} {e : Env} {R : Room} {s : State} {m : MethodId} {args : Array Value} {below : List Frame} {meth : Method} {c : Code} {H : Heap} {locs : List Loc} {cells slots : Nat} {Q : State → Prop} {cc : ByteArray} {b scr nL o j a0 b0 len : Nat} {ls : Array Slot} {i : Jvm.ClassFile.Instr} {D : va_G} {dA : Nat → ClassId} {h : xH} {H0 : Heap}
set_option maxHeartbeats 4000000 in
theorem x_p5 (hx : p.tables.exec = Jvm.exec) (hb : c.code = cc) {f g : xF} (hd : decode cc f.1 = .ok (i, len)) (hc : xck o j f.1 (15, i, len, a0, b0) = true) (hs : xp5 i a0 f = some g) (hl : xlv b scr ls nL f.2.1)
    (kk : xlv b scr ls nL g.2.1 → W p l e R s m args below meth c H locs cells slots Q (F0 m g.1 ls (g.2.2.map (xv b scr)))) : W p l e R s m args below meth c H locs cells slots Q (F0 m f.1 ls (f.2.2.map (xv b scr))) := by
  obtain ⟨pc, L, st⟩ := f
  dsimp only at hd hc hl ⊢
  unfold xp5 at hs
  dsimp only at hs
  split at hs
  · simp only [xck, Bool.and_eq_true, decide_eq_true_eq, Nat.beq_eq] at hc
    obtain ⟨ht, rfl⟩ := hc
    cases hs; exact lv_goto hx hb hd ht (kk hl)
  · rename_i cnd x
    simp only [xck, Bool.and_eq_true, decide_eq_true_eq, Nat.beq_eq] at hc
    obtain ⟨ht, rfl⟩ := hc
    split at hs
    · cases hs
      have k2 := kk hl
      cases cnd
      · exact lv_if_eq hx hb hd ht (fun h => by simpa [xcnd, h] using k2) (fun h => by simpa [xcnd, h] using k2)
      · exact lv_if_ne hx hb hd ht (fun h => by simpa [xcnd, h] using k2) (fun h => by simpa [xcnd, h] using k2)
      · exact lv_if_lt hx hb hd ht (fun h => by simpa only [xcnd, decide_eq_true h, cond_true] using k2) (fun h => by simpa only [xcnd, decide_eq_false h, cond_false] using k2)
      · exact lv_if_ge hx hb hd ht (fun h => by simpa only [xcnd, decide_eq_true h, cond_true] using k2) (fun h => by simpa only [xcnd, decide_eq_false h, cond_false] using k2)
      · exact lv_if_gt hx hb hd ht (fun h => by simpa only [xcnd, decide_eq_true h, cond_true] using k2) (fun h => by simpa only [xcnd, decide_eq_false h, cond_false] using k2)
      · exact lv_if_le hx hb hd ht (fun h => by simpa only [xcnd, decide_eq_true h, cond_true] using k2) (fun h => by simpa only [xcnd, decide_eq_false h, cond_false] using k2)
    · cases hs
  · rename_i cnd x
    simp only [xck, Bool.and_eq_true, decide_eq_true_eq, Nat.beq_eq] at hc
    obtain ⟨ht, rfl⟩ := hc
    split at hs
    · cases hs
      have k2 := kk hl
      cases cnd
      · exact lv_icmp_eq hx hb hd ht (fun h => by simpa only [xcnd, decide_eq_true h, cond_true] using k2) (fun h => by simpa only [xcnd, decide_eq_false h, cond_false] using k2)
      · exact lv_icmp_ne hx hb hd ht (fun h => by simpa only [xcnd, decide_eq_false h, Bool.not_false, cond_true] using k2) (fun h => by simpa only [xcnd, decide_eq_true h, Bool.not_true, cond_false] using k2)
      · exact lv_icmp_lt hx hb hd ht (fun h => by simpa only [xcnd, decide_eq_true h, cond_true] using k2) (fun h => by simpa only [xcnd, decide_eq_false h, cond_false] using k2)
      · exact lv_icmp_ge hx hb hd ht (fun h => by simpa only [xcnd, decide_eq_true h, cond_true] using k2) (fun h => by simpa only [xcnd, decide_eq_false h, cond_false] using k2)
      · exact lv_icmp_gt hx hb hd ht (fun h => by simpa only [xcnd, decide_eq_true h, cond_true] using k2) (fun h => by simpa only [xcnd, decide_eq_false h, cond_false] using k2)
      · exact lv_icmp_le hx hb hd ht (fun h => by simpa only [xcnd, decide_eq_true h, cond_true] using k2) (fun h => by simpa only [xcnd, decide_eq_false h, cond_false] using k2)
    · cases hs
  · simp only [xck, Bool.and_eq_true, decide_eq_true_eq, Nat.beq_eq] at hc
    obtain ⟨ht, rfl⟩ := hc
    split at hs
    · cases hs; exact lv_ifnullN hx hb hd ht (kk hl)
    · cases hs; exact lv_ifnull hx hb hd (kk hl)
    · cases hs
  · simp only [xck, Bool.and_eq_true, decide_eq_true_eq, Nat.beq_eq] at hc
    obtain ⟨ht, rfl⟩ := hc
    split at hs
    · cases hs; exact lv_ifnonnullN hx hb hd (kk hl)
    · cases hs; exact lv_ifnonnull hx hb hd ht (kk hl)
    · cases hs
  · cases hs
theorem xlw_off (pc : Nat) (d : Int) (x : Int32) : ∀ ps : List (Int × Int), xlw pc d x ps = ((pc : Int) + Op.lookupswitch.offset ps d x.toInt).toNat
  | [] => rfl
  | (k, o) :: t => by
    unfold xlw
    rw [Op.lookupswitch.offset_cons, xlw_off pc d x t]
    by_cases h : x.toInt = k
    · rw [if_pos h, if_pos h.symm]
    · rw [if_neg h, if_neg (fun q => h q.symm)]
theorem xlw_pos {pc : Nat} {d : Int} {x : Int32} (hd : 0 ≤ (pc : Int) + d) : ∀ ps : List (Int × Int), (∀ q ∈ ps, 0 ≤ (pc : Int) + q.2) → 0 ≤ (pc : Int) + Op.lookupswitch.offset ps d x.toInt
  | [], _ => hd
  | (k, o) :: t, h => by
    rw [Op.lookupswitch.offset_cons]
    split
    · exact h (k, o) List.mem_cons_self
    · exact xlw_pos hd t (fun q hq => h q (List.mem_cons_of_mem _ hq))
set_option maxHeartbeats 4000000 in
theorem x_p6 (hx : p.tables.exec = Jvm.exec) (hb : c.code = cc) {f g : xF} (hd : decode cc f.1 = .ok (i, len)) (hc : xck o j f.1 (16, i, len, a0, b0) = true) (hs : xp6 i f = some g) (hl : xlv b scr ls nL f.2.1)
    (kk : xlv b scr ls nL g.2.1 → W p l e R s m args below meth c H locs cells slots Q (F0 m g.1 ls (g.2.2.map (xv b scr)))) : W p l e R s m args below meth c H locs cells slots Q (F0 m f.1 ls (f.2.2.map (xv b scr))) := by
  obtain ⟨pc, L, st⟩ := f
  dsimp only at hd hc hl ⊢
  unfold xp6 at hs
  dsimp only at hs
  split at hs
  · rename_i x r
    split at hs
    · rename_i d lo hi offs
      cases hs
      have k2 := kk hl
      simp only [xck, Bool.and_eq_true, decide_eq_true_eq] at hc
      obtain ⟨⟨h1, h2⟩, h3⟩ := hc
      by_cases hlo : x.toInt < lo
      · refine lv_tableOut hx hb hd (Or.inl hlo) (tgt := ((pc : Int) + d).toNat) (by omega) ?_
        simpa [xsw, hlo] using k2
      · cases ho : offs.toList[(x.toInt - lo).toNat]? with
        | none =>
          have hge : offs.toList.length ≤ (x.toInt - lo).toNat := by simpa using ho
          refine lv_tableOut hx hb hd (Or.inr (by omega)) (tgt := ((pc : Int) + d).toNat) (by omega) ?_
          simp only [xsw, if_neg hlo, ho] at k2
          exact k2
        | some w =>
          have hlt : (x.toInt - lo).toNat < offs.toList.length := (List.getElem?_eq_some_iff.mp ho).1
          have hw : 0 ≤ (pc : Int) + w := of_decide_eq_true (List.all_eq_true.mp h2 w (List.mem_of_getElem? ho))
          refine lv_tableIn hx hb hd hlo (by omega) (off := w) (by rw [← Array.getElem?_toList]; exact ho) (tgt := ((pc : Int) + w).toNat) (by omega) ?_
          simp only [xsw, if_neg hlo, ho] at k2
          exact k2
    · rename_i d ps
      cases hs
      have k2 := kk hl
      simp only [xck, Bool.and_eq_true] at hc
      obtain ⟨⟨h1, h2⟩, h3⟩ := hc
      have h1 := of_decide_eq_true h1
      have hp := xlw_pos (x := x) h1 ps.toList (fun q hq => of_decide_eq_true (List.all_eq_true.mp h2 q hq))
      refine lv_lookup hx hb hd h3 rfl (tgt := xlw pc d x ps.toList) (by rw [xlw_off]; omega) k2
    · cases hs
  · cases hs
end XW
