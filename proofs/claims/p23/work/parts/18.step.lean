/-! one step of any kind -/
set_option maxRecDepth 100000 in
theorem xao0 : (List.range 9).all (fun t => Nat.blt t 3 || decide (Cond.arrayOver (.object (xon (xoc t))) ∈ xNW)) = true := by decide +kernel
theorem xao {t : Nat} (h : 3 ≤ t ∧ t < 9) : Cond.arrayOver (.object (xon (xoc t))) ∈ xNW := by
  have h1 := List.all_eq_true.mp xao0 t (List.mem_range.mpr h.2)
  simp only [Bool.or_eq_true, decide_eq_true_eq] at h1
  rcases h1 with h1 | h1
  · exact absurd (Nat.le_of_ble_eq_true h1) (by omega)
  · exact h1
theorem xtys_any {dA : Nat → ClassId} {t : Nat} (h : t < 9) : ∃ ty, (xtys dA)[t]? = some (dA t, ty) := by
  match t, h with
  | 0, _ => exact ⟨_, rfl⟩
  | 1, _ => exact ⟨_, rfl⟩
  | 2, _ => exact ⟨_, rfl⟩
  | 3, _ => exact ⟨_, rfl⟩
  | 4, _ => exact ⟨_, rfl⟩
  | 5, _ => exact ⟨_, rfl⟩
  | 6, _ => exact ⟨_, rfl⟩
  | 7, _ => exact ⟨_, rfl⟩
  | 8, _ => exact ⟨_, rfl⟩
/-- the lengths of calls and returns -/
def xlnk (k len : Nat) : Bool := match k with
  | 0 => Nat.beq len 1
  | 1 => Nat.beq len 1
  | 2 => Nat.beq len 3
  | 3 => Nat.beq len 3
  | 4 => Nat.beq len 3
  | 5 => Nat.beq len 3
  | 6 => Nat.beq len 3
  | 7 => Nat.beq len 3
  | _ => true
set_option maxRecDepth 100000 in
theorem xln_all0 : (List.range 132).all (fun j => (xall (xTab j).1).all (fun q => xlnk q.2.1 q.2.2.2.1)) = true := by decide +kernel
theorem xck_mo {o x : Nat} {l : List (Nat × Nat × Nat)} {y : MethodName} (hok : l.all (fun q => xin q.2.2 (.methodLink (xon q.1) q.2.1 y)) = true) (h : l.any (fun q => Nat.beq q.1 o && Nat.beq q.2.1 x) = true) : Cond.methodLink (xon o) x y ∈ xG := by
  obtain ⟨q, hq, h⟩ := List.any_eq_true.mp h
  have h2 := List.all_eq_true.mp hok q hq
  simp only [Bool.and_eq_true, Nat.beq_eq] at h
  obtain ⟨rfl, rfl⟩ := h
  exact xin_mem h2
theorem xck_ld {o x a b0 : Nat} (h : xld.any (fun q => Nat.beq q.1 o && Nat.beq q.2.1 x && Nat.beq q.2.2.1 a && Nat.beq q.2.2.2.1 b0) = true) : Cond.constant (xon o) x (xldc a b0) ∈ xG := by
  obtain ⟨q, hq, h⟩ := List.any_eq_true.mp h
  have h2 := List.all_eq_true.mp xld_ok q hq
  simp only [Bool.and_eq_true, Nat.beq_eq] at h
  obtain ⟨⟨⟨rfl, rfl⟩, rfl⟩, rfl⟩ := h
  exact xin_mem h2
theorem xck_ld2 {o x a : Nat} (h : xld2.any (fun q => Nat.beq q.1 o && Nat.beq q.2.1 x && Nat.beq q.2.2.1 a) = true) : Cond.constantLong (xon o) x (Int64.ofNat a) ∈ xG := by
  obtain ⟨q, hq, h⟩ := List.any_eq_true.mp h
  have h2 := List.all_eq_true.mp xld2_ok q hq
  simp only [Bool.and_eq_true, Nat.beq_eq] at h
  obtain ⟨⟨rfl, rfl⟩, rfl⟩ := h
  exact xin_mem h2
theorem xmap_some {f : xF} {h : xH} {y : Option xF} {g : xF × xH} (hs : y.map (fun g => (g, h)) = some g) : y = some g.1 ∧ g.2 = h := by
  cases y with
  | none => cases hs
  | some z => cases hs; exact ⟨rfl, rfl⟩
theorem xcat_map (b scr : Nat) (r : List Value) : ((r.map (xv b scr)).map fun v => v.category).sum = xcat r := by
  unfold xcat
  rw [List.map_map]
  congr 1
  exact List.map_congr_left (fun v _ => xv_cat b scr v)
section XW
variable {p : Program} {l : Launch} {e : Env} {R : Room} {s : State} {m : MethodId} {args : Array Value} {below : List Frame} {meth : Method} {c : Code} {H : Heap} {locs : List Loc} {cells slots : Nat} {Q : State → Prop} {cc : ByteArray} {b scr nL o j a0 b0 len : Nat} {ls : Array Slot} {i : Jvm.ClassFile.Instr} {D : va_G} {dA : Nat → ClassId} {h : xH} {X : Nat × (Nat → Int32)}
set_option maxHeartbeats 4000000 in
theorem x_q0 (hC : xCt p s m args meth c cc D dA b o j R) {f : xF} {g : xF × xH} (hd : decode cc f.1 = .ok (i, len)) (hc : xck o j f.1 (20, i, len, a0, b0) = true) (hs : xq0 i a0 b0 f h = some g) (hr : xrep D dA b scr h H) (hS : va_S (fun q => b ≤ q) s.heap H locs) (hcl : cells + (g.2.1 - h.1) ≤ R.cells) (hsl : slots + (g.2.2.1 - h.2.1) ≤ R.slots)
    (kk : ∀ (H1 : Heap) (locs1 : List Loc), xrep D dA b scr g.2 H1 → va_S (fun q => b ≤ q) s.heap H1 locs1 → g.1.2.1 = f.2.1 → W p l e R s m args below meth c H1 locs1 (cells + (g.2.1 - h.1)) (slots + (g.2.2.1 - h.2.1)) Q (F0 m g.1.1 ls (g.1.2.2.map (xv b scr)))) : W p l e R s m args below meth c H locs cells slots Q (F0 m f.1 ls (f.2.2.map (xv b scr))) := by
  obtain ⟨pc, L, st⟩ := f
  dsimp only at hd hc ⊢
  unfold xq0 at hs
  dsimp only at hs
  have hz : ∀ n : Nat, n + 0 = n := fun _ => rfl
  split at hs
  · simp only [xck, Bool.and_eq_true, Nat.beq_eq] at hc
    obtain ⟨hc, rfl⟩ := hc
    split at hs
    · split at hs
      · rename_i hq
        split at hs
        · rename_i ha
          split at hs
          · rename_i v hv
            cases hs
            subst ha
            refine x_get hC hd hc hr hq hv ?_
            have k2 := kk H locs hr hS rfl
            rw [Nat.sub_self, Nat.sub_self] at k2
            exact k2
          · cases hs
        · cases hs
      · cases hs
    · cases hs
  · simp only [xck, Bool.and_eq_true, Nat.beq_eq] at hc
    obtain ⟨hc, rfl⟩ := hc
    split at hs
    · split at hs
      · rename_i hq
        split at hs
        · rename_i ha
          obtain ⟨rfl, hlt, hv, -⟩ := ha
          cases hs
          refine x_put hC hd hc hr hS hq hlt hv fun H1 locs1 hr1 hS1 => ?_
          have k2 := kk H1 locs1 hr1 hS1 rfl
          rw [show ∀ (q : Nat) (e : xE), (xput h q e).1 - h.1 = 0 from fun _ _ => Nat.sub_self _, show ∀ (q : Nat) (e : xE), (xput h q e).2.1 - h.2.1 = 0 from fun _ _ => Nat.sub_self _] at k2
          exact k2
        · cases hs
      · cases hs
    · cases hs
  · simp only [xck, Bool.and_eq_true, Nat.beq_eq] at hc
    obtain ⟨hc, rfl⟩ := hc
    cases hs
    have e1 : (xnew h (xfn a0) (.inr (a0, xfs a0))).1 - h.1 = 1 := by show h.1 + 1 - h.1 = 1; omega
    have e2 : (xnew h (xfn a0) (.inr (a0, xfs a0))).2.1 - h.2.1 = xfn a0 := by show h.2.1 + _ - h.2.1 = _; omega
    simp only [e1, e2] at hcl hsl kk
    exact x_new hC hd hc hr hS hcl hsl fun H1 hr1 hS1 => kk H1 locs hr1 hS1 trivial
  · rename_i at0
    simp only [xck, Bool.and_eq_true, Nat.beq_eq] at hc
    obtain ⟨hc, rfl⟩ := hc
    split at hs
    · rename_i n r
      split at hs
      · rename_i hn
        have e1 : ∀ e : xE, (xnew h n.toNatClampNeg e).1 - h.1 = 1 := fun _ => by show h.1 + 1 - h.1 = 1; omega
        have e2 : ∀ e : xE, (xnew h n.toNatClampNeg e).2.1 - h.2.1 = n.toNatClampNeg := fun _ => by show h.2.1 + _ - h.2.1 = _; omega
        split at hs
        · cases hs
          simp only [e1, e2] at hcl hsl kk
          have hat : at0 = .int := by cases at0 <;> first | rfl | (simp [xckq] at hc)
          subst hat
          exact x_newa hC (ty := .int) (t := 0) hd xw_aint rfl rfl (fun U cA h => h) (by decide) (fun cA => rfl) hn hr hS hcl hsl fun H1 hr1 hS1 => kk H1 locs hr1 hS1 trivial
        · cases hs
          simp only [e1, e2] at hcl hsl kk
          have hat : at0 = .long := by cases at0 <;> first | rfl | (simp [xckq] at hc)
          subst hat
          exact x_newa hC (ty := .long) (t := 1) hd xw_along rfl rfl (fun U cA h => h) (by decide) (fun cA => rfl) hn hr hS hcl hsl fun H1 hr1 hS1 => kk H1 locs hr1 hS1 trivial
        · cases hs
          simp only [e1, e2] at hcl hsl kk
          have hat : at0 = .boolean := by cases at0 <;> first | rfl | (simp [xckq] at hc)
          subst hat
          exact x_newa hC (ty := .boolean) (t := 2) hd xw_aboolean rfl rfl (fun U cA h => h) (by decide) (fun cA => rfl) hn hr hS hcl hsl fun H1 hr1 hS1 => kk H1 locs hr1 hS1 trivial
        · cases hs
      · cases hs
    · cases hs
  · simp only [xck, Bool.and_eq_true, Nat.beq_eq] at hc
    obtain ⟨hc, rfl⟩ := hc
    split at hs
    · rename_i n r
      split at hs
      · rename_i hn
        cases hs
        have e1 : ∀ e : xE, (xnew h n.toNatClampNeg e).1 - h.1 = 1 := fun _ => by show h.1 + 1 - h.1 = 1; omega
        have e2 : ∀ e : xE, (xnew h n.toNatClampNeg e).2.1 - h.2.1 = n.toNatClampNeg := fun _ => by show h.2.1 + _ - h.2.1 = _; omega
        simp only [e1, e2] at hcl hsl kk
        have ht : 3 ≤ a0 ∧ a0 < 9 := by
          simp only [xckq, Bool.and_eq_true] at hc
          exact ⟨Nat.le_of_ble_eq_true hc.1.2, Nat.lt_of_succ_le (Nat.le_of_ble_eq_true hc.2)⟩
        exact x_newq hC hd hc (xao ht) hn hr hS hcl hsl fun H1 hr1 hS1 => kk H1 locs hr1 hS1 trivial
      · cases hs
    · cases hs
  · simp only [xck, Bool.and_eq_true, Nat.beq_eq] at hc
    obtain ⟨hc, rfl⟩ := hc
    obtain ⟨hx, hb, -, -, -, hK, -⟩ := hC
    split at hs
    · split at hs
      · rename_i q r _ t n cont hq
        split at hs
        · rename_i ht
          cases hs
          have k2 := kk H locs hr hS rfl
          rw [Nat.sub_self, Nat.sub_self] at k2
          obtain ⟨ty, hty⟩ := xtys_any (dA := dA) ht
          have hP := hr.at hq
          rcases cont with g | g | g
          · exact va_alen (x := (n, .inl g)) hx hb hK.1 hP 0 t rfl hty rfl hd k2
          · exact va_alen (x := (n, .inr (.inl g))) hx hb hK.1 hP 0 t rfl hty rfl hd k2
          · exact va_alen (x := (n, .inr (.inr (.inr (.inr (fun j => (g j).map (fun a => b + a))))))) hx hb hK.1 hP 0 t rfl hty rfl hd k2
        · cases hs
      · cases hs
    · cases hs
  · cases hs
set_option maxHeartbeats 4000000 in
/-- every step that is no call and no return -/
theorem x_st (hC : xCt p s m args meth c cc D dA b o j R) (hml : c.maxLocals = nL) (hX : va_X scr X.1 X.2 s s.heap) (hsc : scr < b) {I : xI} {f : xF} {g : xF × xH} (hd : decode cc f.1 = .ok (I.2.1, I.2.2.1)) (hc : xck o j f.1 I = true) (hln : xlnk I.1 I.2.2.1 = true) (hs : xst X I f h = some g) (hl : xlv b scr ls nL f.2.1) (hr : xrep D dA b scr h H) (hS : va_S (fun q => b ≤ q) s.heap H locs) (hcl : cells + (g.2.1 - h.1) ≤ R.cells) (hsl : slots + (g.2.2.1 - h.2.1) ≤ R.slots)
    (kk : ∀ (ls1 : Array Slot) (H1 : Heap) (locs1 : List Loc), xlv b scr ls1 nL g.1.2.1 → xrep D dA b scr g.2 H1 → va_S (fun q => b ≤ q) s.heap H1 locs1 → W p l e R s m args below meth c H1 locs1 (cells + (g.2.1 - h.1)) (slots + (g.2.2.1 - h.2.1)) Q (F0 m g.1.1 ls1 (g.1.2.2.map (xv b scr)))) : W p l e R s m args below meth c H locs cells slots Q (F0 m f.1 ls (f.2.2.map (xv b scr))) := by
  have hC0 := hC
  obtain ⟨hx, hb, hown, hnm, hts, hK, hbs, hfr, hlo⟩ := hC
  obtain ⟨k, i, len, a0, b0⟩ := I
  dsimp only at hd
  unfold xst at hs
  dsimp only at hs
  have same : ∀ g1 : xF, g = (g1, h) → (∀ ls1, xlv b scr ls1 nL g1.2.1 → W p l e R s m args below meth c H locs cells slots Q (F0 m g1.1 ls1 (g1.2.2.map (xv b scr)))) := by
    intro g1 hg ls1 hl1
    subst hg
    have k2 := kk ls1 H locs hl1 hr hS
    rw [Nat.sub_self, Nat.sub_self] at k2
    exact k2
  split at hs
  · obtain ⟨h1, h2⟩ := xmap_some (f := f) hs
    exact x_p0 hx hb hd hc h1 hl (same g.1 (by rw [← h2]))
  · obtain ⟨h1, h2⟩ := xmap_some (f := f) hs
    exact x_p1 hx hb hd hc h1 hl (same g.1 (by rw [← h2]) ls)
  · obtain ⟨h1, h2⟩ := xmap_some (f := f) hs
    exact x_p2 hx hb hd hc h1 hl (same g.1 (by rw [← h2]) ls)
  · obtain ⟨h1, h2⟩ := xmap_some (f := f) hs
    exact x_p3 hx hb hd hc h1 hl (same g.1 (by rw [← h2]) ls)
  · obtain ⟨h1, h2⟩ := xmap_some (f := f) hs
    exact x_p4 hx hb hd hc h1 hl (same g.1 (by rw [← h2]) ls)
  · obtain ⟨h1, h2⟩ := xmap_some (f := f) hs
    exact x_p5 hx hb hd hc h1 hl (same g.1 (by rw [← h2]) ls)
  · obtain ⟨h1, h2⟩ := xmap_some (f := f) hs
    exact x_p6 hx hb hd hc h1 hl (same g.1 (by rw [← h2]) ls)
  · cases hs
    have k2 := same _ rfl ls hl
    simp only [xck] at hc
    split at hc
    · simp only [Bool.and_eq_true, Nat.beq_eq] at hc
      obtain ⟨rfl, hc⟩ := hc
      exact lv_ldc hx hb hown (hts _ (xck_ld hc)) hd k2
    · simp only [Bool.and_eq_true, Nat.beq_eq] at hc
      obtain ⟨rfl, hc⟩ := hc
      exact lv_ldcw hx hb hown (hts _ (xck_ld hc)) hd k2
    · cases hc
  · cases hs
    have k2 := same _ rfl ls hl
    simp only [xck] at hc
    split at hc
    · simp only [Bool.and_eq_true, Nat.beq_eq] at hc
      obtain ⟨rfl, hc⟩ := hc
      exact lv_ldc2 hx hb hown (hts _ (xck_ld2 hc)) hd k2
    · cases hc
  · exact x_q0 hC0 hd hc hs hr hS hcl hsl fun H1 locs1 hr1 hS1 e1 => kk ls H1 locs1 (by rw [e1]; exact hl) hr1 hS1
  · refine x_q1 hC0 hd hc hs hr fun hr1 e2 e1 => ?_
    exact same g.1 (by rw [← e2]) ls (by rw [e1]; exact hl)
  · refine x_q2 hC0 hd hc hs hr hS fun H1 locs1 hr1 hS1 e2 e1 => ?_
    have k2 := kk ls H1 locs1 (by rw [e1]; exact hl) hr1 hS1
    rw [e2.1, e2.2, Nat.sub_self, Nat.sub_self] at k2
    exact k2
  · obtain ⟨h1, h2⟩ := xmap_some (f := f) hs
    have k2 := same g.1 (by rw [← h2]) ls
    obtain rfl : len = 1 := by simpa [xck] using hc
    obtain ⟨pc, L, st⟩ := f
    obtain ⟨g1, g2⟩ := g
    have hbl : scr < s.heap.size := Nat.lt_of_lt_of_le hsc hbs
    have hbA : ¬ (fun q => b ≤ q) scr := Nat.not_le.mpr hsc
    unfold xq3 at h1
    dsimp only at h1
    split at h1
    · split at h1
      · cases h1
        exact va_slen hx hb hX hbl hbA hS hd (k2 hl)
      · cases h1
    · split at h1
      · split at h1
        · rename_i hin
          cases h1
          exact va_sld hx hb hX hbl hbA hS (xIn_in hin) hd (k2 hl)
        · cases h1
      · cases h1
    · cases h1
  · split at hs
    · rename_i r hst
      split at hs
      · rename_i hcat
        cases hs
        have k2 := same _ rfl ls hl
        simp only [xck] at hc
        split at hc
        · simp only [Bool.and_eq_true] at hc
          have f1 : 1 ≤ R.frames := Nat.le_trans (Nat.le_of_ble_eq_true hc.1.2) hfr
          have f2 : 20 ≤ R.locals := Nat.le_trans (Nat.le_of_ble_eq_true hc.2) hlo
          obtain rfl : len = 3 := by simpa [xlnk] using hln
          rw [hst]
          refine W.objInit hx hb hown (hts _ (xck_mo xmo_ok hc.1.1)) (hts _ xw_oi) (hts _ xw_oc) rfl (by rw [hml]; exact hl.2.1) rfl hd f1 ?_ k2
          show 2 * 0 + _ + 12 ≤ _
          rw [xcat_map]
          omega
        · cases hc
      · cases hs
    · cases hs
  · split at hs
    · rename_i y x r hst
      split at hs
      · rename_i hcat
        cases hs
        have k2 := same _ rfl ls hl
        simp only [xck] at hc
        split at hc
        · simp only [Bool.and_eq_true] at hc
          have f1 : 1 ≤ R.frames := Nat.le_trans (Nat.le_of_ble_eq_true hc.1.2) hfr
          have f2 : 21 ≤ R.locals := Nat.le_trans (Nat.le_of_ble_eq_true hc.2) hlo
          obtain rfl : len = 3 := by simpa [xlnk] using hln
          rw [hst]
          exact va_mmin hx hb (by rw [hml]; exact hl.2.1.symm) hown (hts _ (xck_mo xmn_ok hc.1.1)) (hts _ xw_ns) (hts _ xw_mi) (hts _ xw_nc) f1 (by rw [xcat_map]; omega) (Nat.le_trans (Nat.le_add_right _ _) hcl) (Nat.le_trans (Nat.le_add_right _ _) hsl) hd k2
        · cases hc
      · cases hs
    · cases hs
  · split at hs
    · rename_i y x r hst
      split at hs
      · rename_i hcat
        cases hs
        have k2 := same _ rfl ls hl
        simp only [xck] at hc
        split at hc
        · simp only [Bool.and_eq_true] at hc
          have f1 : 1 ≤ R.frames := Nat.le_trans (Nat.le_of_ble_eq_true hc.1.2) hfr
          have f2 : 21 ≤ R.locals := Nat.le_trans (Nat.le_of_ble_eq_true hc.2) hlo
          obtain rfl : len = 3 := by simpa [xlnk] using hln
          rw [hst]
          exact va_mmax hx hb (by rw [hml]; exact hl.2.1.symm) hown (hts _ (xck_mo xmx_ok hc.1.1)) (hts _ xw_xs) (hts _ xw_mi) (hts _ xw_xc) f1 (by rw [xcat_map]; omega) (Nat.le_trans (Nat.le_add_right _ _) hcl) (Nat.le_trans (Nat.le_add_right _ _) hsl) hd k2
        · cases hc
      · cases hs
    · cases hs
  · cases hs
end XW
