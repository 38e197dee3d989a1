/-! fields; new cells; the script; what the JDK answers -/
theorem xfs_V {b scr a j : Nat} (hj : j < xfn a) : defaultValue (xfty a j) = vp_V ((xfs a).map (xv b scr)) j := by
  have h1 : ((xfs a).map (xv b scr))[j]? = some (xv b scr (defaultValue (xfty a j))) := by
    simp [xfs, hj]
  show _ = (((xfs a).map (xv b scr)).getD j .null)
  rw [List.getD_eq_getElem?_getD, h1]
  show _ = xv b scr (defaultValue (xfty a j))
  cases xfty a j <;> rfl
section XW
variable {p : Program} {l : Launch} {e : Env} {R : Room} {s : State} {m : MethodId} {args : Array Value} {below : List Frame} {meth : Method} {c : Code} {H : Heap} {locs : List Loc} {cells slots : Nat} {Q : State → Prop} {cc : ByteArray} {b scr nL o j a0 b0 len : Nat} {ls : Array Slot} {i : Jvm.ClassFile.Instr} {D : va_G} {dA : Nat → ClassId} {h : xH} {X : Nat × (Nat → Int32)}
set_option maxHeartbeats 4000000 in
theorem x_get (hC : xCt p s m args meth c cc D dA b o j R) {pc q x ci : Nat} {fs r : List Value} {v : Value} (hd : decode cc pc = .ok (.getfield x, 3)) (hc : xckq o j pc (.getfield x) ci b0 = true) (hr : xrep D dA b scr h H) (hq : h.2.2 q = some (.inr (ci, fs))) (hv : fs[b0]? = some v)
    (kk : W p l e R s m args below meth c H locs cells slots Q (F0 m (pc + 3) ls (xv b scr v :: r))) : W p l e R s m args below meth c H locs cells slots Q (F0 m pc ls (.ref (b + q) :: r)) := by
  obtain ⟨hx, hb, hown, -, hts, hK, -⟩ := hC
  simp only [xckq, Bool.and_eq_true] at hc
  obtain ⟨h1, h2⟩ := hc
  obtain ⟨hfl, ha⟩ := xck_fl h1
  have hk : b0 < xfn ci := Nat.lt_of_succ_le (Nat.le_of_ble_eq_true h2)
  exact va_get (fs := fs.map (xv b scr)) hx hb hts (xcw_use ha).2.2 hown hK.1 (hr.at hq) 0 rfl (xvw ha) b0 hk (hts _ hfl) (fun y hy => by rw [xcT_own ha hk] at hy; exact hy) (by rw [List.getElem?_map, hv]; rfl) hd kk
set_option maxHeartbeats 4000000 in
theorem x_put (hC : xCt p s m args meth c cc D dA b o j R) {pc q x ci : Nat} {fs r : List Value} {v : Value} (hd : decode cc pc = .ok (.putfield x, 3)) (hc : xckq o j pc (.putfield x) ci b0 = true) (hr : xrep D dA b scr h H) (hS : va_S (fun q => b ≤ q) s.heap H locs) (hq : h.2.2 q = some (.inr (ci, fs))) (hl : b0 < fs.length) (hv : fits (xfty ci b0) v = true)
    (kk : ∀ (H1 : Heap) (locs1 : List Loc), xrep D dA b scr (xput h q (.inr (ci, fs.set b0 v))) H1 → va_S (fun q => b ≤ q) s.heap H1 locs1 → W p l e R s m args below meth c H1 locs1 cells slots Q (F0 m (pc + 3) ls r)) : W p l e R s m args below meth c H locs cells slots Q (F0 m pc ls (xv b scr v :: .ref (b + q) :: r)) := by
  obtain ⟨hx, hb, hown, hnm, hts, hK, -⟩ := hC
  simp only [xckq, Bool.and_eq_true] at hc
  obtain ⟨⟨h1, h2⟩, h3⟩ := hc
  obtain ⟨hfl, ha⟩ := xck_fl h1
  have hk : b0 < xfn ci := Nat.lt_of_succ_le (Nat.le_of_ble_eq_true h2)
  have hcl := xvw ha
  have hin := (xcw_use ha).2.2
  have hap := va_apart (own := xon o) hts hin (xfty ci) (xty_ok ha) (xnm_ok ha) hK.1 hcl
  obtain ⟨r', hr', cell, q1, q2, q3, q4⟩ := (hr.at hq) 0 _ rfl
  have hr' : r' = (xon ci, xcT ci, xfn ci) := Option.some.inj (hr'.symm.trans hcl)
  subst hr'
  obtain ⟨hSl, hfc, kC, hkC, hkind⟩ := hK.1.1 ci _ hcl
  obtain ⟨cf, kf, fi, f, hi, hsl⟩ := hSl b0 hk
  have hi2 : s.fieldFound? (xon ci) (xcT ci b0).2.1 (xcT ci b0).2.2.1 = some (cf, kf, fi, f) := by rw [← xcT_own ha hk]; exact hi
  have hst := (u_facts hfc hkC (u_lays hts hin hk) hi).1
  have hlay := hts _ (hin _ (u_in_lay hk))
  have hd0 := xty_ok ha b0 hk
  have hfit : fits (xfty ci b0) (xv b scr v) = true := xfits_v hv
  have hn : narrow (xfty ci b0) (xv b scr v) = xv b scr v := xfits_narrow (xtok_use (xtok_all ha hk)) hfit
  have hlen : b0 < (fs.map (xv b scr)).length := by rw [List.length_map]; exact hl
  have fin : ∀ (H' : Heap), H'[b + q]? = some (cell.setSlot f.slot (xv b scr v)) → H'.size = H.size → (∀ q' : Nat, q' ≠ b + q → H'[q']? = H[q']?) → W p l e R s m args below meth c H' (locs ++ [⟨b + q, f.slot⟩]) cells slots Q (F0 m (pc + 3) ls r) := by
    intro H' e1 e2 e3
    rw [hsl] at e1 ⊢
    refine kk H' _ (hr.set hq e2 e3 ⟨_, hcl, ?_⟩) (hS.put e2 e3 (Nat.le_add_right b q))
    have h9 := t_OB.to (V := updV (vp_V (fs.map (xv b scr))) b0 (xv b scr v)) (V' := vp_V ((fs.set b0 v).map (xv b scr))) ⟨_, e1, q2, q3, t_set q4 hap hk (xv b scr v)⟩ (fun j _ => by rw [List.map_set]; exact vp_updV_set hlen (xv b scr v) j)
    exact h9
  by_cases hf : (xcT ci b0).2.2.2 = true
  · simp only [hf, Bool.not_true, Bool.false_or, Bool.and_eq_true, decide_eq_true_eq] at h3
    unfold u_lay at hlay
    rw [if_pos hf] at hlay
    have hcf : m.cls = cf := by
      obtain ⟨_, _, c', _, _, _, -, -, hf', -, -, -, hown2, -⟩ := Cond.laysFinal_spec hlay
      have e1 : c' = cf := by have := hi.symm.trans hf'; simp at this; exact this.1.symm
      rw [h3.2] at hown2
      rw [← e1]; exact Option.some.inj (hown.symm.trans hown2)
    have h6 := u_fits hfc hkC hkind (Or.inr hlay) hi hd0 hn hfit
    exact W.putFinK hx hb hown (hts _ hfl) hi2 hst hcf (hnm h3.1) (by rw [q2]; exact h6) q1 q3 (by rw [hsl]; exact k2_hasslot (q4 b0 hk)) rfl rfl hd fin
  · unfold u_lay at hlay
    rw [if_neg hf] at hlay
    have h6 := u_store hfc hkC hkind hlay hi hd0 hn hfit
    exact W.putK hx hb (f := f) ⟨hown, hts _ hfl, ⟨_, _, _, hi2⟩, hst⟩ (by rw [q2]; exact h6) q1 q3 (by rw [hsl]; exact k2_hasslot (q4 b0 hk)) rfl rfl hd fin
set_option maxHeartbeats 4000000 in
theorem x_new (hC : xCt p s m args meth c cc D dA b o j R) {pc x ci : Nat} {r : List Value} (hd : decode cc pc = .ok (.new x, 3)) (hc : xckq o j pc (.new x) ci b0 = true) (hr : xrep D dA b scr h H) (hS : va_S (fun q => b ≤ q) s.heap H locs) (hcells : cells + 1 ≤ R.cells) (hslots : slots + xfn ci ≤ R.slots)
    (kk : ∀ (H1 : Heap), xrep D dA b scr (xnew h (xfn ci) (.inr (ci, xfs ci))) H1 → va_S (fun q => b ≤ q) s.heap H1 locs → W p l e R s m args below meth c H1 locs (cells + 1) (slots + xfn ci) Q (F0 m (pc + 3) ls (.ref (b + h.1) :: r))) : W p l e R s m args below meth c H locs cells slots Q (F0 m pc ls r) := by
  obtain ⟨hx, hb, hown, -, hts, hK, -⟩ := hC
  obtain ⟨hcl, ha⟩ := xck_cl (show xcll.any _ = true from hc)
  obtain ⟨hi1, hi2, hin⟩ := xcw_use ha
  have hKn := hK.1.1 ci _ (xvw ha)
  refine W.newcK hx hb hown (hts _ hcl) (hts _ hi1) (hts _ hi2) rfl hd hcells hslots hKn.2.1 hr.1 fun H1 kC hkC e1 z1 o1 => ?_
  refine kk H1 (hr.push (by rw [z1, hr.1]) (fun q hq => o1 q (by rw [← hr.1]; exact hq)) ⟨_, xvw ha, (u_born (xfty ci) hts hin hKn hkC e1 (xty_ok ha)).to (fun j hj => xfs_V hj)⟩) ?_
  exact ⟨Nat.le_trans hS.1 (by rw [z1, hr.1]; omega), fun q h1 h2 => (o1 q (by rw [← hr.1]; exact Nat.lt_of_lt_of_le h1 hS.1)).trans (hS.2.1 q h1 h2), hS.2.2⟩
set_option maxHeartbeats 4000000 in
theorem x_newa (hC : xCt p s m args meth c cc D dA b o j R) {pc t : Nat} {r : List Value} {at0 : ArrayType} {ty : FieldType} {n : Int32} {cont : (Nat → Int32) ⊕ (Nat → Int64) ⊕ (Nat → Option Nat)} (hd : decode cc pc = .ok (.newarray at0, 2)) (hw : Cond.arrayClass ty ∈ xG) (hty : newarray.typeOf at0 = ty) (ht : (xtys dA)[t]? = some (dA t, ty)) (hRA : ∀ U cA, va_RA U cA ty → U.vm.findClass ("[" ++ ty.toString) = some cA) (hbyt : componentBytes ty ≤ 8)
    (hcont : ∀ cA : ClassId, vp_cell cA (match cont with
      | .inl f => (n.toNatClampNeg, .inl f)
      | .inr (.inl f) => (n.toNatClampNeg, .inr (.inl f))
      | .inr (.inr f) => (n.toNatClampNeg, .inr (.inr (.inr (.inr (fun j => (f j).map (fun a => b + a))))))) = arrV cA n.toNatClampNeg (fun _ => defaultValue ty))
    (hn : 0 ≤ n.toInt ∧ n.toInt ≤ 67108864) (hr : xrep D dA b scr h H) (hS : va_S (fun q => b ≤ q) s.heap H locs) (hcells : cells + 1 ≤ R.cells) (hslots : slots + n.toNatClampNeg ≤ R.slots)
    (kk : ∀ (H1 : Heap), xrep D dA b scr (xnew h n.toNatClampNeg (.inl (t, n.toNatClampNeg, cont))) H1 → va_S (fun q => b ≤ q) s.heap H1 locs → W p l e R s m args below meth c H1 locs (cells + 1) (slots + n.toNatClampNeg) Q (F0 m (pc + 2) ls (.ref (b + h.1) :: r))) : W p l e R s m args below meth c H locs cells slots Q (F0 m pc ls (.int n :: r)) := by
  obtain ⟨hx, hb, hown, -, hts, hK, -⟩ := hC
  subst hty
  have hle := xcl_le hn
  refine va_newaK hx hb (hts _ hw) rfl hd rfl (xinl hn.1) rfl (Nat.le_trans (Nat.mul_le_mul hle hbyt) (by decide)) hcells hslots hr.1 fun H1 cA e1 z1 o1 hAr hNm => ?_
  have hcA : cA = dA t := Option.some.inj (hNm.symm.trans (hRA s _ (hK.1.2 t _ ht).2))
  subst hcA
  refine kk H1 (hr.push (by rw [z1, hr.1]) (fun q hq => o1 q (by rw [← hr.1]; exact hq)) (xput_at e1 (hcont _).symm)) ?_
  exact ⟨Nat.le_trans hS.1 (by rw [z1, hr.1]; omega), fun q h1 h2 => (o1 q (by rw [← hr.1]; exact Nat.lt_of_lt_of_le h1 hS.1)).trans (hS.2.1 q h1 h2), hS.2.2⟩
set_option maxHeartbeats 4000000 in
theorem x_newq (hC : xCt p s m args meth c cc D dA b o j R) {pc x t : Nat} {r : List Value} {n : Int32} (hd : decode cc pc = .ok (.anewarray x, 3)) (hc : xckq o j pc (.anewarray x) t b0 = true) (hNW : Cond.arrayOver (.object (xon (xoc t))) ∈ xNW)
    (hn : 0 ≤ n.toInt ∧ n.toInt ≤ 67108864) (hr : xrep D dA b scr h H) (hS : va_S (fun q => b ≤ q) s.heap H locs) (hcells : cells + 1 ≤ R.cells) (hslots : slots + n.toNatClampNeg ≤ R.slots)
    (kk : ∀ (H1 : Heap), xrep D dA b scr (xnew h n.toNatClampNeg (.inl (t, n.toNatClampNeg, .inr (.inr (fun _ => none))))) H1 → va_S (fun q => b ≤ q) s.heap H1 locs → W p l e R s m args below meth c H1 locs (cells + 1) (slots + n.toNatClampNeg) Q (F0 m (pc + 3) ls (.ref (b + h.1) :: r))) : W p l e R s m args below meth c H locs cells slots Q (F0 m pc ls (.int n :: r)) := by
  obtain ⟨hx, hb, hown, -, hts, hK, -⟩ := hC
  simp only [xckq, Bool.and_eq_true] at hc
  obtain ⟨⟨h1, h2⟩, h3⟩ := hc
  have ht : 3 ≤ t ∧ t < 9 := ⟨Nat.le_of_ble_eq_true h2, Nat.lt_of_succ_le (Nat.le_of_ble_eq_true h3)⟩
  obtain ⟨hcl, ha⟩ := xck_cl h1
  have hle := xcl_le hn
  refine W.anew hx hb hown (hts _ hcl) (va_AO.use (hK.2 _ hNW)) rfl hd rfl (xinl hn.1) (by omega) hcells hslots fun cA kA comp f1 f2 f3 f4 => ?_
  obtain ⟨kA', comp', k1, k2, k3, k4⟩ := (hK.1.2 t _ (xtys_at ht).1).2
  have hcA : cA = dA t := Option.some.inj (f1.symm.trans k4)
  subst hcA
  generalize hH1 : H.push ({ cls := dA t, slots := Array.replicate n.toNatClampNeg .null, vm := .none } : Cell) = H1
  have z1 : H1.size = H.size + 1 := by rw [← hH1, Array.size_push]
  have e1 : H1[H.size]? = some (arrV (dA t) n.toNatClampNeg (fun _ => .null)) := by rw [← hH1, Array.getElem?_push_size, ← arrV_new]
  have o1 : ∀ q : Nat, q < H.size → H1[q]? = H[q]? := fun q hq => by rw [← hH1, Array.getElem?_push, if_neg (Nat.ne_of_lt hq)]
  rw [hr.1] at e1 ⊢
  refine kk H1 (hr.push z1 o1 (xput_at e1 rfl)) ?_
  exact ⟨Nat.le_trans hS.1 (by rw [z1]; omega), fun q h1 h2 => (o1 q (Nat.lt_of_lt_of_le h1 hS.1)).trans (hS.2.1 q h1 h2), hS.2.2⟩
end XW
