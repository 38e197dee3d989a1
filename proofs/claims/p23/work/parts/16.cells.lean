/-! fields and arrays -/
theorem xput_at {D : va_G} {dA : Nat → ClassId} {b scr n q t : Nat} {H1 : Heap} {cont : (Nat → Int32) ⊕ (Nat → Int64) ⊕ (Nat → Option Nat)} {cl : Cell} (e : H1[b + q]? = some cl) (hc : cl = vp_cell (dA t) (match cont with
    | .inl f => (n, .inl f)
    | .inr (.inl f) => (n, .inr (.inl f))
    | .inr (.inr f) => (n, .inr (.inr (.inr (.inr (fun j => (f j).map (fun a => b + a)))))))) : va_at D vwCl (b + q, xce dA b scr (.inl (t, n, cont))) H1 := by
  subst hc
  rcases cont with f | f | f <;> exact e
theorem xupdV {n : Nat} {cA : ClassId} {f g : Nat → Value} {k : Nat} {v : Value} (h : ∀ j, g j = if j = k then v else f j) : (arrV cA n f).setSlot k v = arrV cA n g := by
  rw [arrV_store]
  congr 1
  funext j
  rw [h j]
  unfold updV
  rfl
section XW
variable {p : Program} {l : Launch} {e : Env} {R : Room} {s : State} {m : MethodId} {args : Array Value} {below : List Frame} {meth : Method} {c : Code} {H : Heap} {locs : List Loc} {cells slots : Nat} {Q : State → Prop} {cc : ByteArray} {b scr nL o j a0 b0 len : Nat} {ls : Array Slot} {i : Jvm.ClassFile.Instr} {D : va_G} {dA : Nat → ClassId} {h : xH} {H0 : Heap}
/-- what holds while a method runs -/
def xCt (p : Program) (s : State) (m : MethodId) (args : Array Value) (meth : Method) (c : Code) (cc : ByteArray) (D : va_G) (dA : Nat → ClassId) (b o j : Nat) (R : Room) : Prop :=
  p.tables.exec = Jvm.exec ∧ c.code = cc ∧ s.vm.findClass (xon o) = some m.cls ∧ ((xyn j).name = "<init>" → meth.name = "<init>") ∧ (∀ w ∈ xG, w.before args s = true) ∧ xKx D dA s ∧ b ≤ s.heap.size ∧ (xrm j).1 ≤ R.frames ∧ (xrm j).2 ≤ R.locals
theorem xinl {n : Int32} (h : 0 ≤ n.toInt) : ¬ n < 0 := by
  rw [Int32.lt_iff_toInt_lt, Int32.toInt_zero]; omega
theorem xcl_le {n : Int32} (h : 0 ≤ n.toInt ∧ n.toInt ≤ 67108864) : n.toNatClampNeg ≤ 67108864 := by
  show n.toInt.toNat ≤ _
  omega
set_option maxHeartbeats 4000000 in
theorem x_q1 (hC : xCt p s m args meth c cc D dA b o j R) {f : xF} {g : xF × xH} (hd : decode cc f.1 = .ok (i, len)) (hc : xck o j f.1 (21, i, len, a0, b0) = true) (hs : xq1 i f h = some g) (hr : xrep D dA b scr h H)
    (kk : xrep D dA b scr g.2 H → g.2 = h → g.1.2.1 = f.2.1 → W p l e R s m args below meth c H locs cells slots Q (F0 m g.1.1 ls (g.1.2.2.map (xv b scr)))) : W p l e R s m args below meth c H locs cells slots Q (F0 m f.1 ls (f.2.2.map (xv b scr))) := by
  obtain ⟨hx, hb, -, -, -, hK, -⟩ := hC
  obtain ⟨pc, L, st⟩ := f
  dsimp only at hd hc ⊢
  obtain rfl : len = 1 := by simpa [xck] using hc
  unfold xq1 at hs
  dsimp only at hs
  split at hs
  · rename_i k q r
    split at hs
    · rename_i t n cont hq
      have hP := hr.at hq
      split at hs
      · rename_i hin
        have hv := xIn_in hin
        split at hs
        · split at hs
          · split at hs
            · rename_i ht; subst ht
              cases hs
              exact va_iald hx hb hK.1 hP 0 0 rfl rfl hv hd (kk hr rfl rfl)
            · cases hs
          · cases hs
        · split at hs
          · split at hs
            · rename_i ht; subst ht
              cases hs
              exact va_zald hx hb hK.1 hP 0 2 rfl rfl hv hd (kk hr rfl rfl)
            · cases hs
          · cases hs
        · split at hs
          · split at hs
            · rename_i ht; subst ht
              cases hs
              exact va_lald hx hb hK.1 hP 0 1 rfl rfl hv hd (kk hr rfl rfl)
            · cases hs
          · cases hs
        · split at hs
          · rename_i gg
            split at hs
            · rename_i ht
              cases hs
              refine va_aldq hx hb hK.1 hP 0 t rfl (xtys_at ht).1 hv hd ?_
              have k2 := kk hr rfl rfl
              cases hz : gg k.toNatClampNeg with
              | none => simpa [hz, va_rf, xv] using k2
              | some z => simpa [hz, va_rf, xv] using k2
            · cases hs
          · cases hs
        · cases hs
      · cases hs
    · cases hs
  · cases hs
theorem xSput {A : Nat → Prop} {H1 : Heap} {a k : Nat} (h : va_S A H0 H locs) (z : H1.size = H.size) (oq : ∀ q : Nat, q ≠ a → H1[q]? = H[q]?) (ha : A a) : va_S A H0 H1 (locs ++ [⟨a, k⟩]) := h.put z oq ha
set_option maxHeartbeats 4000000 in
theorem x_q2 (hC : xCt p s m args meth c cc D dA b o j R) {f : xF} {g : xF × xH} (hd : decode cc f.1 = .ok (i, len)) (hc : xck o j f.1 (22, i, len, a0, b0) = true) (hs : xq2 i f h = some g) (hr : xrep D dA b scr h H) (hS : va_S (fun q => b ≤ q) H0 H locs)
    (kk : ∀ (H1 : Heap) (locs1 : List Loc), xrep D dA b scr g.2 H1 → va_S (fun q => b ≤ q) H0 H1 locs1 → g.2.1 = h.1 ∧ g.2.2.1 = h.2.1 → g.1.2.1 = f.2.1 → W p l e R s m args below meth c H1 locs1 cells slots Q (F0 m g.1.1 ls (g.1.2.2.map (xv b scr)))) : W p l e R s m args below meth c H locs cells slots Q (F0 m f.1 ls (f.2.2.map (xv b scr))) := by
  obtain ⟨hx, hb, -, -, -, hK, -⟩ := hC
  obtain ⟨pc, L, st⟩ := f
  dsimp only at hd hc ⊢
  obtain rfl : len = 1 := by simpa [xck] using hc
  unfold xq2 at hs
  dsimp only at hs
  split at hs
  · rename_i v k q r
    split at hs
    · rename_i t n cont hq
      have hP := hr.at hq
      split at hs
      · rename_i hin
        have hv := xIn_in hin
        have hlt : k.toNatClampNeg < n := Nat.not_le.mp fun q => hv (Or.inr q)
        split at hs
        · split at hs
          · rename_i gg x
            split at hs
            · rename_i ht; subst ht
              cases hs
              refine W.iast hx hb (hP 0 _ rfl) ((hK.1.2 0 _ rfl).1 n (fun j => .int (gg j))) (fun q => by cases q) (by show ¬ (_ < 0 ∨ (arrV _ _ _).slots.size ≤ _); rw [arrV_size]; exact hv) rfl rfl hd fun H1 e z oq => ?_
              exact kk H1 _ (hr.set hq z oq (xput_at e (xupdV (f := fun j => .int (gg j)) (g := fun j => .int (upd gg k.toNatClampNeg x j)) fun j => by simp only [upd]; split <;> rfl))) (hS.put z oq (Nat.le_add_right b q)) ⟨rfl, rfl⟩ rfl
            · cases hs
          · cases hs
        · split at hs
          · rename_i gg x
            split at hs
            · rename_i ht; subst ht
              cases hs
              refine W.zast hx hb (hP 0 _ rfl) ((hK.1.2 2 _ rfl).1 n (fun j => .int (gg j))) (fun q => by cases q) (by show ¬ (_ < 0 ∨ (arrV _ _ _).slots.size ≤ _); rw [arrV_size]; exact hv) rfl rfl hd fun H1 e z oq => ?_
              exact kk H1 _ (hr.set hq z oq (xput_at e (xupdV (f := fun j => .int (gg j)) (g := fun j => .int (upd gg k.toNatClampNeg (vp_nar .boolean x) j)) fun j => by simp only [upd]; split <;> rfl))) (hS.put z oq (Nat.le_add_right b q)) ⟨rfl, rfl⟩ rfl
            · cases hs
          · cases hs
        · split at hs
          · rename_i gg x
            split at hs
            · rename_i ht; subst ht
              cases hs
              refine W.last hx hb (hP 0 _ rfl) ((hK.1.2 1 _ rfl).1 n (fun j => .long (gg j))) (fun q => by cases q) (by show ¬ (_ < 0 ∨ (arrV _ _ _).slots.size ≤ _); rw [arrV_size]; exact hv) rfl rfl hd fun H1 e z oq => ?_
              exact kk H1 _ (hr.set hq z oq (xput_at e (xupdV (f := fun j => .long (gg j)) (g := fun j => .long (vp_updL gg k.toNatClampNeg x j)) fun j => by simp only [vp_updL]; split <;> rfl))) (hS.put z oq (Nat.le_add_right b q)) ⟨rfl, rfl⟩ rfl
            · cases hs
          · cases hs
        · split at hs
          · rename_i gg
            split at hs
            · rename_i ht
              cases hs
              refine va_WaastN (C := xon (xoc t)) hx hb (hP 0 _ rfl) ((hK.1.2 t _ (xtys_at ht).1).1 n (fun j => va_rf ((gg j).map (fun a => b + a)))) (fun h => by cases h) (by show ¬ (_ < 0 ∨ (arrV _ _ _).slots.size ≤ _); rw [arrV_size]; exact hv) rfl rfl hd fun H1 e z oq => ?_
              exact kk H1 _ (hr.set hq z oq (xput_at e (xupdV (f := fun j => va_rf ((gg j).map (fun a => b + a))) (g := fun j => va_rf ((va_up gg k.toNatClampNeg none j).map (fun a => b + a))) fun j => by simp only [va_up]; split <;> rfl))) (hS.put z oq (Nat.le_add_right b q)) ⟨rfl, rfl⟩ rfl
            · cases hs
          · rename_i gg w
            split at hs
            · rename_i ci fs hw
              split at hs
              · rename_i ht
                obtain ⟨ht1, ht2, rfl⟩ := ht
                have ht : 3 ≤ t ∧ t < 9 := ⟨ht1, ht2⟩
                cases hs
                obtain ⟨r', hr', cellV, g1, g2, g3, -⟩ := (hr.at hw) 0 _ rfl
                have hcls := (hK.1.1 (xoc t) _ (xvw (xtys_at (dA := dA) ht).2)).2
                obtain ⟨kA, comp, k1, k2, k3, -⟩ := (hK.1.2 t _ (xtys_at ht).1).2
                have hcomp : comp = D.1 (xoc t) := Option.some.inj (k3.symm.trans hcls.1)
                subst hcomp
                obtain ⟨kC, hkC, -⟩ := hcls.2
                refine W.aast hx hb (hP 0 _ rfl) (fun q h => by cases h) (fun h => by cases h) k1 k2 rfl hkC ⟨fun q => hv (Or.inl q), by show _ < (arrV _ _ _).slots.size; rw [arrV_size]; exact hlt⟩ g1 (fun q h => by rw [g3] at h; cases h) (by rw [g2]; exact hkC) (by rw [g2]; exact va_assign hcls) rfl rfl hd fun H1 e z oq => ?_
                exact kk H1 _ (hr.set hq z oq (xput_at e (xupdV (f := fun j => va_rf ((gg j).map (fun a => b + a))) (g := fun j => va_rf ((va_up gg k.toNatClampNeg (some w) j).map (fun a => b + a))) fun j => by simp only [va_up]; split <;> rfl))) (hS.put z oq (Nat.le_add_right b q)) ⟨rfl, rfl⟩ rfl
              · cases hs
            · cases hs
          · cases hs
        · cases hs
      · cases hs
    · cases hs
  · cases hs
end XW
