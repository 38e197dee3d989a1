/-! every method's run is its contract -/
section XW
variable {p : Program} {l : Launch} {e : Env} {R : Room} {s : State} {m : MethodId} {args : Array Value} {below : List Frame} {meth : Method} {c : Code} {Q : State → Prop} {b scr nL j : Nat} {D : va_G} {dA : Nat → ClassId} {X : Nat × (Nat → Int32)}
/-- what holds where a run ends -/
def xEnd (p : Program) (l : Launch) (e : Env) (R : Room) (s : State) (m : MethodId) (args : Array Value) (below : List Frame) (meth : Method) (c : Code) (Q : State → Prop) (D : va_G) (dA : Nat → ClassId) (b scr nL j : Nat) (r : Option Value) (h' : xH) (cells slots : Nat) : Prop :=
  ∀ (I : xI) (pc : Nat) (ls1 : Array Slot) (H1 : Heap) (locs1 : List Loc), decode (xby j) pc = .ok (I.2.1, I.2.2.1) → xck (xow j) j pc I = true → xlnk I.1 I.2.2.1 = true → ((I.1 = 0 ∧ r = none) ∨ (I.1 = 1 ∧ ∃ v, r = some v ∧ xrt I.2.2.2.1 v = true)) → xrep D dA b scr h' H1 → va_S (fun q => b ≤ q) s.heap H1 locs1 →
    W p l e R s m args below meth c H1 locs1 cells slots Q (F0 m pc ls1 (r.toList.map (xv b scr)))
set_option maxHeartbeats 4000000 in
theorem x_walk (hj : j < 132) (hC : xCt p s m args meth c (xby j) D dA b (xow j) j R) (hml : c.maxLocals = nL) (hX : va_X scr X.1 X.2 s s.heap) (hsc : scr < b) :
    ∀ n, (∀ k, k < n → ∀ j' vs h r h', j' < 131 → (xsl vs).length ≤ (xTab j').2.2.1 → xrun X k (xTab j').1 (0, xent (xTab j').2.2.1 vs, []) h = some (r, h') → xMet l D dA b scr X j' vs h r h') →
    ∀ (f : xF) (h : xH) (r : Option Value) (h' : xH), xrun X n (xTab j).1 f h = some (r, h') → ∀ (ls : Array Slot) (H : Heap) (locs : List Loc) (cells slots : Nat), xlv b scr ls nL f.2.1 → xrep D dA b scr h H → va_S (fun q => b ≤ q) s.heap H locs → cells + (h'.1 - h.1) ≤ R.cells → slots + (h'.2.1 - h.2.1) ≤ R.slots →
    xEnd p l e R s m args below meth c Q D dA b scr nL j r h' (cells + (h'.1 - h.1)) (slots + (h'.2.1 - h.2.1)) → W p l e R s m args below meth c H locs cells slots Q (F0 m f.1 ls (f.2.2.map (xv b scr))) := by
  intro n
  induction n with
  | zero =>
    intro _ f h r h' hs
    cases hs
  | succ n ih =>
    intro hM f h r h' hs ls H locs cells slots hl hr hS hcl hsl hend
    have ih := ih (fun k hk => hM k (Nat.lt_succ_of_lt hk))
    obtain ⟨I, hI, hcase⟩ := xrun_cases hs
    obtain ⟨hd, hc, hln⟩ := xat hj hI
    obtain ⟨pc, L, st⟩ := f
    dsimp only at hd hc hl hI hcase ⊢
    rcases hcase with ⟨h0, rfl, rfl, rfl⟩ | ⟨h0, v, rfl, hv, rfl, rfl⟩ | ⟨vs, rest, v, h1, hk, rfl, hn, hcat, hsl0, hcl0, hrun, hs⟩ | ⟨g, hg, hs⟩
    · rw [Nat.sub_self, Nat.sub_self] at hend
      exact hend I pc ls H locs hd hc hln (Or.inl ⟨h0, rfl⟩) hr hS
    · rw [Nat.sub_self, Nat.sub_self] at hend
      exact hend I pc ls H locs hd hc hln (Or.inr ⟨h0, v, rfl, hv⟩) hr hS
    · have m1 := xrun_mono hrun
      have m2 := xrun_mono hs
      have e1 : cells + (h1.1 - h.1) + (h'.1 - h1.1) = cells + (h'.1 - h.1) := by omega
      have e2 : slots + (h1.2.1 - h.2.1) + (h'.2.1 - h1.2.1) = slots + (h'.2.1 - h.2.1) := by omega
      refine x_call hC hml hX hsc hk hd hc hln hn hcat hcl0 (fun ha => hM n (Nat.lt_succ_self n) _ vs h v h1 ha hsl0 hrun) hl hr hS (by omega) (by omega) fun H1 locs1 hr1 hS1 => ?_
      exact ih (pc + 3, L, v.toList ++ rest) h1 r h' hs ls H1 locs1 _ _ hl hr1 hS1 (by rw [e1]; exact hcl) (by rw [e2]; exact hsl) (by rw [e1, e2]; exact hend)
    · have m1 := xst_mono hg
      have m2 := xrun_mono hs
      have e1 : cells + (g.2.1 - h.1) + (h'.1 - g.2.1) = cells + (h'.1 - h.1) := by omega
      have e2 : slots + (g.2.2.1 - h.2.1) + (h'.2.1 - g.2.2.1) = slots + (h'.2.1 - h.2.1) := by omega
      refine x_st hC hml hX hsc (f := (pc, L, st)) hd hc hln hg hl hr hS (by omega) (by omega) fun ls1 H1 locs1 hl1 hr1 hS1 => ?_
      exact ih g.1 g.2 r h' hs ls1 H1 locs1 _ _ hl1 hr1 hS1 (by rw [e1]; exact hcl) (by rw [e2]; exact hsl) (by rw [e1, e2]; exact hend)
end XW
set_option maxHeartbeats 4000000 in
theorem x_met (l : Launch) (D : va_G) (dA : Nat → ClassId) (b scr : Nat) (hsc : scr < b) (X : Nat × (Nat → Int32)) : ∀ n, ∀ j vs h r h', j < 131 → (xsl vs).length ≤ (xTab j).2.2.1 → xrun X n (xTab j).1 (0, xent (xTab j).2.2.1 vs, []) h = some (r, h') → xMet l D dA b scr X j vs h r h' := by
  intro n
  induction n using Nat.strongRecOn with
  | ind n ih =>
    intro j vs h r h' hj hvs hrun
    refine Met.ofW (cc := xby j) (maxL := (xTab j).2.2.1) (ret := xre j) (xmi_use hj).1 rfl ?_
    intro p e s m args below meth c s₁ B hml hv
    obtain ⟨rfl, hrep, hK, hX⟩ := hv
    have hts := atoms_spec (ws := xws j) B.pre
    have hown : s.vm.findClass (xyn j).cls = some m.cls := findClass_of_methodNamed B.named
    rw [(xmi_use hj).2.2.1] at hown
    have hlocks := B.notSynchronized
    have hret := B.returns
    have hC : xCt p s m (vs.map (xv b scr)).toArray meth c (xby j) D dA b (xow j) j { frames := (xrm j).1, cells := h'.1 - h.1, slots := h'.2.1 - h.2.1, locals := (xrm j).2 } :=
      ⟨B.exec, B.bytes, hown, fun hn => (name_of_methodNamed B.named B.method).1.trans hn, fun w hw => hts w (List.mem_cons_of_mem _ hw), hK, by rw [hrep.1]; omega, Nat.le_refl _, Nat.le_refl _⟩
    rw [lg_entry_eq]
    refine x_walk (j := j) (f := (0, xent (xTab j).2.2.1 vs, [])) (by omega) hC hml hX hsc n (fun k hk => ih k hk) h r h' hrun _ s.heap [] 0 0 (xent_ok hvs) hrep va_S.rf (by rw [Nat.zero_add]; exact Nat.le_refl _) (by rw [Nat.zero_add]; exact Nat.le_refl _) ?_
    intro I pc ls1 H1 locs1 hd hc hln hcase hr1 hS1
    rw [Nat.zero_add, Nat.zero_add]
    have hq : ∀ (oc : Outcome), oc = .returned (r.map (xv b scr)) → ∀ t : State, t.heap = H1 → s.WarmedH t.vm → xQc D dA b scr r h' (vs.map (xv b scr)).toArray s oc t := fun oc hoc t ht _ => ⟨hoc, by rw [ht]; exact hr1, by rw [ht]; exact hS1.1, fun q hq => by
      rw [ht]
      exact hS1.2.1 q (by rw [hrep.1]; omega) (Nat.not_le.mpr hq)⟩
    obtain ⟨k, i, len, a, b0⟩ := I
    dsimp only at hd hc hln hcase
    rcases hcase with ⟨rfl, rfl⟩ | ⟨rfl, v, rfl, hv⟩
    · obtain rfl : len = 1 := by simpa [xlnk] using hln
      simp only [xck, Bool.and_eq_true, decide_eq_true_eq] at hc
      obtain ⟨rfl, hre⟩ := hc
      exact W.vret B.exec B.bytes (hret.trans hre) (hq _ rfl) hS1.2.2 hd
    · obtain rfl : len = 1 := by simpa [xlnk] using hln
      simp only [xck] at hc
      unfold xrt at hv
      split at hv
      · simp only [Bool.and_eq_true, decide_eq_true_eq] at hc
        obtain ⟨rfl, hre⟩ := hc
        exact W.iret B.exec B.bytes (hret.trans hre) (hq _ rfl) hS1.2.2 hd
      · rename_i x
        simp only [Bool.and_eq_true, decide_eq_true_eq] at hc
        obtain ⟨rfl, hre⟩ := hc
        refine W.zret B.exec B.bytes (hret.trans hre) ?_ (hq _ rfl) hS1.2.2 hd
        simp only [Bool.or_eq_true, beq_iff_eq] at hv
        rcases hv with rfl | rfl <;> decide
      · simp only [Bool.and_eq_true, decide_eq_true_eq] at hc
        obtain ⟨rfl, hre⟩ := hc
        exact W.lret B.exec B.bytes (hret.trans hre) (hq _ rfl) hS1.2.2 hd
      · simp only [Bool.and_eq_true, decide_eq_true_eq] at hc
        obtain ⟨rfl, hre⟩ := hc
        split at hre
        · rename_i C hC2
          exact W.aret B.exec B.bytes (hret.trans hC2) (Or.inl ⟨_, rfl⟩) (Or.inl rfl) (hq _ rfl) hS1.2.2 hd
        · cases hre
      · simp only [Bool.and_eq_true, decide_eq_true_eq] at hc
        obtain ⟨rfl, hre⟩ := hc
        split at hre
        · rename_i C hC2
          exact W.aret B.exec B.bytes (hret.trans hC2) (Or.inl ⟨_, rfl⟩) (Or.inr ⟨_, rfl⟩) (hq _ rfl) hS1.2.2 hd
        · cases hre
      · cases hv
