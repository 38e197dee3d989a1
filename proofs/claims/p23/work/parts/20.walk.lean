/-! the walk of a method's body, its calls by contract; every method by induction on the length of the run -/
theorem xsl_len (b scr : Nat) : ∀ vs : List Value, (lg_sl (vs.map (xv b scr))).length = (xsl vs).length
  | [] => rfl
  | v :: vs => by
    have ih := xsl_len b scr vs
    unfold lg_sl xsl at ih ⊢
    simp only [List.map_cons, List.flatMap_cons, List.length_append, xv_cat]
    rw [ih]
    split <;> rfl
theorem xargs_mem (b scr : Nat) : ∀ (vs : List Value) (k i : Nat) (v : Value), (xsl vs)[i]? = some (some v) → (k + i, xv b scr v) ∈ lv_args k (vs.map (xv b scr))
  | [], k, i, v, h => by simp [xsl] at h
  | u :: vs, k, i, v, h => by
    have hsl : xsl (u :: vs) = (if u.category = 2 then [some u, none] else [some u]) ++ xsl vs := rfl
    rw [hsl] at h
    show _ ∈ (k, xv b scr u) :: lv_args (if (xv b scr u).category = 2 then k + 2 else k + 1) (vs.map (xv b scr))
    rw [xv_cat]
    by_cases hc : u.category = 2
    · rw [if_pos hc] at h ⊢
      match i, h with
      | 0, h => cases h; exact List.mem_cons_self
      | 1, h => cases h
      | i + 2, h =>
        have h : (xsl vs)[i]? = some (some v) := h
        have := xargs_mem b scr vs (k + 2) i v h
        rw [show k + 2 + i = k + (i + 2) by omega] at this
        exact List.mem_cons_of_mem _ this
    · rw [if_neg hc] at h ⊢
      match i, h with
      | 0, h => cases h; exact List.mem_cons_self
      | i + 1, h =>
        have h : (xsl vs)[i]? = some (some v) := h
        have := xargs_mem b scr vs (k + 1) i v h
        rw [show k + 1 + i = k + (i + 1) by omega] at this
        exact List.mem_cons_of_mem _ this
theorem xent_ok {b scr n : Nat} {vs : List Value} (h : (xsl vs).length ≤ n) : xlv b scr ((lg_sl (vs.map (xv b scr)) ++ List.replicate (n - (lg_sl (vs.map (xv b scr))).length) Slot.unset).toArray) n (xent n vs) := by
  refine ⟨by unfold xent; rw [List.length_append, List.length_replicate]; omega, ?_⟩
  refine lv_less (lv_entry (vs.map (xv b scr)) (n := n) (by rw [xsl_len]; exact h)) ?_
  rintro ⟨i, w⟩ hq
  obtain ⟨v, hv, rfl⟩ := xas_mem.mp hq
  have h1 : (xent n vs)[i]? = some (some v) := by
    unfold xget at hv
    split at hv
    · rename_i u hu
      rw [hu, hv]
    · cases hv
  unfold xent at h1
  have h2 : (xsl vs)[i]? = some (some v) := by
    rcases Nat.lt_or_ge i (xsl vs).length with q | q
    · rw [List.getElem?_append_left q] at h1; exact h1
    · rw [List.getElem?_append_right q] at h1
      have := List.eq_of_mem_replicate (List.mem_of_getElem? h1)
      cases this
  have := xargs_mem b scr vs 0 i v h2
  rw [Nat.zero_add] at this
  exact this
theorem xopt_map (b scr : Nat) (r : Option Value) (st : List Value) : (r.map (xv b scr)).toList ++ st.map (xv b scr) = (r.toList ++ st).map (xv b scr) := by
  cases r <;> rfl
theorem xcl0_v {ci : Nat} {vs : List Value} {h : xH} (h0 : xcl0 2 ci vs h = true) : ∃ z As fs, vs = .ref z :: As ∧ h.2.2 z = some (.inr (ci, fs)) := by
  unfold xcl0 at h0
  split at h0
  · split at h0
    · rename_i c fs hz
      rw [Nat.eq_of_beq_eq_true h0] at hz
      exact ⟨_, _, fs, rfl, hz⟩
    · cases h0
  · cases ‹2 = 3›
  · cases ‹2 = 4›
  · cases h0
theorem xcl0_i {ci : Nat} {vs : List Value} {h : xH} (h0 : xcl0 4 ci vs h = true) : ∃ z As, vs = .ref z :: As := by
  unfold xcl0 at h0
  split at h0
  · cases ‹4 = 2›
  · cases ‹4 = 3›
  · exact ⟨_, _, rfl⟩
  · cases h0
section XW
variable {p : Program} {l : Launch} {e : Env} {R : Room} {s : State} {m : MethodId} {args : Array Value} {below : List Frame} {meth : Method} {c : Code} {H : Heap} {locs : List Loc} {cells slots : Nat} {Q : State → Prop} {cc : ByteArray} {b scr nL o j : Nat} {ls : Array Slot} {D : va_G} {dA : Nat → ClassId} {h h1 : xH} {X : Nat × (Nat → Int32)}
theorem x_ran {pc mc ms : Nat} {st0 rest : List Value} {a : Array Value} {r : Option Value} (hr : va_Run p l e R s m args below meth c H locs cells slots mc ms (F0 m pc ls st0) (rest.map (xv b scr)) (xQc D dA b scr r h1 a) (fun q => b ≤ q)) (hS : va_S (fun q => b ≤ q) s.heap H locs) (hbH : b ≤ s.heap.size)
    (kk : ∀ (H1 : Heap) (locs1 : List Loc), xrep D dA b scr h1 H1 → va_S (fun q => b ≤ q) s.heap H1 locs1 → W p l e R s m args below meth c H1 locs1 (cells + mc) (slots + ms) Q (F0 m (pc + 3) ls ((r.toList ++ rest).map (xv b scr)))) : W p l e R s m args below meth c H locs cells slots Q (F0 m pc ls st0) := by
  intro T hT X'
  obtain ⟨v, st₀, t, T', L, h0, X2, hL, e1, e2, ⟨hv, hrep, hz, hk⟩, st⟩ := hr T hT X'
  cases hv
  rw [h0] at hz hk
  obtain ⟨t2, a1, b1⟩ := kk T'.heap (locs ++ L) (by rw [e1]; exact hrep) ⟨Nat.le_trans hS.1 (by rw [e1]; exact hz), fun q q1 q2 => by rw [e1, hk q (Nat.lt_of_not_le q2)]; exact hS.2.1 q q1 q2, fun q hq => by
    rcases List.mem_append.mp hq with hh | hh
    · exact hS.2.2 q hh
    · exact hL q hh⟩ T' rfl X2
  rw [← xopt_map] at a1
  exact ⟨t2, st t2 a1, b1⟩
theorem xck_ml {k a x : Nat} (h : xckc o j k a x = true) : a < 131 ∧ (xrm a).1 + 1 ≤ (xrm j).1 ∧ 8 + ((xTab a).2.2.1 + 11) + (xrm a).2 ≤ (xrm j).2 ∧ (Cond.methodLink (xon o) x (xyn a) ∈ xG ∨ (2 < k ∧ Cond.methodLinkNest (xon o) x (xyn a) "ToldHouse" ∈ xNW)) ∧ ∃ q ∈ xmw, q.1 = a ∧ (match (generalizing := false) k with
    | 2 => Nat.beq q.2.1 0 && !(Nat.beq q.2.2.2.2.1 9999) && Nat.beq (xow a) (xTab a).2.2.2
    | 3 => Nat.beq q.2.1 1
    | _ => Nat.beq q.2.1 0 && decide ((xyn a).name = "<init>") && decide (xre a = none)) = true := by
  simp only [xckc, Bool.and_eq_true] at h
  obtain ⟨⟨⟨⟨h1, h2⟩, h3⟩, h4⟩, h5⟩ := h
  refine ⟨Nat.lt_of_succ_le (Nat.le_of_ble_eq_true h2), Nat.le_of_ble_eq_true h3, Nat.le_of_ble_eq_true h4, ?_, ?_⟩
  · obtain ⟨q, hq, h6⟩ := List.any_eq_true.mp h1
    have h7 := List.all_eq_true.mp xml_ok q hq
    simp only [Bool.and_eq_true, Bool.or_eq_true, Nat.beq_eq] at h6
    obtain ⟨⟨⟨rfl, rfl⟩, rfl⟩, h8⟩ := h6
    cases hz : Nat.beq q.2.2.2.1 0 with
    | true =>
      rw [hz] at h7
      exact Or.inl (xin_mem h7)
    | false =>
      rw [hz] at h7
      have h9 : 2 < k := by
        rcases h8 with h8 | h8
        · rw [h8] at hz; cases hz
        · exact Nat.lt_of_succ_le (Nat.le_of_ble_eq_true h8)
      exact Or.inr ⟨h9, List.mem_filter.mpr ⟨List.mem_of_getElem? (of_decide_eq_true h7), rfl⟩⟩
  · obtain ⟨q, hq, h6⟩ := List.any_eq_true.mp h5
    simp only [Bool.and_eq_true, Nat.beq_eq] at h6
    exact ⟨q, hq, h6.1, h6.2⟩
theorem xmi_use {a : Nat} (ha : a < 131) : plainName (xyn a).cls = true ∧ ((xyn a).cls ≠ "java/lang/invoke/MethodHandle" ∧ (xyn a).cls ≠ "java/lang/invoke/VarHandle") ∧ (xyn a).cls = xon (xow a) ∧ ∀ q ∈ xmw, q.1 = a → (parseMethodDescriptor (xyn a).desc).map (fun d => d.parameters.length) = some (bif Nat.beq q.2.1 0 then (xTab a).2.1 - 1 else (xTab a).2.1) := by
  have h := List.all_eq_true.mp xmi_all0 a (List.mem_range.mpr ha)
  simp only [xmi, Bool.and_eq_true] at h
  obtain ⟨⟨⟨⟨h1, h2⟩, h3⟩, h4⟩, h5⟩ := h
  refine ⟨h1, ⟨of_decide_eq_true h2, of_decide_eq_true h3⟩, of_decide_eq_true h4, fun q hq hqa => ?_⟩
  have h6 := List.all_eq_true.mp h5 q hq
  subst hqa
  simp only [Bool.or_eq_true, Bool.not_eq_true'] at h6
  rcases h6 with h6 | h6
  · have : Nat.beq q.1 q.1 = true := Nat.beq_refl _
    rw [h6] at this
    cases this
  · exact of_decide_eq_true h6
theorem xmw_use {q : Nat × Nat × Nat × Nat × Nat × Nat} (hq : q ∈ xmw) : (Nat.beq q.2.1 0 = true → Cond.instanceMethod (xyn q.1) ∈ xG) ∧ (Nat.beq q.2.1 0 = false → Cond.static (xyn q.1) ∈ xG) ∧ (Nat.beq q.2.2.2.2.1 9999 = false → Cond.selects (xyn q.1).cls (xyn q.1) (xyn q.1) ∈ xG) ∧ Cond.initialized (xyn q.1).cls ∈ xG := by
  have h := List.all_eq_true.mp xmw_ok q hq
  simp only [Bool.and_eq_true] at h
  obtain ⟨⟨h1, h2⟩, h3⟩ := h
  refine ⟨fun z => ?_, fun z => ?_, fun z => ?_, xin_mem h3⟩
  · rw [z] at h1; exact xin_mem h1
  · rw [z] at h1; exact xin_mem h1
  · rw [z] at h2; exact xin_mem h2
set_option maxHeartbeats 4000000 in
/-- a call of any kind -/
theorem x_call (hC : xCt p s m args meth c cc D dA b o j R) (hml : c.maxLocals = nL) (hX : va_X scr X.1 X.2 s s.heap) (hsc : scr < b) {I : xI} {pc : Nat} {L : List (Option Value)} {vs rest : List Value} {r : Option Value} (hk : I.1 = 2 ∨ I.1 = 3 ∨ I.1 = 4) (hd : decode cc pc = .ok (I.2.1, I.2.2.1)) (hc : xck o j pc I = true) (hln : xlnk I.1 I.2.2.1 = true)
    (hn : vs.length = (xTab I.2.2.2.1).2.1) (hcat : xcat rest ≤ 8) (h0 : xcl0 I.1 (xTab I.2.2.2.1).2.2.2 vs h = true) (hM : I.2.2.2.1 < 131 → xMet l D dA b scr X I.2.2.2.1 vs h r h1)
    (hl : xlv b scr ls nL L) (hr : xrep D dA b scr h H) (hS : va_S (fun q => b ≤ q) s.heap H locs) (hcl : cells + (h1.1 - h.1) ≤ R.cells) (hsl : slots + (h1.2.1 - h.2.1) ≤ R.slots)
    (kk : ∀ (H1 : Heap) (locs1 : List Loc), xrep D dA b scr h1 H1 → va_S (fun q => b ≤ q) s.heap H1 locs1 → W p l e R s m args below meth c H1 locs1 (cells + (h1.1 - h.1)) (slots + (h1.2.1 - h.2.1)) Q (F0 m (pc + 3) ls ((r.toList ++ rest).map (xv b scr)))) : W p l e R s m args below meth c H locs cells slots Q (F0 m pc ls ((vs.reverse ++ rest).map (xv b scr))) := by
  obtain ⟨hx, hb, hown, hnm, hts, hK, hbs, hfr, hlo⟩ := hC
  obtain ⟨k, i, len, a, b0⟩ := I
  dsimp only at *
  obtain rfl : len = 3 := by rcases hk with rfl | rfl | rfl <;> simpa [xlnk] using hln
  have hXH : va_X scr X.1 X.2 s H := hX.kept (hS.2.1 scr (Nat.lt_of_lt_of_le hsc hbs) (Nat.not_le.mpr hsc))
  have hpre : ∀ U : State, U.heap = H → s.WarmedH U.vm → xPc D dA b scr X vs h (vs.map (xv b scr)).toArray U := fun U hU hW => ⟨rfl, by rw [hU]; exact hr, xKx.warm hW hK, by rw [hU]; exact va_X.moved hW.alike hXH⟩
  have hroom : ∀ v : List Value, xcat v ≤ 8 → 2 * (F0 m pc ls ((vs.reverse ++ rest).map (xv b scr))).monitorRoom + ((v.map (xv b scr)).map fun v => v.category).sum ≤ 8 := fun v hv => by
    show 2 * 0 + _ ≤ 8
    rw [xcat_map]; omega
  have F : CallFix p m c cc nL s args xG (xon o) := ⟨hx, hb, hml, hown, hts⟩
  rcases hk with rfl | rfl | rfl
  · simp only [xck] at hc
    split at hc
    · rename_i x
      obtain ⟨ha, hf1, hf2, hlk, q, hq, rfl, hqk⟩ := xck_ml hc
      simp only [Bool.and_eq_true, Bool.not_eq_true'] at hqk
      obtain ⟨⟨q1, q2⟩, q3⟩ := hqk
      obtain ⟨i1, i2, i3, i4⟩ := xmi_use ha
      obtain ⟨w1, w2, w3, w4⟩ := xmw_use hq
      have hlk : Cond.methodLink (xon o) x (xyn q.1) ∈ xG := hlk.elim id (fun z => absurd z.1 (by omega))
      obtain ⟨z, As, fs, rfl, hz⟩ := xcl0_v h0
      · · have hci : (xTab q.1).2.2.2 = xow q.1 := (Nat.eq_of_beq_eq_true q3).symm
          rw [hci] at hz
          have hci10 : xow q.1 < 10 := by
            obtain ⟨r', hr', -⟩ := (hr.at hz) 0 _ rfl
            exact (List.getElem?_eq_some_iff.mp hr').1
          have hrec := va_recv hK.1 (hr.at hz) (xvw hci10) (q0 := 0) (fs := fs.map (xv b scr)) rfl
          have hn' : (As.map (xv b scr)).length = (xTab q.1).2.1 - 1 := by
            rw [List.length_map, ← hn]; rfl
          have hcb : CallB R s args (xon o) x (xyn q.1) (xby q.1) (xTab q.1).2.2.1 (xre q.1) (xws q.1) { frames := (xrm q.1).1, cells := h1.1 - h.1, slots := h1.2.1 - h.2.1, locals := (xrm q.1).2 } (h1.1 - h.1) (h1.2.1 - h.2.1) ((xTab q.1).2.1 - 1) :=
            callB_of _ hts (xG_good ha) rfl rfl rfl (hts _ w4) (hts _ hlk) ⟨i2.1, i2.2, by rw [i4 q hq rfl, q1]; rfl⟩ ⟨Nat.le_trans hf1 hfr, Nat.le_trans hf2 hlo⟩
          have e1 : ((Value.ref z :: As).reverse ++ rest).map (xv b scr) = (As.map (xv b scr)).reverse ++ .ref (b + z) :: rest.map (xv b scr) := by
            simp [List.map_reverse, xv]
          rw [e1]
          refine x_ran (va_runV (C := (xyn q.1).cls) (b := b + z) (As := As.map (xv b scr)) F (hM ha) ⟨hcb, hts _ (w1 q1), hts _ (w3 q2)⟩ ⟨xPc_blind, by rw [i3]; exact hrec, hpre⟩ rfl hn' hl.2.1 rfl ?_ hd ⟨hcl, hsl⟩) hS hbs kk
          show 2 * 0 + _ ≤ 8
          rw [xcat_map]; omega
    · cases hc
  · simp only [xck] at hc
    split at hc
    · rename_i x
      obtain ⟨ha, hf1, hf2, hlk, q, hq, rfl, q1⟩ := xck_ml hc
      have q1 : Nat.beq q.2.1 0 = false := by
        have := Nat.eq_of_beq_eq_true q1
        rw [this]; rfl
      obtain ⟨i1, i2, i3, i4⟩ := xmi_use ha
      obtain ⟨w1, w2, w3, w4⟩ := xmw_use hq
      have hn' : (vs.map (xv b scr)).length = (xTab q.1).2.1 := by rw [List.length_map, hn]
      have hd' : (parseMethodDescriptor (xyn q.1).desc).map (fun d => d.parameters.length) = some (xTab q.1).2.1 := by rw [i4 q hq rfl, q1]; rfl
      have e1 : (vs.reverse ++ rest).map (xv b scr) = (vs.map (xv b scr)).reverse ++ rest.map (xv b scr) := by
        simp [List.map_reverse]
      rw [e1]
      rcases hlk with hlk | ⟨-, hlk⟩
      · refine x_ran (va_runS (As := vs.map (xv b scr)) F (hM ha) ⟨callB_of _ hts (xG_good ha) rfl rfl rfl (hts _ w4) (hts _ hlk) ⟨i2.1, i2.2, hd'⟩ ⟨Nat.le_trans hf1 hfr, Nat.le_trans hf2 hlo⟩, hts _ (w2 q1)⟩ ⟨xPc_blind, hpre⟩ rfl hn' hl.2.1 rfl ?_ hd ⟨hcl, hsl⟩) hS hbs kk
        show 2 * 0 + _ ≤ 8
        rw [xcat_map]; omega
      · refine x_ran (va_runSN (As := vs.map (xv b scr)) F (hM ha) ⟨va_cnB _ hts (xG_good ha) rfl rfl rfl (hK.2 _ hlk) (hts _ w4) ⟨i2.1, i2.2, hd'⟩ ⟨Nat.le_trans hf1 hfr, Nat.le_trans hf2 hlo⟩, hts _ (w2 q1), trivial⟩ ⟨xPc_blind, hpre⟩ rfl hn' hl.2.1 rfl ?_ hd ⟨hcl, hsl⟩) hS hbs kk
        show 2 * 0 + _ ≤ 8
        rw [xcat_map]; omega
    · cases hc
  · simp only [xck] at hc
    split at hc
    · rename_i x
      obtain ⟨ha, hf1, hf2, hlk, q, hq, rfl, hqk⟩ := xck_ml hc
      have hqk : (Nat.beq q.2.1 0 && decide ((xyn q.1).name = "<init>") && decide (xre q.1 = none)) = true := hqk
      simp only [Bool.and_eq_true, decide_eq_true_eq] at hqk
      obtain ⟨⟨q1, q2⟩, q3⟩ := hqk
      obtain ⟨i1, i2, i3, i4⟩ := xmi_use ha
      obtain ⟨w1, w2, w3, w4⟩ := xmw_use hq
      obtain ⟨z, As, rfl⟩ := xcl0_i h0
      · have hn' : (As.map (xv b scr)).length = (xTab q.1).2.1 - 1 := by
          rw [List.length_map, ← hn]; rfl
        have hd' : (parseMethodDescriptor (xyn q.1).desc).map (fun d => d.parameters.length) = some ((xTab q.1).2.1 - 1) := by rw [i4 q hq rfl, q1]; rfl
        have e1 : ((Value.ref z :: As).reverse ++ rest).map (xv b scr) = (As.map (xv b scr)).reverse ++ .ref (b + z) :: rest.map (xv b scr) := by
          simp [List.map_reverse, xv]
        have hw : xws q.1 = Cond.code (xyn q.1) (xby q.1) (xTab q.1).2.2.1 none :: xG := by unfold xws; rw [q3]
        rw [e1]
        rcases hlk with hlk | ⟨-, hlk⟩
        · refine x_ran (va_runI (b := b + z) (As := As.map (xv b scr)) F (hM ha) ⟨callB_of _ hts (xG_good ha) hw rfl rfl (hts _ w4) (hts _ hlk) ⟨i2.1, i2.2, hd'⟩ ⟨Nat.le_trans hf1 hfr, Nat.le_trans hf2 hlo⟩, q2, hts _ (w1 q1)⟩ ⟨xPc_blind, hpre⟩ rfl hn' hl.2.1 rfl ?_ hd ⟨hcl, hsl⟩) hS hbs kk
          show 2 * 0 + _ ≤ 8
          rw [xcat_map]; omega
        · refine x_ran (va_runIN (b := b + z) (As := As.map (xv b scr)) F (hM ha) ⟨va_cnB _ hts (xG_good ha) hw rfl rfl (hK.2 _ hlk) (hts _ w4) ⟨i2.1, i2.2, hd'⟩ ⟨Nat.le_trans hf1 hfr, Nat.le_trans hf2 hlo⟩, q2, hts _ (w1 q1)⟩ ⟨xPc_blind, hpre⟩ rfl hn' hl.2.1 rfl ?_ hd ⟨hcl, hsl⟩) hS hbs kk
          show 2 * 0 + _ ≤ 8
          rw [xcat_map]; omega
    · cases hc
end XW
