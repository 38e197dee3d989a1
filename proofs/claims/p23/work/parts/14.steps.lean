/-! EACH STEP OF THE ABSTRACT MACHINE IS A STEP OF THE MACHINE -/
theorem xload_i {L : List (Option Value)} {st : List Value} {pc len i : Nat} {g : xF} (h : xload L st pc len i 0 = some g) : ∃ x, xget L i = some (.int x) ∧ g = (pc + len, L, .int x :: st) := by
  unfold xload at h
  split at h
  · rename_i x _ hx
    cases h
    exact ⟨x, hx, rfl⟩
  · cases ‹0 = 1›
  · cases ‹0 = 2›
  · cases h
theorem xload_l {L : List (Option Value)} {st : List Value} {pc len i : Nat} {g : xF} (h : xload L st pc len i 1 = some g) : ∃ x, xget L i = some (.long x) ∧ g = (pc + len, L, .long x :: st) := by
  unfold xload at h
  split at h
  · cases ‹1 = 0›
  · rename_i x _ hx
    cases h
    exact ⟨x, hx, rfl⟩
  · cases ‹1 = 2›
  · cases h
theorem xload_a {L : List (Option Value)} {st : List Value} {pc len i : Nat} {g : xF} (h : xload L st pc len i 2 = some g) : ∃ v, xget L i = some v ∧ xisref v = true ∧ g = (pc + len, L, v :: st) := by
  unfold xload at h
  split at h
  · cases ‹2 = 0›
  · cases ‹2 = 1›
  · rename_i v _ hv
    split at h
    · cases h
      exact ⟨v, hv, ‹_›, rfl⟩
    · cases h
  · cases h
theorem xstore_i {L : List (Option Value)} {st : List Value} {pc len i : Nat} {g : xF} (h : xstore L st pc len i 0 = some g) : ∃ x r, st = .int x :: r ∧ i < L.length ∧ g = (pc + len, xset1 L i (.int x), r) := by
  unfold xstore at h
  split at h
  · split at h
    · cases h
      exact ⟨_, _, rfl, ‹_›, rfl⟩
    · cases h
  · cases ‹0 = 1›
  · cases ‹0 = 2›
  · cases h
theorem xstore_l {L : List (Option Value)} {st : List Value} {pc len i : Nat} {g : xF} (h : xstore L st pc len i 1 = some g) : ∃ x r, st = .long x :: r ∧ i + 1 < L.length ∧ g = (pc + len, xset2 L i (.long x), r) := by
  unfold xstore at h
  split at h
  · cases ‹1 = 0›
  · split at h
    · cases h
      exact ⟨_, _, rfl, ‹_›, rfl⟩
    · cases h
  · cases ‹1 = 2›
  · cases h
theorem xstore_a {L : List (Option Value)} {st : List Value} {pc len i : Nat} {g : xF} (h : xstore L st pc len i 2 = some g) : ∃ v r, st = v :: r ∧ i < L.length ∧ xisref v = true ∧ g = (pc + len, xset1 L i v, r) := by
  unfold xstore at h
  split at h
  · cases ‹2 = 0›
  · cases ‹2 = 1›
  · split at h
    · split at h
      · cases h
        exact ⟨_, _, rfl, ‹_›, ‹_›, rfl⟩
      · cases h
    · cases h
  · cases h
section XW
variable {p : Program} {l : Launch} {e : Env} {R : Room} {s : State} {m : MethodId} {args : Array Value} {below : List Frame} {meth : Method} {c : Code} {H : Heap} {locs : List Loc} {cells slots : Nat} {Q : State → Prop} {cc : ByteArray} {b scr nL o j a0 b0 len : Nat} {ls : Array Slot} {i : Jvm.ClassFile.Instr}
theorem xlv.st1 {L : List (Option Value)} {ls' : Array Slot} {k : Nat} {v : Value} (hl : xlv b scr ls nL L) (h : lv_has ls' nL ((k, xv b scr v) :: (xas b scr L).filter (fun q => !(q.1 == k) && !(q.1 + 1 == k && q.2.category == 2)))) : xlv b scr ls' nL (xset1 L k v) := ⟨by rw [xset1_len]; exact hl.1, lv_less h xset1_sub⟩
theorem xlv.st2 {L : List (Option Value)} {ls' : Array Slot} {k : Nat} {v : Value} (hl : xlv b scr ls nL L) (h : lv_has ls' nL ((k, xv b scr v) :: (xas b scr L).filter (fun q => !(q.1 == k) && (!(q.1 == k + 1) && !(q.1 + 1 == k && q.2.category == 2))))) : xlv b scr ls' nL (xset2 L k v) := ⟨by rw [xset2_len]; exact hl.1, lv_less h xset2_sub⟩
set_option maxHeartbeats 4000000 in
theorem x_p0 (hx : p.tables.exec = Jvm.exec) (hb : c.code = cc) {f g : xF} (hd : decode cc f.1 = .ok (i, len)) (hc : xck o j f.1 (10, i, len, a0, b0) = true) (hs : xp0 i len f = some g) (hl : xlv b scr ls nL f.2.1)
    (kk : ∀ ls', xlv b scr ls' nL g.2.1 → W p l e R s m args below meth c H locs cells slots Q (F0 m g.1 ls' (g.2.2.map (xv b scr)))) : W p l e R s m args below meth c H locs cells slots Q (F0 m f.1 ls (f.2.2.map (xv b scr))) := by
  obtain ⟨pc, L, st⟩ := f
  dsimp only at hd hc hl ⊢
  unfold xp0 at hs
  dsimp only at hs
  split at hs
  · obtain rfl : len = 1 := by simpa [xck] using hc
    cases hs
    exact lv_iconst hx hb hd rfl (kk ls hl)
  · obtain rfl : len = 2 := by simpa [xck] using hc
    cases hs
    exact lv_bipush hx hb hd rfl (kk ls hl)
  · obtain rfl : len = 3 := by simpa [xck] using hc
    cases hs
    exact lv_sipush hx hb hd rfl (kk ls hl)
  · obtain rfl : len = 1 := by simpa [xck] using hc
    cases hs
    exact lv_lconst hx hb hd rfl (kk ls hl)
  · obtain rfl : len = 1 := by simpa [xck] using hc
    cases hs
    exact lv_null hx hb hd (kk ls hl)
  · obtain rfl : len = 2 := by simpa [xck] using hc
    obtain ⟨x, hg, rfl⟩ := xload_i hs
    exact lv_iload hx hb hd (hl.get hg) (kk ls hl)
  · obtain rfl : len = 1 := by simpa [xck] using hc
    obtain ⟨x, hg, rfl⟩ := xload_i hs
    exact lv_iload_n hx hb hd rfl (hl.get hg) (kk ls hl)
  · obtain rfl : len = 2 := by simpa [xck] using hc
    obtain ⟨x, hg, rfl⟩ := xload_l hs
    exact lv_lload hx hb hd (hl.get hg) (kk ls hl)
  · obtain rfl : len = 1 := by simpa [xck] using hc
    obtain ⟨x, hg, rfl⟩ := xload_l hs
    exact lv_lload_n hx hb hd rfl (hl.get hg) (kk ls hl)
  · obtain rfl : len = 2 := by simpa [xck] using hc
    obtain ⟨v, hg, hv, rfl⟩ := xload_a hs
    have h1 := hl.get hg
    cases v with
    | null => exact lv_aloadN hx hb hd h1 (kk ls hl)
    | ref q => exact lv_aload hx hb hd h1 (kk ls hl)
    | retAddr q => exact lv_aload hx hb hd h1 (kk ls hl)
    | _ => cases hv
  · obtain rfl : len = 1 := by simpa [xck] using hc
    obtain ⟨v, hg, hv, rfl⟩ := xload_a hs
    have h1 := hl.get hg
    cases v with
    | null => exact lv_aload_nN hx hb hd rfl h1 (kk ls hl)
    | ref q => exact lv_aload_n hx hb hd rfl h1 (kk ls hl)
    | retAddr q => exact lv_aload_n hx hb hd rfl h1 (kk ls hl)
    | _ => cases hv
  · obtain rfl : len = 2 := by simpa [xck] using hc
    obtain ⟨x, r, rfl, hi, rfl⟩ := xstore_i hs
    exact lv_istore hx hb hd hl.2 (by rw [← hl.1]; exact hi) rfl (fun ls' h' => kk ls' (hl.st1 (v := .int x) h'))
  · obtain rfl : len = 1 := by simpa [xck] using hc
    obtain ⟨x, r, rfl, hi, rfl⟩ := xstore_i hs
    exact lv_istore_n hx hb hd rfl hl.2 (by rw [← hl.1]; exact hi) rfl (fun ls' h' => kk ls' (hl.st1 (v := .int x) h'))
  · obtain rfl : len = 2 := by simpa [xck] using hc
    obtain ⟨x, r, rfl, hi, rfl⟩ := xstore_l hs
    exact lv_lstore hx hb hd hl.2 (by rw [← hl.1]; exact hi) rfl (fun ls' h' => kk ls' (hl.st2 (v := .long x) h'))
  · obtain rfl : len = 1 := by simpa [xck] using hc
    obtain ⟨x, r, rfl, hi, rfl⟩ := xstore_l hs
    exact lv_lstore_n hx hb hd rfl hl.2 (by rw [← hl.1]; exact hi) rfl (fun ls' h' => kk ls' (hl.st2 (v := .long x) h'))
  · obtain rfl : len = 2 := by simpa [xck] using hc
    obtain ⟨v, r, rfl, hi, hv, rfl⟩ := xstore_a hs
    cases v with
    | null => exact lv_astoreN hx hb hd hl.2 (by rw [← hl.1]; exact hi) rfl (fun ls' h' => kk ls' (hl.st1 (v := .null) h'))
    | ref q => exact lv_astore hx hb hd hl.2 (by rw [← hl.1]; exact hi) rfl (fun ls' h' => kk ls' (hl.st1 (v := .ref q) h'))
    | retAddr q => exact lv_astore hx hb hd hl.2 (by rw [← hl.1]; exact hi) rfl (fun ls' h' => kk ls' (hl.st1 (v := .retAddr q) h'))
    | _ => cases hv
  · obtain rfl : len = 1 := by simpa [xck] using hc
    obtain ⟨v, r, rfl, hi, hv, rfl⟩ := xstore_a hs
    cases v with
    | null => exact lv_astore_nN hx hb hd rfl hl.2 (by rw [← hl.1]; exact hi) rfl (fun ls' h' => kk ls' (hl.st1 (v := .null) h'))
    | ref q => exact lv_astore_n hx hb hd rfl hl.2 (by rw [← hl.1]; exact hi) rfl (fun ls' h' => kk ls' (hl.st1 (v := .ref q) h'))
    | retAddr q => exact lv_astore_n hx hb hd rfl hl.2 (by rw [← hl.1]; exact hi) rfl (fun ls' h' => kk ls' (hl.st1 (v := .retAddr q) h'))
    | _ => cases hv
  · obtain rfl : len = 3 := by simpa [xck] using hc
    split at hs
    · rename_i k n _ x hg
      split at hs
      · rename_i hi
        cases hs
        obtain ⟨q, hq⟩ := List.getElem?_of_mem (xas_mem.mpr ⟨_, hg, rfl⟩ : (k, xv b scr (.int x)) ∈ xas b scr L)
        exact lv_iinc hx hb hd hl.2 hq rfl (by rw [← hl.1]; exact hi) rfl (fun ls' h' => kk ls' (hl.st1 (v := .int (x + Int32.ofInt n)) h'))
      · cases hs
    · cases hs
  · cases hs
set_option maxHeartbeats 4000000 in
theorem x_p1 (hx : p.tables.exec = Jvm.exec) (hb : c.code = cc) {f g : xF} (hd : decode cc f.1 = .ok (i, len)) (hc : xck o j f.1 (11, i, len, a0, b0) = true) (hs : xp1 i f = some g) (hl : xlv b scr ls nL f.2.1)
    (kk : xlv b scr ls nL g.2.1 → W p l e R s m args below meth c H locs cells slots Q (F0 m g.1 ls (g.2.2.map (xv b scr)))) : W p l e R s m args below meth c H locs cells slots Q (F0 m f.1 ls (f.2.2.map (xv b scr))) := by
  obtain ⟨pc, L, st⟩ := f
  dsimp only at hd hc hl ⊢
  obtain rfl : len = 1 := by simpa [xck] using hc
  unfold xp1 at hs
  dsimp only at hs
  split at hs
  · split at hs
    · cases hs; exact lv_iadd hx hb hd (kk hl)
    · cases hs; exact lv_isub hx hb hd (kk hl)
    · cases hs; exact lv_imul hx hb hd (kk hl)
    · cases hs; exact lv_iand hx hb hd (kk hl)
    · cases hs; exact lv_ior hx hb hd (kk hl)
    · cases hs; exact lv_ixor hx hb hd (kk hl)
    · split at hs
      · cases hs
      · cases hs; exact lv_idiv hx hb hd ‹_› (kk hl)
    · split at hs
      · cases hs
      · cases hs; exact lv_irem hx hb hd ‹_› (kk hl)
    · cases hs; exact lv_ishl hx hb hd (kk hl)
    · cases hs; exact lv_iushr hx hb hd rfl (kk hl)
    · cases hs
  · cases hs
set_option maxHeartbeats 4000000 in
theorem x_p2 (hx : p.tables.exec = Jvm.exec) (hb : c.code = cc) {f g : xF} (hd : decode cc f.1 = .ok (i, len)) (hc : xck o j f.1 (12, i, len, a0, b0) = true) (hs : xp2 i f = some g) (hl : xlv b scr ls nL f.2.1)
    (kk : xlv b scr ls nL g.2.1 → W p l e R s m args below meth c H locs cells slots Q (F0 m g.1 ls (g.2.2.map (xv b scr)))) : W p l e R s m args below meth c H locs cells slots Q (F0 m f.1 ls (f.2.2.map (xv b scr))) := by
  obtain ⟨pc, L, st⟩ := f
  dsimp only at hd hc hl ⊢
  obtain rfl : len = 1 := by simpa [xck] using hc
  unfold xp2 at hs
  dsimp only at hs
  split at hs
  · split at hs
    · cases hs; exact lv_ladd hx hb hd (kk hl)
    · cases hs; exact lv_lsub hx hb hd (kk hl)
    · cases hs; exact lv_lmul hx hb hd (kk hl)
    · cases hs; exact lv_land hx hb hd (kk hl)
    · cases hs; exact lv_lor hx hb hd (kk hl)
    · cases hs; exact lv_lxor hx hb hd (kk hl)
    · cases hs; exact W.lcmp hx hb hd (kk hl)
    · cases hs
  · cases hs
set_option maxHeartbeats 4000000 in
theorem x_p3 (hx : p.tables.exec = Jvm.exec) (hb : c.code = cc) {f g : xF} (hd : decode cc f.1 = .ok (i, len)) (hc : xck o j f.1 (13, i, len, a0, b0) = true) (hs : xp3 i f = some g) (hl : xlv b scr ls nL f.2.1)
    (kk : xlv b scr ls nL g.2.1 → W p l e R s m args below meth c H locs cells slots Q (F0 m g.1 ls (g.2.2.map (xv b scr)))) : W p l e R s m args below meth c H locs cells slots Q (F0 m f.1 ls (f.2.2.map (xv b scr))) := by
  obtain ⟨pc, L, st⟩ := f
  dsimp only at hd hc hl ⊢
  obtain rfl : len = 1 := by simpa [xck] using hc
  unfold xp3 at hs
  dsimp only at hs
  split at hs
  · cases hs; exact lv_ineg hx hb hd (kk hl)
  · cases hs; exact lv_lneg hx hb hd (kk hl)
  · cases hs; exact lv_i2l hx hb hd rfl (kk hl)
  · cases hs; exact lv_l2i hx hb hd rfl (kk hl)
  · cases hs; exact lv_lshl hx hb hd rfl (kk hl)
  · cases hs; exact lv_lushr hx hb hd rfl (kk hl)
  · cases hs
set_option maxHeartbeats 4000000 in
theorem x_p4 (hx : p.tables.exec = Jvm.exec) (hb : c.code = cc) {f g : xF} (hd : decode cc f.1 = .ok (i, len)) (hc : xck o j f.1 (14, i, len, a0, b0) = true) (hs : xp4 i f = some g) (hl : xlv b scr ls nL f.2.1)
    (kk : xlv b scr ls nL g.2.1 → W p l e R s m args below meth c H locs cells slots Q (F0 m g.1 ls (g.2.2.map (xv b scr)))) : W p l e R s m args below meth c H locs cells slots Q (F0 m f.1 ls (f.2.2.map (xv b scr))) := by
  obtain ⟨pc, L, st⟩ := f
  dsimp only at hd hc hl ⊢
  obtain rfl : len = 1 := by simpa [xck] using hc
  unfold xp4 at hs
  dsimp only at hs
  split at hs
  · split at hs
    · split at hs
      · cases hs; exact lv_dup hx hb hd ((xv_cat b scr _).trans ‹_›) (kk hl)
      · cases hs
    · cases hs
  · split at hs
    · split at hs
      · cases hs; exact lv_pop hx hb hd ((xv_cat b scr _).trans ‹_›) (kk hl)
      · cases hs
    · cases hs
  · split at hs
    · split at hs
      · cases hs; exact lv_pop2_2 hx hb hd ((xv_cat b scr _).trans ‹_›) (kk hl)
      · cases hs
    · cases hs
  · split at hs
    · split at hs
      · rename_i h12
        cases hs; exact lv_dup2_11 hx hb hd ((xv_cat b scr _).trans h12.1) ((xv_cat b scr _).trans h12.2) (kk hl)
      · cases hs
    · cases hs
  · cases hs
end XW
