/-! WHAT EVERY RUN KEEPS: cells stay what they are, references point where their types say, only written fields change -/
def xany (l : List Nat) (k : Nat) : Bool := l.any (fun p => Nat.beq p k)
/-- between two heaps: objects keep their class, and the fields that aren't in w; arrays keep tag and length, and their contents if their tag isn't in t -/
def xfr (w t : List Nat) (h h' : xH) : Prop := h.1 ≤ h'.1 ∧ h.2.1 ≤ h'.2.1 ∧ ∀ q e, h.2.2 q = some e → match e with
  | .inr (a, fs) => ∃ fs', h'.2.2 q = some (.inr (a, fs')) ∧ fs'.length = fs.length ∧ ∀ b, xany w (100 * a + b) = false → fs'[b]? = fs[b]?
  | .inl (g, n, c) => ∃ c', h'.2.2 q = some (.inl (g, n, c')) ∧ (xany t (min g 3) = false → c' = c)
theorem xfr.rf {w t : List Nat} {h : xH} : xfr w t h h := by
  refine ⟨Nat.le_refl _, Nat.le_refl _, fun q e he => ?_⟩
  rcases e with ⟨g, n, c⟩ | ⟨a, fs⟩
  · exact ⟨c, he, fun _ => rfl⟩
  · exact ⟨fs, he, rfl, fun _ _ => rfl⟩
theorem xfr.tr {w t : List Nat} {h1 h2 h3 : xH} (a : xfr w t h1 h2) (b : xfr w t h2 h3) : xfr w t h1 h3 := by
  refine ⟨Nat.le_trans a.1 b.1, Nat.le_trans a.2.1 b.2.1, fun q e he => ?_⟩
  have h4 := a.2.2 q e he
  rcases e with ⟨g, n, c⟩ | ⟨a, fs⟩
  · obtain ⟨c', h5, h6⟩ := h4
    obtain ⟨c'', h7, h8⟩ := b.2.2 q _ h5
    exact ⟨c'', h7, fun z => (h8 z).trans (h6 z)⟩
  · obtain ⟨fs', h5, h6, h6'⟩ := h4
    obtain ⟨fs'', h7, h8, h8'⟩ := b.2.2 q _ h5
    exact ⟨fs'', h7, h8.trans h6, fun k z => (h8' k z).trans (h6' k z)⟩
theorem xfr.wk {w w' t t' : List Nat} {h h' : xH} (a : xfr w t h h') (hw : ∀ k, xany w k = true → xany w' k = true) (ht : ∀ k, xany t k = true → xany t' k = true) : xfr w' t' h h' := by
  have key : ∀ {l l' : List Nat}, (∀ k, xany l k = true → xany l' k = true) → ∀ k, xany l' k = false → xany l k = false := by
    intro l l' hl k hk
    cases hz : xany l k with
    | false => rfl
    | true => rw [hl k hz] at hk; cases hk
  refine ⟨a.1, a.2.1, fun q e he => ?_⟩
  have h4 := a.2.2 q e he
  rcases e with ⟨g, n, c⟩ | ⟨a, fs⟩
  · obtain ⟨c', h5, h6⟩ := h4
    exact ⟨c', h5, fun z => h6 (key ht _ z)⟩
  · obtain ⟨fs', h5, h6, h7⟩ := h4
    exact ⟨fs', h5, h6, fun k z => h7 k (key hw _ z)⟩
/-- a cell is what its types say -/
def xwe (h : xH) (e : xE) : Prop := match e with
  | .inr (a, fs) => fs.length = xfn a ∧ ∀ b v, fs[b]? = some v → fits (xfty a b) v = true ∧ xrok h (xfcl a b) v = true
  | .inl (t, _, .inl _) => t = 0 ∨ t = 2
  | .inl (t, _, .inr (.inl _)) => t = 1
  | .inl (t, _, .inr (.inr g)) => (3 ≤ t ∧ t < 9) ∧ ∀ i q, g i = some q → ∃ fs, h.2.2 q = some (.inr (xoc t, fs))
def xWF (h : xH) : Prop := ∀ q e, h.2.2 q = some e → q < h.1 ∧ xwe h e
theorem xrok_fr {w t : List Nat} {h h' : xH} {k : Nat} {v : Value} (a : xfr w t h h') (hv : xrok h k v = true) : xrok h' k v = true := by
  cases v with
  | ref q =>
    unfold xrok at hv ⊢
    dsimp only at hv ⊢
    cases he : h.2.2 q with
    | none => rw [he] at hv; cases hv
    | some e =>
      rw [he] at hv
      have h4 := a.2.2 q e he
      rcases e with ⟨g, n, c⟩ | ⟨ci, fs⟩
      · obtain ⟨c', h5, -⟩ := h4
        rw [h5]; exact hv
      · obtain ⟨fs', h5, -⟩ := h4
        rw [h5]; exact hv
  | _ => rfl
theorem xwe_fr {w t : List Nat} {h h' : xH} {e : xE} (a : xfr w t h h') (he : xwe h e) : xwe h' e := by
  rcases e with ⟨g, n, c | c | c⟩ | ⟨ci, fs⟩
  · exact he
  · exact he
  · refine ⟨he.1, fun i q hq => ?_⟩
    obtain ⟨fs, hf⟩ := he.2 i q hq
    obtain ⟨fs', h5, -⟩ := a.2.2 q _ hf
    exact ⟨fs', h5⟩
  · exact ⟨he.1, fun b v hv => ⟨(he.2 b v hv).1, xrok_fr a (he.2 b v hv).2⟩⟩
theorem xput_fr {w t : List Nat} {h : xH} {q : Nat} {e e' : xE} (he : h.2.2 q = some e) (hk : match e with
    | .inr (a, fs) => ∃ fs', e' = .inr (a, fs') ∧ fs'.length = fs.length ∧ ∀ b, xany w (100 * a + b) = false → fs'[b]? = fs[b]?
    | .inl (g, n, c) => ∃ c', e' = .inl (g, n, c') ∧ (xany t (min g 3) = false → c' = c)) : xfr w t h (xput h q e') := by
  refine ⟨Nat.le_refl _, Nat.le_refl _, fun p x hx => ?_⟩
  by_cases hp : p = q
  · subst hp
    rw [he] at hx
    cases hx
    have h2 : (xput h p e').2.2 p = some e' := by simp [xput, xup]
    rcases e with ⟨g, n, c⟩ | ⟨a, fs⟩
    · obtain ⟨c', rfl, h3⟩ := hk
      exact ⟨c', h2, h3⟩
    · obtain ⟨fs', rfl, h3⟩ := hk
      exact ⟨fs', h2, h3⟩
  · have h2 : (xput h q e').2.2 p = some x := by simp [xput, xup, hp, hx]
    rcases x with ⟨g, n, c⟩ | ⟨a, fs⟩
    · exact ⟨c, h2, fun _ => rfl⟩
    · exact ⟨fs, h2, rfl, fun _ _ => rfl⟩
theorem xnew_fr {w t : List Nat} {h : xH} {n : Nat} {e : xE} (hW : xWF h) : xfr w t h (xnew h n e) := by
  refine ⟨Nat.le_succ _, Nat.le_add_right _ _, fun p x hx => ?_⟩
  have hp : p ≠ h.1 := Nat.ne_of_lt (hW p x hx).1
  have h2 : (xnew h n e).2.2 p = some x := by simp [xnew, xup, hp, hx]
  rcases x with ⟨g, n, c⟩ | ⟨a, fs⟩
  · exact ⟨c, h2, fun _ => rfl⟩
  · exact ⟨fs, h2, rfl, fun _ _ => rfl⟩
theorem xput_wf {w t : List Nat} {h : xH} {q : Nat} {e e' : xE} (hW : xWF h) (he : h.2.2 q = some e) (hf : xfr w t h (xput h q e')) (hn : xwe h e') : xWF (xput h q e') := by
  intro p x hx
  by_cases hp : p = q
  · subst hp
    have h2 : (xput h p e').2.2 p = some e' := by simp [xput, xup]
    rw [h2] at hx
    cases hx
    exact ⟨(hW p e he).1, xwe_fr hf hn⟩
  · have h2 : (xput h q e').2.2 p = h.2.2 p := by simp [xput, xup, hp]
    rw [h2] at hx
    exact ⟨(hW p x hx).1, xwe_fr hf (hW p x hx).2⟩
theorem xnew_wf {h : xH} {n : Nat} {e : xE} (hW : xWF h) (hn : xwe h e) : xWF (xnew h n e) := by
  have hf : xfr [] [] h (xnew h n e) := xnew_fr hW
  intro p x hx
  by_cases hp : p = h.1
  · subst hp
    have h2 : (xnew h n e).2.2 h.1 = some e := by simp [xnew, xup]
    rw [h2] at hx
    cases hx
    exact ⟨Nat.lt_succ_self _, xwe_fr hf hn⟩
  · have h2 : (xnew h n e).2.2 p = h.2.2 p := by simp [xnew, xup, hp]
    rw [h2] at hx
    exact ⟨Nat.lt_succ_of_lt (hW p x hx).1, xwe_fr hf (hW p x hx).2⟩
theorem xfs_wf {h : xH} {a : Nat} (ha : a < 10) : xwe h (.inr (a, xfs a)) := by
  refine ⟨by simp [xfs], fun b v hv => ?_⟩
  have hb : b < xfn a := by
    have := (List.getElem?_eq_some_iff.mp hv).1
    simpa [xfs] using this
  have hv : defaultValue (xfty a b) = v := by simpa [xfs, hb] using hv
  subst hv
  have ht := xtok_all ha hb
  cases hty : xfty a b <;> rw [hty] at ht <;> first | (cases ht; done) | exact ⟨rfl, rfl⟩
theorem xst_inv {X : Nat × (Nat → Int32)} {I : xI} {f : xF} {h : xH} {g : xF × xH} {j : Nat} (hW : xWF h) (hw : xwk j I = true) (hs : xst X I f h = some g) : xWF g.2 ∧ xfr (xwf j) (xwt j) h g.2 ∧ (xal j = false → g.2.1 = h.1 ∧ g.2.2.1 = h.2.1) := by
  have key : ∀ y : Option xF, y.map (fun g => (g, h)) = some g → xWF g.2 ∧ xfr (xwf j) (xwt j) h g.2 ∧ (xal j = false → g.2.1 = h.1 ∧ g.2.2.1 = h.2.1) := fun y hy => by
    rw [(xmap_some (f := f) hy).2]
    exact ⟨hW, xfr.rf, fun _ => ⟨rfl, rfl⟩⟩
  have same : g.2 = h → xWF g.2 ∧ xfr (xwf j) (xwt j) h g.2 ∧ (xal j = false → g.2.1 = h.1 ∧ g.2.2.1 = h.2.1) := fun hy => by
    rw [hy]
    exact ⟨hW, xfr.rf, fun _ => ⟨rfl, rfl⟩⟩
  obtain ⟨k, i, len, a0, b0⟩ := I
  unfold xst at hs
  dsimp only at hs
  split at hs
  all_goals first
    | exact key _ hs
    | skip
  · cases hs; exact same rfl
  · cases hs; exact same rfl
  · unfold xq0 at hs
    split at hs
    · repeat' split at hs
      all_goals first
        | (cases hs; done)
        | (cases hs; exact same rfl)
    · split at hs
      · rename_i v q r _
        split at hs
        · rename_i ci fs hq
          split at hs
          · rename_i hc
            obtain ⟨rfl, hl, hv, hr⟩ := hc
            cases hs
            have hf : xfr (xwf j) (xwt j) h (xput h q (.inr (ci, fs.set b0 v))) := xput_fr hq ⟨_, rfl, List.length_set, fun b hb => ?_⟩
            · refine ⟨xput_wf hW hq hf ?_, hf, fun _ => ⟨rfl, rfl⟩⟩
              have h0 := (hW q _ hq).2
              refine ⟨by rw [List.length_set]; exact h0.1, fun b u hu => ?_⟩
              by_cases hbb : b = b0
              · subst hbb
                rw [List.getElem?_set_self hl] at hu
                cases hu
                exact ⟨hv, hr⟩
              · rw [List.getElem?_set_ne (Ne.symm hbb)] at hu
                exact h0.2 b u hu
            · refine List.getElem?_set_ne (fun hbb => ?_)
              subst hbb
              simp only [xwk, Bool.and_eq_true] at hw
              rw [show (xwf j).any (fun p => Nat.beq p (100 * ci + b0)) = xany (xwf j) (100 * ci + b0) from rfl, hb] at hw
              cases hw.1.1.1
          · cases hs
        · cases hs
      · cases hs
    · cases hs
      simp only [xwk, Bool.and_eq_true] at hw
      refine ⟨xnew_wf hW (xfs_wf (Nat.lt_of_succ_le (Nat.le_of_ble_eq_true hw.2))), xnew_fr hW, fun hz => ?_⟩
      rw [hw.1] at hz; cases hz
    · simp only [xwk] at hw
      repeat' split at hs
      all_goals first
        | (cases hs; done)
        | (cases hs; exact ⟨xnew_wf hW (Or.inl rfl), xnew_fr hW, fun hz => by rw [hw] at hz; cases hz⟩)
        | (cases hs; exact ⟨xnew_wf hW (Or.inr rfl), xnew_fr hW, fun hz => by rw [hw] at hz; cases hz⟩)
        | (cases hs; exact ⟨xnew_wf hW rfl, xnew_fr hW, fun hz => by rw [hw] at hz; cases hz⟩)
    · simp only [xwk, Bool.and_eq_true] at hw
      repeat' split at hs
      all_goals first
        | (cases hs; done)
        | (cases hs; exact ⟨xnew_wf hW ⟨⟨Nat.le_of_ble_eq_true hw.1.2, Nat.lt_of_succ_le (Nat.le_of_ble_eq_true hw.2)⟩, fun i q hq => by cases hq⟩, xnew_fr hW, fun hz => by rw [hw.1.1] at hz; cases hz⟩)
    · repeat' split at hs
      all_goals first
        | (cases hs; done)
        | (cases hs; exact same rfl)
    · cases hs
  · unfold xq1 at hs
    repeat' split at hs
    all_goals first
      | (cases hs; done)
      | (cases hs; exact same rfl)
  · unfold xq2 at hs
    split at hs
    · rename_i v jj q r _
      split at hs
      · rename_i t n c hq
        split at hs
        · split at hs
          · repeat' split at hs
            all_goals first
              | (cases hs; done)
              | skip
            rename_i ht
            subst ht
            cases hs
            have hf : ∀ c', xfr (xwf j) (xwt j) h (xput h q (.inl (0, n, c'))) := fun c' => xput_fr hq ⟨_, rfl, fun hz => by
              simp only [xwk] at hw
              rw [show (xwt j).any (fun p => Nat.beq p 0) = xany (xwt j) (min 0 3) from rfl, hz] at hw
              cases hw⟩
            exact ⟨xput_wf hW hq (hf _) (hW q _ hq).2, hf _, fun _ => ⟨rfl, rfl⟩⟩
          · repeat' split at hs
            all_goals first
              | (cases hs; done)
              | skip
            rename_i ht
            subst ht
            cases hs
            have hf : ∀ c', xfr (xwf j) (xwt j) h (xput h q (.inl (2, n, c'))) := fun c' => xput_fr hq ⟨_, rfl, fun hz => by
              simp only [xwk] at hw
              rw [show (xwt j).any (fun p => Nat.beq p 2) = xany (xwt j) (min 2 3) from rfl, hz] at hw
              cases hw⟩
            exact ⟨xput_wf hW hq (hf _) (hW q _ hq).2, hf _, fun _ => ⟨rfl, rfl⟩⟩
          · repeat' split at hs
            all_goals first
              | (cases hs; done)
              | skip
            rename_i ht
            subst ht
            cases hs
            have hf : ∀ c', xfr (xwf j) (xwt j) h (xput h q (.inl (1, n, c'))) := fun c' => xput_fr hq ⟨_, rfl, fun hz => by
              simp only [xwk] at hw
              rw [show (xwt j).any (fun p => Nat.beq p 1) = xany (xwt j) (min 1 3) from rfl, hz] at hw
              cases hw⟩
            exact ⟨xput_wf hW hq (hf _) (hW q _ hq).2, hf _, fun _ => ⟨rfl, rfl⟩⟩
          · have h3 : xany (xwt j) 3 = true := hw
            have hf : ∀ c', 3 ≤ t → xfr (xwf j) (xwt j) h (xput h q (.inl (t, n, c'))) := fun c' ht => xput_fr hq ⟨_, rfl, fun hz => by
              rw [show min t 3 = 3 by omega, h3] at hz
              cases hz⟩
            split at hs
            · split at hs
              · rename_i ht
                cases hs
                refine ⟨xput_wf hW hq (hf _ ht.1) ⟨ht, ?_⟩, hf _ ht.1, fun _ => ⟨rfl, rfl⟩⟩
                intro i p hp
                unfold va_up at hp
                split at hp
                · cases hp
                · exact (hW q _ hq).2.2 i p hp
              · cases hs
            · split at hs
              · rename_i p _ ci fs hp0
                split at hs
                · rename_i ht
                  obtain ⟨ht1, ht2, rfl⟩ := ht
                  cases hs
                  refine ⟨xput_wf hW hq (hf _ ht1) ⟨⟨ht1, ht2⟩, ?_⟩, hf _ ht1, fun _ => ⟨rfl, rfl⟩⟩
                  intro i p' hp
                  unfold va_up at hp
                  split at hp
                  · cases hp; exact ⟨fs, hp0⟩
                  · exact (hW q _ hq).2.2 i p' hp
                · cases hs
              · cases hs
            · cases hs
          · cases hs
        · cases hs
      · cases hs
    · cases hs
  · repeat' split at hs
    all_goals first
      | (cases hs; done)
      | (cases hs; exact same rfl)
  · repeat' split at hs
    all_goals first
      | (cases hs; done)
      | (cases hs; exact same rfl)
  · repeat' split at hs
    all_goals first
      | (cases hs; done)
      | (cases hs; exact same rfl)
  · cases hs
theorem xany_sub {l l' : List Nat} (h : l.all (fun q => l'.any (fun p => Nat.beq p q)) = true) : ∀ k, xany l k = true → xany l' k = true := by
  intro k hk
  obtain ⟨q, hq, hk⟩ := List.any_eq_true.mp hk
  have := List.all_eq_true.mp h q hq
  rw [Nat.eq_of_beq_eq_true hk] at this
  exact this
/-- every run keeps the heap in order and writes what its table says -/
theorem xrun_inv {X : Nat × (Nat → Int32)} : ∀ {n j : Nat} {f : xF} {h : xH} {r : Option Value} {h' : xH}, j < 132 → xWF h → xrun X n (xTab j).1 f h = some (r, h') → xWF h' ∧ xfr (xwf j) (xwt j) h h' ∧ (xal j = false → h'.1 = h.1 ∧ h'.2.1 = h.2.1)
  | 0, _, _, _, _, _, _, _, hs => by cases hs
  | n + 1, j, f, h, r, h', hj, hW, hs => by
    obtain ⟨I, hI, ⟨-, -, -, rfl⟩ | ⟨-, v, -, -, -, rfl⟩ | ⟨vs, rest, v, h1, hk, -, -, -, -, -, hr, hs⟩ | ⟨g, hg, hs⟩⟩ := xrun_cases hs
    · exact ⟨hW, xfr.rf, fun _ => ⟨rfl, rfl⟩⟩
    · exact ⟨hW, xfr.rf, fun _ => ⟨rfl, rfl⟩⟩
    · have hw := xwk_at hj hI
      have hw : ((xwf I.2.2.2.1).all (fun q => (xwf j).any (fun p => Nat.beq p q)) && (xwt I.2.2.2.1).all (fun q => (xwt j).any (fun p => Nat.beq p q)) && (xal j || !(xal I.2.2.2.1)) && Nat.blt I.2.2.2.1 132) = true := by
        obtain ⟨k, i, len, a0, b0⟩ := I
        dsimp only at hk hw ⊢
        rcases hk with rfl | rfl | rfl <;> exact hw
      simp only [Bool.and_eq_true, Bool.or_eq_true, Bool.not_eq_true'] at hw
      obtain ⟨⟨⟨w1, w2⟩, w3⟩, w4⟩ := hw
      obtain ⟨a1, a2, a3⟩ := xrun_inv (Nat.lt_of_succ_le (Nat.le_of_ble_eq_true w4)) hW hr
      obtain ⟨b1, b2, b3⟩ := xrun_inv hj a1 hs
      refine ⟨b1, (a2.wk (xany_sub w1) (xany_sub w2)).tr b2, fun hz => ?_⟩
      have hz2 : xal I.2.2.2.1 = false := w3.elim (fun z => by rw [z] at hz; cases hz) id
      exact ⟨(b3 hz).1.trans (a3 hz2).1, (b3 hz).2.trans (a3 hz2).2⟩
    · obtain ⟨a1, a2, a3⟩ := xst_inv hW (xwk_at hj hI) hg
      obtain ⟨b1, b2, b3⟩ := xrun_inv hj a1 hs
      exact ⟨b1, a2.tr b2, fun hz => ⟨(b3 hz).1.trans (a3 hz).1, (b3 hz).2.trans (a3 hz).2⟩⟩
