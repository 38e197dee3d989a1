/-! CLASS AND MODEL IN STEP -/
def cDw (h : xH) (A : Nat → Nat → Int32) (M D : Nat) (a : Nat → Nat) (gd : Nat → Option Nat) (da tl : Nat → Nat) (gl : Nat → Nat → Option Nat) (lq : Nat → Nat → Nat) (cv : Nat → Nat → Value) (lg en un : Nat → Nat) : Prop :=
  (h.2.2 11 = some (.inl (5, 10, .inr (.inr gd)))) ∧
  (∀ d, d < D → gd d = some (da d)) ∧
  (∀ d, d < D → h.2.2 (da d) = some (.inr (1, [.int (nI (1 + d)), .int (A 70 d), .int (nI (lg d)), .int (nI (en d)), .int (nI (un d)), .ref (tl d)]))) ∧
  (∀ d, d < D → h.2.2 (tl d) = some (.inl (8, 4, .inr (.inr (gl d))))) ∧
  (∀ d, d < D → A 71 d = nI (lg d) ∧ A 72 d = nI (en d) ∧ A 73 d = nI (un d) ∧ lg d ≤ 4 ∧ en d ≤ lg d ∧ un d ≤ en d) ∧
  (∀ d k, d < D → k < lg d → gl d k = some (lq d k) ∧ h.2.2 (lq d k) = some (.inr (4, [.int (A 74 (4 * d + k)), .int (A 75 (4 * d + k)), cv d k]))) ∧
  (∀ d k, d < D → k < en d → ∃ x, x < M ∧ A 76 (4 * d + k) = nI x ∧ cv d k = .ref (a x)) ∧
  (∀ d k, d < D → en d ≤ k → k < 4 → A 76 (4 * d + k) = -1 ∧ (k < lg d → cv d k = .null)) ∧
  (∀ d e, d < D → e < D → da d = da e → d = e) ∧
  (∀ d e, d < D → e < D → tl d = tl e → d = e) ∧
  (∀ d e k j, d < D → e < D → k < lg d → j < lg e → lq d k = lq e j → d = e ∧ k = j) ∧
  (∀ d k, d < D → k < lg d → isAm (A 75 (4 * d + k)))
theorem cDw.f1 {h : xH} {A : Nat → Nat → Int32} {M D : Nat} {a : Nat → Nat} {gd : Nat → Option Nat} {da tl : Nat → Nat} {gl : Nat → Nat → Option Nat} {lq : Nat → Nat → Nat} {cv : Nat → Nat → Value} {lg en un : Nat → Nat} (z : cDw h A M D a gd da tl gl lq cv lg en un) : h.2.2 11 = some (.inl (5, 10, .inr (.inr gd))) := z.1
theorem cDw.f2 {h : xH} {A : Nat → Nat → Int32} {M D : Nat} {a : Nat → Nat} {gd : Nat → Option Nat} {da tl : Nat → Nat} {gl : Nat → Nat → Option Nat} {lq : Nat → Nat → Nat} {cv : Nat → Nat → Value} {lg en un : Nat → Nat} (z : cDw h A M D a gd da tl gl lq cv lg en un) : ∀ d, d < D → gd d = some (da d) := z.2.1
theorem cDw.f3 {h : xH} {A : Nat → Nat → Int32} {M D : Nat} {a : Nat → Nat} {gd : Nat → Option Nat} {da tl : Nat → Nat} {gl : Nat → Nat → Option Nat} {lq : Nat → Nat → Nat} {cv : Nat → Nat → Value} {lg en un : Nat → Nat} (z : cDw h A M D a gd da tl gl lq cv lg en un) : ∀ d, d < D → h.2.2 (da d) = some (.inr (1, [.int (nI (1 + d)), .int (A 70 d), .int (nI (lg d)), .int (nI (en d)), .int (nI (un d)), .ref (tl d)])) := z.2.2.1
theorem cDw.f4 {h : xH} {A : Nat → Nat → Int32} {M D : Nat} {a : Nat → Nat} {gd : Nat → Option Nat} {da tl : Nat → Nat} {gl : Nat → Nat → Option Nat} {lq : Nat → Nat → Nat} {cv : Nat → Nat → Value} {lg en un : Nat → Nat} (z : cDw h A M D a gd da tl gl lq cv lg en un) : ∀ d, d < D → h.2.2 (tl d) = some (.inl (8, 4, .inr (.inr (gl d)))) := z.2.2.2.1
theorem cDw.f5 {h : xH} {A : Nat → Nat → Int32} {M D : Nat} {a : Nat → Nat} {gd : Nat → Option Nat} {da tl : Nat → Nat} {gl : Nat → Nat → Option Nat} {lq : Nat → Nat → Nat} {cv : Nat → Nat → Value} {lg en un : Nat → Nat} (z : cDw h A M D a gd da tl gl lq cv lg en un) : ∀ d, d < D → A 71 d = nI (lg d) ∧ A 72 d = nI (en d) ∧ A 73 d = nI (un d) ∧ lg d ≤ 4 ∧ en d ≤ lg d ∧ un d ≤ en d := z.2.2.2.2.1
theorem cDw.f6 {h : xH} {A : Nat → Nat → Int32} {M D : Nat} {a : Nat → Nat} {gd : Nat → Option Nat} {da tl : Nat → Nat} {gl : Nat → Nat → Option Nat} {lq : Nat → Nat → Nat} {cv : Nat → Nat → Value} {lg en un : Nat → Nat} (z : cDw h A M D a gd da tl gl lq cv lg en un) : ∀ d k, d < D → k < lg d → gl d k = some (lq d k) ∧ h.2.2 (lq d k) = some (.inr (4, [.int (A 74 (4 * d + k)), .int (A 75 (4 * d + k)), cv d k])) := z.2.2.2.2.2.1
theorem cDw.f7 {h : xH} {A : Nat → Nat → Int32} {M D : Nat} {a : Nat → Nat} {gd : Nat → Option Nat} {da tl : Nat → Nat} {gl : Nat → Nat → Option Nat} {lq : Nat → Nat → Nat} {cv : Nat → Nat → Value} {lg en un : Nat → Nat} (z : cDw h A M D a gd da tl gl lq cv lg en un) : ∀ d k, d < D → k < en d → ∃ x, x < M ∧ A 76 (4 * d + k) = nI x ∧ cv d k = .ref (a x) := z.2.2.2.2.2.2.1
theorem cDw.f8 {h : xH} {A : Nat → Nat → Int32} {M D : Nat} {a : Nat → Nat} {gd : Nat → Option Nat} {da tl : Nat → Nat} {gl : Nat → Nat → Option Nat} {lq : Nat → Nat → Nat} {cv : Nat → Nat → Value} {lg en un : Nat → Nat} (z : cDw h A M D a gd da tl gl lq cv lg en un) : ∀ d k, d < D → en d ≤ k → k < 4 → A 76 (4 * d + k) = -1 ∧ (k < lg d → cv d k = .null) := z.2.2.2.2.2.2.2.1
theorem cDw.f9 {h : xH} {A : Nat → Nat → Int32} {M D : Nat} {a : Nat → Nat} {gd : Nat → Option Nat} {da tl : Nat → Nat} {gl : Nat → Nat → Option Nat} {lq : Nat → Nat → Nat} {cv : Nat → Nat → Value} {lg en un : Nat → Nat} (z : cDw h A M D a gd da tl gl lq cv lg en un) : ∀ d e, d < D → e < D → da d = da e → d = e := z.2.2.2.2.2.2.2.2.1
theorem cDw.g1 {h : xH} {A : Nat → Nat → Int32} {M D : Nat} {a : Nat → Nat} {gd : Nat → Option Nat} {da tl : Nat → Nat} {gl : Nat → Nat → Option Nat} {lq : Nat → Nat → Nat} {cv : Nat → Nat → Value} {lg en un : Nat → Nat} (z : cDw h A M D a gd da tl gl lq cv lg en un) : ∀ d e, d < D → e < D → tl d = tl e → d = e := z.2.2.2.2.2.2.2.2.2.1
theorem cDw.g2 {h : xH} {A : Nat → Nat → Int32} {M D : Nat} {a : Nat → Nat} {gd : Nat → Option Nat} {da tl : Nat → Nat} {gl : Nat → Nat → Option Nat} {lq : Nat → Nat → Nat} {cv : Nat → Nat → Value} {lg en un : Nat → Nat} (z : cDw h A M D a gd da tl gl lq cv lg en un) : ∀ d e k j, d < D → e < D → k < lg d → j < lg e → lq d k = lq e j → d = e ∧ k = j := z.2.2.2.2.2.2.2.2.2.2.1
theorem cDw.g3 {h : xH} {A : Nat → Nat → Int32} {M D : Nat} {a : Nat → Nat} {gd : Nat → Option Nat} {da tl : Nat → Nat} {gl : Nat → Nat → Option Nat} {lq : Nat → Nat → Nat} {cv : Nat → Nat → Value} {lg en un : Nat → Nat} (z : cDw h A M D a gd da tl gl lq cv lg en un) : ∀ d k, d < D → k < lg d → isAm (A 75 (4 * d + k)) := z.2.2.2.2.2.2.2.2.2.2.2
/-- the doings -/
def cDg (h : xH) (A : Nat → Nat → Int32) (M D : Nat) (a : Nat → Nat) : Prop := ∃ gd da tl gl lq cv lg en un, cDw h A M D a gd da tl gl lq cv lg en un
/-- the senders -/
def cSn (h : xH) (B : Nat → Nat → Int64) : Prop := (∃ gs, h.2.2 12 = some (.inl (6, 4, .inr (.inr gs))) ∧ ∀ s, s < 4 → gs s = some (53 + s)) ∧ ∀ s, s < 4 → ∃ gn g cn, h.2.2 (53 + s) = some (.inr (6, [.int g, .int cn])) ∧ snR gn g cn (fun i => B 78 (32 * s + i)) ∧ B 77 s = Int64.ofNat gn
/-- the views -/
def cVw (h : xH) (A : Nat → Nat → Int32) (V : Nat) : Prop := ∃ (gv : Nat → Option Nat) (va : Nat → Nat), h.2.2 10 = some (.inl (4, 4, .inr (.inr gv))) ∧ (∀ v, v < V → gv v = some (va v)) ∧ (∀ v, v < V → h.2.2 (va v) = some (.inr (7, [.int (A 66 v), .int (A 67 v), .int (A 68 v)]))) ∧ ∀ v w, v < V → w < V → va v = va w → v = w
/-- doings, senders and views are left alone -/
def fX (h h' : xH) : Prop := ∀ p e, h.2.2 p = some e → (∀ c fs, e = .inr (c, fs) → c = 1 ∨ c = 4 ∨ c = 6 ∨ c = 7) → (∀ t n k, e = .inl (t, n, k) → t = 4 ∨ t = 5 ∨ t = 6 ∨ t = 8) → h'.2.2 p = some e
theorem fX.o {h h' : xH} (f : fX h h') {p c : Nat} {fs : List Value} (he : h.2.2 p = some (.inr (c, fs))) (hc : c = 1 ∨ c = 4 ∨ c = 6 ∨ c = 7) : h'.2.2 p = some (.inr (c, fs)) := f p _ he (fun _ _ z => by cases z; exact hc) (fun _ _ _ z => by cases z)
theorem fX.a {h h' : xH} (f : fX h h') {p t n : Nat} {k : xK} (he : h.2.2 p = some (.inl (t, n, k))) (hc : t = 4 ∨ t = 5 ∨ t = 6 ∨ t = 8) : h'.2.2 p = some (.inl (t, n, k)) := f p _ he (fun _ _ z => by cases z) (fun _ _ _ z => by cases z; exact hc)
theorem fX.rf {h : xH} : fX h h := fun _ _ he _ _ => he
theorem fX.tr {h1 h2 h3 : xH} (a : fX h1 h2) (b : fX h2 h3) : fX h1 h3 := fun p e he q1 q2 => b p e (a p e he q1 q2) q1 q2
theorem fW.fx {h h' : xH} (f : fW h h') : fX h h' := fun p e he q1 q2 => f p e he (fun c fs z => by have := q1 c fs z; omega) (fun t n k z => by have := q2 t n k z; omega)
theorem hEx.fx {h h' : xH} (f : hEx h h') : fX h h' := fun p e he _ _ => f p e he
/-- a cell of the class isn't one of the model's -/
theorem mC_ne {S : Nat → Int32} {A : Nat → Nat → Int32} {B : Nat → Nat → Int64} {h : xH} (hm : mC S A B h) {p : Nat} {e : xE} (he : h.2.2 p = some e) (h1 : ∀ c fs, e = .inr (c, fs) → c ≠ 9) (h2 : ∀ t n k, e = .inl (t, n, k) → 3 ≤ t) : ¬ mRg p := by
  rintro ⟨h3, h4⟩
  by_cases hz : p = 57
  · subst hz
    rw [hm.1] at he
    cases he
    exact h1 _ _ rfl rfl
  · by_cases hl : p ∈ mL
    · rw [hm.2.2 p hl] at he
      cases he
      exact absurd (h2 _ _ _ rfl) (by decide)
    · have hq : p ∈ mQ := by
        simp only [mL, List.mem_cons, List.not_mem_nil, or_false] at hl
        simp only [mQ, List.mem_cons, List.not_mem_nil, or_false]
        omega
      rw [hm.2.1 p hq] at he
      cases he
      have := h2 _ _ _ rfl
      unfold mtg at this
      split at this <;> omega
theorem mC_fx {S : Nat → Int32} {A : Nat → Nat → Int32} {B : Nat → Nat → Int64} {h h' : xH} (hm : mC S A B h) (ho : rO mRg h h') : fX h h' := fun p e he q1 q2 => by
  rw [ho p (mC_ne hm he (fun c fs z => by have := q1 c fs z; omega) (fun t n k z => by have := q2 t n k z; omega))]
  exact he
theorem cX1_mo {S : Nat → Int32} {A : Nat → Nat → Int32} {B : Nat → Nat → Int64} {M : Nat} {a : Nat → Nat} {h h' : xH} (hm : mC S A B h) (ho : rO mRg h h') (hX : cX1 h A M a) : cX1 h' A M a := by
  obtain ⟨⟨T, hS⟩, ⟨⟨a1, a2, a3, a4, a5, a6, a7, s8, j6⟩, j7, g8, g9, j8, j9, jz⟩, hd⟩ := hX
  have e : ∀ p, p < 57 → h'.2.2 p = h.2.2 p := fun p hp => ho p (fun z => by have := z.1; omega)
  refine ⟨⟨T, ?_⟩, ⟨⟨a1, a2, a3, a4, a5, a6, a7, s8, (e 6 (by decide)).trans j6⟩, (e 7 (by decide)).trans j7, g8, g9, (e 8 (by decide)).trans j8, (e 9 (by decide)).trans j9, jz⟩, hd⟩
  have hT := cS_T hS
  refine cS_keep hS (fun _ _ => rfl) (fun p e he _ _ _ _ q1 q2 => ?_) ?_ (fun i hi => ?_)
  · rw [ho p (mC_ne hm he (fun c fs z => by have := q2 c fs z; omega) (fun t n k z => by have := q1 t n k z; omega))]
    exact he
  · obtain ⟨Vv, Mv, hc⟩ := hS.2.2.2.2.1
    refine ⟨Vv, Mv, fun n hn => ?_⟩
    rw [ho _ (mC_ne hm (hc n hn) (fun c fs z => by cases z; decide) (fun t n k z => by cases z))]
    exact hc n hn
  · obtain ⟨len, g, q⟩ := hT i hi
    exact ⟨ne_aa q j8 (by decide), ne_aa q j9 (by decide)⟩
/-- all but the rows of the class, where their cells and the model's are as they were -/
theorem cDg_k {h h' : xH} {A A' : Nat → Nat → Int32} {M M' D : Nat} {a a' : Nat → Nat} (hd : cDg h A M D a) (f : fX h h') (hM : M ≤ M') (ha : ∀ x, x < M → a' x = a x) (hA : ∀ q, q ∈ [70, 71, 72, 73, 74, 75, 76] → A' q = A q) : cDg h' A' M' D a' := by
  obtain ⟨gd, da, tl, gl, lq, cv, lg, en, un, hd⟩ := hd
  refine ⟨gd, da, tl, gl, lq, cv, lg, en, un, f.a hd.f1 (by decide), hd.f2, fun d hq => ?_, fun d hq => f.a (hd.f4 d hq) (by decide), fun d hq => ?_, fun d k hq hk => ?_, fun d k hq hk => ?_, fun d k hq h1 h2 => ?_, hd.f9, hd.g1, hd.g2, fun d k hq hk => by rw [hA 75 (by decide)]; exact hd.g3 d k hq hk⟩
  · rw [hA 70 (by decide)]; exact f.o (hd.f3 d hq) (by decide)
  · rw [hA 71 (by decide), hA 72 (by decide), hA 73 (by decide)]; exact hd.f5 d hq
  · rw [hA 74 (by decide), hA 75 (by decide)]; exact ⟨(hd.f6 d k hq hk).1, f.o (hd.f6 d k hq hk).2 (by decide)⟩
  · obtain ⟨x, q1, q2, q3⟩ := hd.f7 d k hq hk
    rw [hA 76 (by decide)]
    exact ⟨x, by omega, q2, by rw [ha x q1]; exact q3⟩
  · rw [hA 76 (by decide)]; exact hd.f8 d k hq h1 h2
theorem cSn_k {h h' : xH} {B B' : Nat → Nat → Int64} (hd : cSn h B) (f : fX h h') (hB : ∀ q, q ∈ [77, 78] → B' q = B q) : cSn h' B' := by
  obtain ⟨⟨gs, h1, h2⟩, h3⟩ := hd
  refine ⟨⟨gs, f.a h1 (by decide), h2⟩, fun s hs => ?_⟩
  obtain ⟨gn, g, cn, q1, q2, q3⟩ := h3 s hs
  rw [hB 77 (by decide), hB 78 (by decide)]
  exact ⟨gn, g, cn, f.o q1 (by decide), q2, q3⟩
theorem cVw_k {h h' : xH} {A A' : Nat → Nat → Int32} {V : Nat} (hd : cVw h A V) (f : fX h h') (hA : ∀ q, q ∈ [66, 67, 68] → A' q = A q) : cVw h' A' V := by
  obtain ⟨gv, va, h1, h2, h3, h4⟩ := hd
  refine ⟨gv, va, f.a h1 (by decide), h2, fun v hv => ?_, h4⟩
  rw [hA 66 (by decide), hA 67 (by decide), hA 68 (by decide)]
  exact f.o (h3 v hv) (by decide)
/-- what stands between two calls -/
def cX (h : xH) (A : Nat → Nat → Int32) (B : Nat → Nat → Int64) (M V D : Nat) (a : Nat → Nat) : Prop := cX1 h A M a ∧ cDg h A M D a ∧ cSn h B ∧ cVw h A V
def lX (i : Nat) (h : xH) : Prop := ∃ (S : Nat → Int32) (A : Nat → Nat → Int32) (B : Nat → Nat → Int64) (M V D : Nat) (a : Nat → Nat), cI (2 * i) (S 2) (nI V) (nI D) h ∧ mC S A B h ∧ mJ S A M V D ∧ h.1 ≤ 79 + 1030 * i ∧ h.2.1 ≤ 9000 + 8300 * i ∧ rH cRg h ∧ cX h A B M V D a
/-- rows of the class as they were, all else too -/
theorem cX1_A {h : xH} {A A' : Nat → Nat → Int32} {M : Nat} {a : Nat → Nat} (hX : cX1 h A M a) (hA : ∀ i, i < 10 * M → A' 58 i = A 58 i) : cX1 h A' M a := by
  obtain ⟨⟨T, hS⟩, hj, hd⟩ := hX
  exact ⟨⟨T, cS_A hS hA⟩, hj, fun s hs => dI_A hA (hd s hs)⟩
theorem mKp.in {q : Nat} {l : List Nat} (h : q ∈ l) (hl : l.all (fun p => !([60, 61, 62, 64, 65, 69].any (fun r => Nat.beq p r))) = true) : q ∉ [60, 61, 62, 64, 65, 69] := by
  have := List.all_eq_true.mp hl q h
  intro hz
  simp only [List.mem_cons, List.not_mem_nil, or_false] at hz
  rcases hz with rfl | rfl | rfl | rfl | rfl | rfl <;> simp at this
/-- a read of the model -/
theorem cX_kp {S S' : Nat → Int32} {A A' : Nat → Nat → Int32} {B B' : Nat → Nat → Int64} {M V D : Nat} {a : Nat → Nat} {h h' : xH} (hX : cX h A B M V D a) (hm : mC S A B h) (ho : rO mRg h h') (k : mKp S A B S' A' B') : cX h' A' B' M V D a := by
  obtain ⟨h1, h2, h3, h4⟩ := hX
  have f := mC_fx hm ho
  exact ⟨cX1_A (cX1_mo hm ho h1) (fun i _ => by rw [k.2.1 58 (by decide)]), cDg_k h2 f (Nat.le_refl _) (fun _ _ => rfl) (fun q hq => k.2.1 q (mKp.in hq rfl)), cSn_k h3 f (fun q hq => k.2.2 q (by revert hq; simp only [List.mem_cons, List.not_mem_nil, or_false]; omega)), cVw_k h4 f (fun q hq => k.2.1 q (mKp.in hq rfl))⟩
theorem mJ_kp {S S' : Nat → Int32} {A A' : Nat → Nat → Int32} {B B' : Nat → Nat → Int64} {M V D : Nat} (hj : mJ S A M V D) (k : mKp S A B S' A' B') : mJ S' A' M V D := ⟨mI_f hj.1 (fun q hq => k.1 q (by revert hq; simp only [List.mem_cons, List.not_mem_nil, or_false]; omega)) (fun i _ => by rw [k.2.1 58 (by decide)]) (fun q hq => k.2.1 q (mKp.in hq rfl)), (k.1 4 (by decide)).trans hj.2⟩
/-- a call with all that it keeps -/
theorem okM_all {X : Nat × (Nat → Int32)} {j : Nat} {vs : List Value} {h : xH} {P : Option Value → xH → Prop} {R : Nat → Prop} (hj : j < 132) (hA : xal j = false ∨ ∀ n, 79 ≤ n → R n) (hH : rH R h) (hv : rs R vs) (hW : xWF h) (hM : okM X j vs h P) : okM X j vs h (fun v h' => P v h' ∧ rH R h' ∧ rO R h h' ∧ xkq (xwf j) (xwt j) (xmk j) h h' ∧ (xal j = false → h'.1 = h.1 ∧ h'.2.1 = h.2.1)) := by
  obtain ⟨n, r, h', h1, h2⟩ := hM
  obtain ⟨a1, -, a3⟩ := xrun_loc hj hA hH (rl_ent hv) (fun u hu => by cases hu) h1
  obtain ⟨i1, i2, i3⟩ := xrun_inv hj hW h1
  exact ⟨n, r, h', h1, h2, a1, a3, ⟨i1, i2, xrun_bk hj h1⟩, i3⟩
theorem okM_c {X : Nat × (Nat → Int32)} {j : Nat} {vs : List Value} {h : xH} {P : Option Value → xH → Prop} (hj : j < 132) (hH : rH cRg h) (hv : rs cRg vs) (hW : xWF h) (hM : okM X j vs h P) : okM X j vs h (fun v h' => P v h' ∧ rH cRg h' ∧ rO cRg h h' ∧ xkq (xwf j) (xwt j) (xmk j) h h' ∧ (xal j = false → h'.1 = h.1 ∧ h'.2.1 = h.2.1)) := okM_all hj (Or.inr (fun n hn => Or.inr (by omega))) hH hv hW hM
theorem okM_m {X : Nat × (Nat → Int32)} {j : Nat} {vs : List Value} {h : xH} {P : Option Value → xH → Prop} {S : Nat → Int32} {A : Nat → Nat → Int32} {B : Nat → Nat → Int64} (hj : j < 132) (hA : xal j = false) (hm : mC S A B h) (hs : 79 ≤ h.1) (hv : rs mRg vs) (hW : xWF h) (hM : okM X j vs h P) : okM X j vs h (fun v h' => P v h' ∧ rO mRg h h' ∧ xkq (xwf j) (xwt j) (xmk j) h h' ∧ h'.1 = h.1 ∧ h'.2.1 = h.2.1) := (okM_all hj (Or.inl hA) (hm.rh hs) hv hW hM).mono (fun _ _ q => ⟨q.1, q.2.2.1, q.2.2.2.1, q.2.2.2.2 hA⟩)
/-- the class's cells when the model has been called -/
theorem rH_mo {S : Nat → Int32} {A : Nat → Nat → Int32} {B : Nat → Nat → Int64} {h h' : xH} (hH : rH cRg h) (ho : rO mRg h h') (h1 : h'.1 = h.1) : rH cRg h' := ⟨by rw [h1]; exact hH.1, fun q e hq he => hH.2 q e hq (by rw [← ho q (fun z => by have := cRg_n.mpr z; exact this hq)]; exact he)⟩
theorem rs_c0 {l : List Value} (h : ∀ v, v ∈ l → ∃ x, v = .int x) : rs cRg (.ref 0 :: l) := fun v hv => by
  rcases List.mem_cons.mp hv with rfl | hv
  · exact Or.inl (by decide)
  · obtain ⟨x, rfl⟩ := h v hv; trivial
theorem rs_m0 {l : List Value} (h : ∀ v, v ∈ l → ∃ x, v = .int x) : rs mRg (.ref 57 :: l) := fun v hv => by
  rcases List.mem_cons.mp hv with rfl | hv
  · exact ⟨by decide, by decide⟩
  · obtain ⟨x, rfl⟩ := h v hv; trivial
