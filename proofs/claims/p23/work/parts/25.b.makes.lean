/-- the classes of which a method and what it calls make objects -/
def xmk (j : Nat) : List Nat := match j with
  | 0 => []
  | 1 => []
  | 2 => []
  | 3 => []
  | 4 => []
  | 5 => []
  | 6 => []
  | 7 => []
  | 8 => []
  | 9 => [2]
  | 10 => []
  | 11 => []
  | 12 => []
  | 13 => []
  | 14 => []
  | 15 => []
  | 16 => []
  | 17 => []
  | 18 => []
  | 19 => []
  | 20 => [0]
  | 21 => []
  | 22 => []
  | 23 => []
  | 24 => []
  | 25 => []
  | 26 => []
  | 27 => []
  | 28 => []
  | 29 => []
  | 30 => []
  | 31 => []
  | 32 => []
  | 33 => []
  | 34 => []
  | 35 => []
  | 36 => []
  | 37 => []
  | 38 => []
  | 39 => []
  | 40 => []
  | 41 => []
  | 42 => []
  | 43 => []
  | 44 => [0, 3, 5, 6]
  | 45 => []
  | 46 => [2]
  | 47 => [2]
  | 48 => [2]
  | 49 => []
  | 50 => []
  | 51 => []
  | 52 => []
  | 53 => []
  | 54 => []
  | 55 => [7]
  | 56 => []
  | 57 => []
  | 58 => []
  | 59 => []
  | 60 => [1]
  | 61 => [4]
  | 62 => []
  | 63 => [2]
  | 64 => []
  | 65 => [2]
  | 66 => []
  | 67 => [2]
  | 68 => []
  | 69 => []
  | 70 => []
  | 71 => []
  | 72 => []
  | 73 => []
  | 74 => []
  | 75 => []
  | 76 => []
  | 77 => []
  | 78 => []
  | 79 => []
  | 80 => [2]
  | 81 => []
  | 82 => [2]
  | 83 => [2]
  | 84 => []
  | 85 => []
  | 86 => []
  | 87 => []
  | 88 => []
  | 89 => []
  | 90 => []
  | 91 => []
  | 92 => []
  | 93 => []
  | 94 => []
  | 95 => []
  | 96 => []
  | 97 => []
  | 98 => []
  | 99 => []
  | 100 => []
  | 101 => []
  | 102 => []
  | 103 => []
  | 104 => []
  | 105 => []
  | 106 => []
  | 107 => []
  | 108 => []
  | 109 => []
  | 110 => []
  | 111 => []
  | 112 => []
  | 113 => []
  | 114 => []
  | 115 => []
  | 116 => []
  | 117 => []
  | 118 => []
  | 119 => []
  | 120 => []
  | 121 => []
  | 122 => []
  | 123 => []
  | 124 => []
  | 125 => []
  | 126 => []
  | 127 => []
  | 128 => []
  | 129 => []
  | 130 => []
  | 131 => [0, 1, 2, 3, 4, 5, 6, 7, 8, 9]
  | _ => []
def xmkk (j : Nat) (I : xI) : Bool := match I.1 with
  | 2 => (xmk I.2.2.2.1).all (fun q => (xmk j).any (fun p => Nat.beq p q)) && Nat.blt I.2.2.2.1 132
  | 3 => (xmk I.2.2.2.1).all (fun q => (xmk j).any (fun p => Nat.beq p q)) && Nat.blt I.2.2.2.1 132
  | 4 => (xmk I.2.2.2.1).all (fun q => (xmk j).any (fun p => Nat.beq p q)) && Nat.blt I.2.2.2.1 132
  | 20 => (match I.2.1 with
    | .new _ => (xmk j).any (fun p => Nat.beq p I.2.2.2.1)
    | _ => true)
  | _ => true
set_option maxRecDepth 100000 in
theorem xmkk_all0 : (List.range 132).all (fun j => (xall (xTab j).1).all (fun q => xmkk j q.2)) = true := by decide +kernel
theorem xmkk_at {j pc : Nat} {I : xI} (hj : j < 132) (h : xlk2 (xTab j).1 pc = some I) : xmkk j I = true := by
  have hm := xlk2_mem h
  have h3 := List.all_eq_true.mp xmkk_all0 j (List.mem_range.mpr hj)
  generalize xall (xTab j).1 = C at hm h3
  exact List.all_eq_true.mp h3 (pc, I) hm
/-- objects of other classes than m were there before -/
def xbk (m : List Nat) (h h' : xH) : Prop := ∀ q a fs', h'.2.2 q = some (.inr (a, fs')) → (∃ fs, h.2.2 q = some (.inr (a, fs))) ∨ xany m a = true
theorem xbk.rf {m : List Nat} {h : xH} : xbk m h h := fun q a fs hq => Or.inl ⟨fs, hq⟩
theorem xbk.tr {m : List Nat} {h1 h2 h3 : xH} (a : xbk m h1 h2) (b : xbk m h2 h3) : xbk m h1 h3 := by
  intro q k fs hq
  rcases b q k fs hq with ⟨fs', h4⟩ | h4
  · exact a q k fs' h4
  · exact Or.inr h4
theorem xbk.wk {m m' : List Nat} {h h' : xH} (a : xbk m h h') (hm : ∀ k, xany m k = true → xany m' k = true) : xbk m' h h' := fun q k fs hq => (a q k fs hq).imp id (hm k)
theorem xput_bk {m : List Nat} {h : xH} {q : Nat} {e e' : xE} (he : h.2.2 q = some e) (hk : ∀ a fs', e' = .inr (a, fs') → ∃ fs, e = .inr (a, fs)) : xbk m h (xput h q e') := by
  intro p a fs' hp
  by_cases hpq : p = q
  · subst hpq
    have h2 : (xput h p e').2.2 p = some e' := by simp [xput, xup]
    rw [h2] at hp
    obtain ⟨fs, rfl⟩ := hk a fs' (Option.some.inj hp)
    exact Or.inl ⟨fs, he⟩
  · have h2 : (xput h q e').2.2 p = h.2.2 p := by simp [xput, xup, hpq]
    rw [h2] at hp
    exact Or.inl ⟨fs', hp⟩
theorem xnew_bk {m : List Nat} {h : xH} {n : Nat} {e : xE} (hk : ∀ a fs', e = .inr (a, fs') → xany m a = true) : xbk m h (xnew h n e) := by
  intro p a fs' hp
  by_cases hpq : p = h.1
  · subst hpq
    have h2 : (xnew h n e).2.2 h.1 = some e := by simp [xnew, xup]
    rw [h2] at hp
    exact Or.inr (hk a fs' (Option.some.inj hp))
  · have h2 : (xnew h n e).2.2 p = h.2.2 p := by simp [xnew, xup, hpq]
    rw [h2] at hp
    exact Or.inl ⟨fs', hp⟩
theorem xst_bk {X : Nat × (Nat → Int32)} {I : xI} {f : xF} {h : xH} {g : xF × xH} {j : Nat} (hw : xmkk j I = true) (hs : xst X I f h = some g) : xbk (xmk j) h g.2 := by
  have key : ∀ y : Option xF, y.map (fun g => (g, h)) = some g → xbk (xmk j) h g.2 := fun y hy => by
    rw [(xmap_some (f := f) hy).2]
    exact xbk.rf
  obtain ⟨k, i, len, a0, b0⟩ := I
  unfold xst at hs
  dsimp only at hs
  split at hs
  all_goals first
    | exact key _ hs
    | skip
  · cases hs; exact xbk.rf
  · cases hs; exact xbk.rf
  · unfold xq0 at hs
    repeat' split at hs
    all_goals first
      | (cases hs; done)
      | (cases hs; exact xbk.rf)
      | (cases hs; exact xput_bk ‹_› (fun a fs' e => by cases e; exact ⟨_, rfl⟩))
      | (cases hs; exact xnew_bk (fun a fs' e => by cases e; exact hw))
      | (cases hs; exact xnew_bk (fun a fs' e => by cases e))
  · unfold xq1 at hs
    repeat' split at hs
    all_goals first
      | (cases hs; done)
      | (cases hs; exact xbk.rf)
  · unfold xq2 at hs
    repeat' split at hs
    all_goals first
      | (cases hs; done)
      | (cases hs; exact xput_bk ‹h.2.2 _ = some (Sum.inl _)› (fun a fs' e => by cases e))
  · repeat' split at hs
    all_goals first
      | (cases hs; done)
      | (cases hs; exact xbk.rf)
  · repeat' split at hs
    all_goals first
      | (cases hs; done)
      | (cases hs; exact xbk.rf)
  · repeat' split at hs
    all_goals first
      | (cases hs; done)
      | (cases hs; exact xbk.rf)
  · cases hs
theorem xrun_bk {X : Nat × (Nat → Int32)} : ∀ {n j : Nat} {f : xF} {h : xH} {r : Option Value} {h' : xH}, j < 132 → xrun X n (xTab j).1 f h = some (r, h') → xbk (xmk j) h h'
  | 0, _, _, _, _, _, _, hs => by cases hs
  | n + 1, j, f, h, r, h', hj, hs => by
    obtain ⟨I, hI, ⟨-, -, -, rfl⟩ | ⟨-, v, -, -, -, rfl⟩ | ⟨vs, rest, v, h1, hk, -, -, -, -, -, hr, hs⟩ | ⟨g, hg, hs⟩⟩ := xrun_cases hs
    · exact xbk.rf
    · exact xbk.rf
    · have hw := xmkk_at hj hI
      have hw : ((xmk I.2.2.2.1).all (fun q => (xmk j).any (fun p => Nat.beq p q)) && Nat.blt I.2.2.2.1 132) = true := by
        obtain ⟨k, i, len, a0, b0⟩ := I
        dsimp only at hk hw ⊢
        rcases hk with rfl | rfl | rfl <;> exact hw
      simp only [Bool.and_eq_true] at hw
      exact ((xrun_bk (Nat.lt_of_succ_le (Nat.le_of_ble_eq_true hw.2)) hr).wk (xany_sub hw.1)).tr (xrun_bk hj hs)
    · exact (xst_bk (xmkk_at hj hI) hg).tr (xrun_bk hj hs)
