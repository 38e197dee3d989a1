/-! RULES for the model's cells -/
def mP (S : Nat → Int32) (k : Nat) (v : Int32) : Nat → Int32 := fun i => if i = k then v else S i
def mU (A : Nat → Nat → Int32) (q i : Nat) (x : Int32) : Nat → Nat → Int32 := fun p => if p = q then upd (A q) i x else A p
theorem mP_s {S : Nat → Int32} {k : Nat} {v : Int32} : mP S k v k = v := by simp [mP]
theorem mP_n {S : Nat → Int32} {k i : Nat} {v : Int32} (h : i ≠ k) : mP S k v i = S i := by simp [mP, h]
theorem mU_s {A : Nat → Nat → Int32} {q i : Nat} {x : Int32} : mU A q i x q i = x := by simp [mU, upd]
theorem mU_q {A : Nat → Nat → Int32} {q i j : Nat} {x : Int32} (h : j ≠ i) : mU A q i x q j = A q j := by simp [mU, upd, h]
theorem mU_n {A : Nat → Nat → Int32} {q p i : Nat} {x : Int32} (h : p ≠ q) : mU A q i x p = A p := by simp [mU, h]
theorem mQ_ne {q : Nat} (h : q ∈ mQ) : q ≠ 57 ∧ q ∉ mL := by
  simp only [mQ, List.mem_cons, List.not_mem_nil, or_false] at h
  rcases h with rfl | rfl | rfl | rfl | rfl | rfl | rfl | rfl | rfl | rfl | rfl | rfl | rfl | rfl | rfl | rfl | rfl | rfl <;> decide
section OK
variable {X : Nat × (Nat → Int32)} {C : xC} {pc : Nat} {L : List (Option Value)} {st : List Value} {h : xH} {Q P : Option Value → xH → Prop} {S : Nat → Int32} {A : Nat → Nat → Int32} {B : Nat → Nat → Int64}
theorem m_pf {x k : Nat} {v : Int32} (hI : xlk2 C pc = some (20, .putfield x, 3, 9, k)) (hW : xWF h) (hm : mC S A B h) (hk : k < 30) (hty : xfty 9 k = .int) (hS : ∀ v, (mF S).set k (.int v) = mF (mP S k v))
    (kk : ∀ h1, xkq [900 + k] [] [] h h1 → mC (mP S k v) A B h1 → h1.1 = h.1 ∧ h1.2.1 = h.2.1 → ok X C (pc + 3, L, st) h1 Q) : ok X C (pc, L, .int v :: .ref 57 :: st) h Q := by
  refine ok_pf hI hW hm.1 hk (by rw [hty]; rfl) rfl ?_
  intro h1 k1 hp s og
  rw [hS v] at hp
  refine kk h1 k1 ⟨hp, fun q hq => ?_, fun q hq => ?_⟩ s
  · rw [og q (mQ_ne hq).1]; exact hm.2.1 q hq
  · rw [og q (fun e => by rw [e] at hq; revert hq; decide)]; exact hm.2.2 q hq
theorem m_il {a b q : Nat} {j : Int32} (hI : xlk2 C pc = some (21, .iaload, 1, a, b)) (hm : mC S A B h) (hq : q ∈ mQ) (ht : mtg q = 0) (hj : xIn j (mlen q)) (kk : ok X C (pc + 1, L, .int (A q j.toNatClampNeg) :: st) h Q) : ok X C (pc, L, .int j :: .ref q :: st) h Q := by
  have h1 := hm.2.1 q hq
  rw [ht] at h1
  refine ok_go (g := (pc + 1, L, .int (A q j.toNatClampNeg) :: st)) (h1 := h) hI rfl ?_ kk
  simp [xst, xq1, h1, hj]
theorem m_bl {a b q : Nat} {j : Int32} (hI : xlk2 C pc = some (21, .baload, 1, a, b)) (hm : mC S A B h) (hq : q ∈ mQ) (ht : mtg q = 2) (hj : xIn j (mlen q)) (kk : ok X C (pc + 1, L, .int (A q j.toNatClampNeg) :: st) h Q) : ok X C (pc, L, .int j :: .ref q :: st) h Q := by
  have h1 := hm.2.1 q hq
  rw [ht] at h1
  refine ok_go (g := (pc + 1, L, .int (A q j.toNatClampNeg) :: st)) (h1 := h) hI rfl ?_ kk
  simp [xst, xq1, h1, hj]
theorem m_upd {q t n i : Nat} {x : Int32} {tt : List Nat} (hW : xWF h) (hm : mC S A B h) (hq : q ∈ mQ) (ht : mtg q = t) (hn : mlen q = n) (htt : xany tt (min t 3) = true) : xkq [] tt [] h (xput h q (.inl (t, n, .inl (upd (A q) i x)))) ∧ mC S (mU A q i x) B (xput h q (.inl (t, n, .inl (upd (A q) i x)))) := by
  have h1 := hm.2.1 q hq
  rw [ht, hn] at h1
  have fr : xfr [] tt h (xput h q (.inl (t, n, .inl (upd (A q) i x)))) := xput_fr h1 ⟨_, rfl, fun hz => by rw [htt] at hz; cases hz⟩
  have og : ∀ p, p ≠ q → (xput h q (.inl (t, n, .inl (upd (A q) i x)))).2.2 p = h.2.2 p := fun p hp => by simp [xput, xup, hp]
  refine ⟨⟨xput_wf hW h1 fr (hW q _ h1).2, fr, xput_bk h1 (fun a' fs' e => by cases e)⟩, (og 57 (fun e => (mQ_ne hq).1 e.symm)).trans hm.1, fun p hp => ?_, fun p hp => ?_⟩
  · by_cases hpq : p = q
    · subst hpq
      rw [show (xput h p (.inl (t, n, .inl (upd (A p) i x)))).2.2 p = some (.inl (t, n, .inl (upd (A p) i x))) by simp [xput, xup], ht, hn]
      simp [mU]
    · rw [og p hpq, mU_n hpq]; exact hm.2.1 p hp
  · rw [og p (fun e => (mQ_ne hq).2 (by rw [← e]; exact hp))]; exact hm.2.2 p hp
theorem m_is {a b q : Nat} {j x : Int32} (hI : xlk2 C pc = some (22, .iastore, 1, a, b)) (hW : xWF h) (hm : mC S A B h) (hq : q ∈ mQ) (ht : mtg q = 0) (hj : xIn j (mlen q))
    (kk : ∀ h1, xkq [] [0] [] h h1 → mC S (mU A q j.toNatClampNeg x) B h1 → h1.1 = h.1 ∧ h1.2.1 = h.2.1 → ok X C (pc + 1, L, st) h1 Q) : ok X C (pc, L, .int x :: .int j :: .ref q :: st) h Q := by
  have h1 := hm.2.1 q hq
  rw [ht] at h1
  obtain ⟨u1, u2⟩ := m_upd (i := j.toNatClampNeg) (x := x) (tt := [0]) hW hm hq ht rfl rfl
  refine ok_go (h1 := xput h q (.inl (0, mlen q, .inl (upd (A q) j.toNatClampNeg x)))) hI rfl ?_ (kk _ u1 u2 ⟨rfl, rfl⟩)
  simp [xst, xq2, h1, hj]
theorem m_bs {a b q : Nat} {j x : Int32} (hI : xlk2 C pc = some (22, .bastore, 1, a, b)) (hW : xWF h) (hm : mC S A B h) (hq : q ∈ mQ) (ht : mtg q = 2) (hj : xIn j (mlen q))
    (kk : ∀ h1, xkq [] [2] [] h h1 → mC S (mU A q j.toNatClampNeg (vp_nar .boolean x)) B h1 → h1.1 = h.1 ∧ h1.2.1 = h.2.1 → ok X C (pc + 1, L, st) h1 Q) : ok X C (pc, L, .int x :: .int j :: .ref q :: st) h Q := by
  have h1 := hm.2.1 q hq
  rw [ht] at h1
  obtain ⟨u1, u2⟩ := m_upd (i := j.toNatClampNeg) (x := vp_nar .boolean x) (tt := [2]) hW hm hq ht rfl rfl
  refine ok_go (h1 := xput h q (.inl (2, mlen q, .inl (upd (A q) j.toNatClampNeg (vp_nar .boolean x))))) hI rfl ?_ (kk _ u1 u2 ⟨rfl, rfl⟩)
  simp [xst, xq2, h1, hj]
theorem m_ll {a b q : Nat} {j : Int32} (hI : xlk2 C pc = some (21, .laload, 1, a, b)) (hm : mC S A B h) (hq : q ∈ mL) (hj : xIn j (mlen q)) (kk : ok X C (pc + 1, L, .long (B q j.toNatClampNeg) :: st) h Q) : ok X C (pc, L, .int j :: .ref q :: st) h Q := by
  have h1 := hm.2.2 q hq
  refine ok_go (g := (pc + 1, L, .long (B q j.toNatClampNeg) :: st)) (h1 := h) hI rfl ?_ kk
  simp [xst, xq1, h1, hj]
def mV (B : Nat → Nat → Int64) (q i : Nat) (x : Int64) : Nat → Nat → Int64 := fun p => if p = q then vp_updL (B q) i x else B p
theorem mV_s {B : Nat → Nat → Int64} {q i : Nat} {x : Int64} : mV B q i x q i = x := by simp [mV, vp_updL]
theorem mV_q {B : Nat → Nat → Int64} {q i j : Nat} {x : Int64} (h : j ≠ i) : mV B q i x q j = B q j := by simp [mV, vp_updL, h]
theorem mV_n {B : Nat → Nat → Int64} {q p i : Nat} {x : Int64} (h : p ≠ q) : mV B q i x p = B p := by simp [mV, h]
theorem m_ls {a b q : Nat} {j : Int32} {x : Int64} (hI : xlk2 C pc = some (22, .lastore, 1, a, b)) (hW : xWF h) (hm : mC S A B h) (hq : q ∈ mL) (hj : xIn j (mlen q))
    (kk : ∀ h1, xkq [] [1] [] h h1 → mC S A (mV B q j.toNatClampNeg x) h1 → h1.1 = h.1 ∧ h1.2.1 = h.2.1 → ok X C (pc + 1, L, st) h1 Q) : ok X C (pc, L, .long x :: .int j :: .ref q :: st) h Q := by
  have h1 := hm.2.2 q hq
  have fr : xfr [] [1] h (xput h q (.inl (1, mlen q, .inr (.inl (vp_updL (B q) j.toNatClampNeg x))))) := xput_fr h1 ⟨_, rfl, fun hz => by cases hz⟩
  have og : ∀ p, p ≠ q → (xput h q (.inl (1, mlen q, .inr (.inl (vp_updL (B q) j.toNatClampNeg x))))).2.2 p = h.2.2 p := fun p hp => by simp [xput, xup, hp]
  have hq57 : ∀ p, p ∈ mL → p ≠ 57 ∧ p ∉ mQ := fun p hp => by
    simp only [mL, List.mem_cons, List.not_mem_nil, or_false] at hp
    rcases hp with rfl | rfl | rfl <;> decide
  refine ok_go (h1 := xput h q (.inl (1, mlen q, .inr (.inl (vp_updL (B q) j.toNatClampNeg x))))) hI rfl ?_ (kk _ ⟨xput_wf hW h1 fr (hW q _ h1).2, fr, xput_bk h1 (fun a' fs' e => by cases e)⟩ ⟨(og 57 (fun e => (hq57 q hq).1 e.symm)).trans hm.1, fun p hp => ?_, fun p hp => ?_⟩ ⟨rfl, rfl⟩)
  · simp [xst, xq2, h1, hj]
  · rw [og p (fun e => (hq57 q hq).2 (by rw [← e]; exact hp))]; exact hm.2.1 p hp
  · by_cases hpq : p = q
    · subst hpq
      simp [xput, xup, mV]
    · rw [og p hpq, mV_n hpq]; exact hm.2.2 p hp
end OK
theorem nIn {n N : Nat} (h : n < N) (hN : N < 2 ^ 31) : xIn (nI n) N := vp_in_iff.mp (vp_in_nI h hN)
theorem nI10 (n k : Nat) : (10 : Int32) * nI n + nI k = nI (10 * n + k) := by
  rw [show (10 : Int32) = nI 10 from rfl, pk_mul, nI_add]
/-- what of(h, what) answers -/
def mof (S : Nat → Int32) (A : Nat → Nat → Int32) (n k : Nat) : Int32 := if nI n = S 4 ∧ nI k = S 5 then A 58 (10 * n + k) ^^^ S 6 else A 58 (10 * n + k)
