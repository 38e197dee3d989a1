/-! GATHER: what it makes -/
/-- listed: of this stream, known by then -/
def mpg (S : Nat → Int32) (A : Nat → Nat → Int32) (x1 x3 : Int32) (n : Nat) : Bool := decide (A 58 (10 * n) = x1 ∧ mof S A n 7 ≤ x3)
def gA (S0 : Nat → Int32) (A0 : Nat → Nat → Int32) (x1 x3 : Int32) (S : Nat → Int32) (A : Nat → Nat → Int32) (i : Nat) : Prop := S = mP S0 13 (nI (mcn (mpg S0 A0 x1 x3) i)) ∧ (∀ q, q ≠ 60 → A q = A0 q) ∧ ∀ n, n < i → mpg S0 A0 x1 x3 n = true → A 60 (mcn (mpg S0 A0 x1 x3) n) = nI n
theorem gA_t {S0 S : Nat → Int32} {A0 A : Nat → Nat → Int32} {x1 x3 : Int32} {i : Nat} (h : gA S0 A0 x1 x3 S A i) (hp : mpg S0 A0 x1 x3 i = true) : gA S0 A0 x1 x3 (mP S 13 (nI (mcn (mpg S0 A0 x1 x3) i + 1))) (mU A 60 (mcn (mpg S0 A0 x1 x3) i) (nI i)) (i + 1) := by
  obtain ⟨rfl, h2, h3⟩ := h
  refine ⟨by rw [mP_P, mcn_t hp], fun q hq => by rw [mU_n hq]; exact h2 q hq, fun n hn hn2 => ?_⟩
  by_cases he : n = i
  · subst he; exact mU_s
  · have := mcn_lt (mpg S0 A0 x1 x3) (show n < i by omega) hn2
    rw [mU_q (by omega)]
    exact h3 n (by omega) hn2
theorem gA_f {S0 S : Nat → Int32} {A0 A : Nat → Nat → Int32} {x1 x3 : Int32} {i : Nat} (h : gA S0 A0 x1 x3 S A i) (hp : mpg S0 A0 x1 x3 i = false) : gA S0 A0 x1 x3 S A (i + 1) := by
  obtain ⟨h1, h2, h3⟩ := h
  refine ⟨by rw [mcn_f hp]; exact h1, h2, fun n hn hn2 => ?_⟩
  by_cases he : n = i
  · subst he; rw [hp] at hn2; cases hn2
  · exact h3 n (by omega) hn2
theorem gA_l {S0 S : Nat → Int32} {A0 A : Nat → Nat → Int32} {x1 x3 : Int32} {i : Nat} (h : gA S0 A0 x1 x3 S A i) : mll A (mcn (mpg S0 A0 x1 x3) i) i := fun j hj => by
  obtain ⟨n, h1, h2, rfl⟩ := mcn_hit _ _ _ hj
  exact ⟨n, h1, h.2.2 n h1 h2⟩
/-- field w of what is listed at i -/
def mok (S : Nat → Int32) (A : Nat → Nat → Int32) (i w : Nat) : Int32 := mof S A (A 60 i).toNatClampNeg w
theorem mok_A {S : Nat → Int32} {A A' : Nat → Nat → Int32} {i w : Nat} (h : A' 58 = A 58) (h2 : A' 60 = A 60) : mok S A' i w = mok S A i w := by
  unfold mok
  rw [mof_A h, h2]
/-- taken, by one that is not void itself -/
def mvd (S : Nat → Int32) (A : Nat → Nat → Int32) (V : Nat → Int32) (l i : Nat) : Prop := ∃ j, i < j ∧ j < l ∧ mok S A j 2 = 4 ∧ V j = 0 ∧ mok S A j 8 = mok S A i 1
theorem mvd_s {S : Nat → Int32} {A : Nat → Nat → Int32} {V : Nat → Int32} {j i : Nat} (hn : ¬ (mok S A j 2 = 4 ∧ V j = 0 ∧ mok S A j 8 = mok S A i 1)) : mvd S A V (j + 1) i ↔ mvd S A V j i := by
  constructor
  · rintro ⟨q, h1, h2, h3⟩
    by_cases he : q = j
    · subst he; exact absurd h3 hn
    · exact ⟨q, h1, by omega, h3⟩
  · rintro ⟨q, h1, h2, h3⟩
    exact ⟨q, h1, by omega, h3⟩
theorem mvd_c {S : Nat → Int32} {A : Nat → Nat → Int32} {V V' : Nat → Int32} {l i : Nat} (h : ∀ j, i < j → V' j = V j) : mvd S A V' l i ↔ mvd S A V l i := by
  constructor
  · rintro ⟨q, h1, h2, h3, h4, h5⟩
    exact ⟨q, h1, h2, h3, by rw [← h q h1]; exact h4, h5⟩
  · rintro ⟨q, h1, h2, h3, h4, h5⟩
    exact ⟨q, h1, h2, h3, by rw [h q h1]; exact h4, h5⟩
def gV1 (S : Nat → Int32) (A1 : Nat → Nat → Int32) (V : Nat → Int32) (l i : Nat) : Prop := (V i = 1 ∧ mvd S A1 V l i) ∨ (V i = 0 ∧ ¬ mvd S A1 V l i)
def gV (S : Nat → Int32) (A1 A : Nat → Nat → Int32) (l m : Nat) : Prop := (∀ q, q ≠ 64 → A q = A1 q) ∧ ∀ i, m ≤ i → i < l → gV1 S A1 (A 64) l i
theorem gV1_c {S : Nat → Int32} {A1 : Nat → Nat → Int32} {V V' : Nat → Int32} {l i : Nat} (h : ∀ j, i ≤ j → V' j = V j) (hv : gV1 S A1 V l i) : gV1 S A1 V' l i := by
  unfold gV1
  rw [h i (Nat.le_refl _), mvd_c (fun j hj => h j (by omega))]
  exact hv
theorem gV_u {S : Nat → Int32} {A1 A : Nat → Nat → Int32} {l i : Nat} {x : Int32} (h : gV S A1 A l (i + 1)) : gV S A1 (mU A 64 i x) l (i + 1) := by
  refine ⟨fun q hq => by rw [mU_n hq]; exact h.1 q hq, fun j h1 h2 => gV1_c (fun q hq => ?_) (h.2 j h1 h2)⟩
  rw [mU_q (by omega)]
theorem gV_0 {S : Nat → Int32} {A1 A : Nat → Nat → Int32} {l i : Nat} (h : gV S A1 A l (i + 1)) : gV S A1 (mU A 64 i 0) l (i + 1) ∧ gV1 S A1 (mU A 64 i 0 64) (i + 1) i := by
  refine ⟨gV_u h, Or.inr ⟨mU_s, ?_⟩⟩
  rintro ⟨j, h1, h2, _⟩
  omega
theorem gV_n {S : Nat → Int32} {A1 A : Nat → Nat → Int32} {j i : Nat} (h : gV1 S A1 (A 64) j i) (hn : ¬ (mok S A1 j 2 = 4 ∧ A 64 j = 0 ∧ mok S A1 j 8 = mok S A1 i 1)) : gV1 S A1 (A 64) (j + 1) i := by
  unfold gV1
  rw [mvd_s hn]
  exact h
theorem gV_y {S : Nat → Int32} {A1 A : Nat → Nat → Int32} {j i : Nat} (hij : i < j) (h : mok S A1 j 2 = 4 ∧ A 64 j = 0 ∧ mok S A1 j 8 = mok S A1 i 1) : gV1 S A1 (mU A 64 i 1 64) (j + 1) i := by
  refine Or.inl ⟨mU_s, j, hij, Nat.lt_succ_self j, h.1, ?_, h.2.2⟩
  rw [mU_q (by omega)]
  exact h.2.1
theorem gV_e {S : Nat → Int32} {A1 A : Nat → Nat → Int32} {l i : Nat} (h : gV S A1 A l (i + 1)) (h1 : gV1 S A1 (A 64) l i) : gV S A1 A l i := by
  refine ⟨h.1, fun j h2 h3 => ?_⟩
  by_cases he : j = i
  · subst he; exact h1
  · exact h.2 j (by omega) h3
/-- the last that mends i, or i -/
def mby (p : Nat → Bool) (d : Nat) : Nat → Nat
  | 0 => d
  | n + 1 => if p n then n else mby p d n
theorem mby_t {p : Nat → Bool} {d n : Nat} (h : p n = true) : mby p d (n + 1) = n := if_pos h
theorem mby_f {p : Nat → Bool} {d n : Nat} (h : p n = false) : mby p d (n + 1) = mby p d n := if_neg (by rw [h]; decide)
def mpm (S : Nat → Int32) (A : Nat → Nat → Int32) (i j : Nat) : Bool := decide (i < j ∧ mok S A j 2 = 3 ∧ A 64 j = 0 ∧ mok S A j 8 = mok S A i 1)
theorem mby_0 {p : Nat → Bool} {d : Nat} : ∀ {n}, (∀ j, j < n → p j = false) → mby p d n = d
  | 0, _ => rfl
  | n + 1, h => by rw [mby_f (h n (Nat.lt_succ_self n)), mby_0 (fun j hj => h j (by omega))]
theorem mby_i {S : Nat → Int32} {A : Nat → Nat → Int32} {i : Nat} : mby (mpm S A i) i (i + 1) = i := mby_0 (fun j hj => decide_eq_false (fun q => by have := q.1; omega))
theorem mby_lt {p : Nat → Bool} {d l : Nat} (hd : d < l) : ∀ n, n ≤ l → mby p d n < l
  | 0, _ => hd
  | n + 1, h => by
    unfold mby
    split
    · omega
    · exact mby_lt hd n (by omega)
/-- what the third loop writes at i -/
def gR1 (S : Nat → Int32) (A2 A : Nat → Nat → Int32) (B : Nat → Nat → Int64) (l i : Nat) : Prop :=
  A 65 i = (if 0 ≤ mok S A2 i 2 ∧ mok S A2 i 2 ≤ 2 ∧ A2 64 i = 0 then 1 else 0) ∧ A 61 i = mok S A2 (mby (mpm S A2 i) i l) 6 ∧ A 62 i = mok S A2 (mby (mpm S A2 i) i l) 5 ∧ B 63 i = (if mok S A2 i 2 = 2 then 0 else mrd S A2 (A2 60 (mby (mpm S A2 i) i l)).toNatClampNeg)
def gR (S : Nat → Int32) (A2 A : Nat → Nat → Int32) (B0 B : Nat → Nat → Int64) (l m : Nat) : Prop := (∀ q, q ≠ 61 → q ≠ 62 → q ≠ 65 → A q = A2 q) ∧ (∀ q, q ≠ 63 → B q = B0 q) ∧ ∀ i, i < m → gR1 S A2 A B l i
theorem gR_s {S : Nat → Int32} {A2 A : Nat → Nat → Int32} {B0 B : Nat → Nat → Int64} {l i : Nat} {v s k : Int32} {a : Int64} (h : gR S A2 A B0 B l i)
    (hv : v = (if 0 ≤ mok S A2 i 2 ∧ mok S A2 i 2 ≤ 2 ∧ A2 64 i = 0 then 1 else 0)) (hs : s = mok S A2 (mby (mpm S A2 i) i l) 6) (hk : k = mok S A2 (mby (mpm S A2 i) i l) 5) (ha : a = (if mok S A2 i 2 = 2 then 0 else mrd S A2 (A2 60 (mby (mpm S A2 i) i l)).toNatClampNeg)) : gR S A2 (mU (mU (mU A 65 i v) 62 i k) 61 i s) B0 (mV B 63 i a) l (i + 1) := by
  refine ⟨fun q h1 h2 h3 => by rw [mU_n h1, mU_n h2, mU_n h3]; exact h.1 q h1 h2 h3, fun q hq => by rw [mV_n hq]; exact h.2.1 q hq, fun j hj => ?_⟩
  by_cases he : j = i
  · subst he
    refine ⟨?_, ?_, ?_, ?_⟩
    · rw [mU_n (by decide), mU_n (by decide), mU_s]; exact hv
    · rw [mU_s]; exact hs
    · rw [mU_n (by decide), mU_s]; exact hk
    · rw [mV_s]; exact ha
  · obtain ⟨g1, g2, g3, g4⟩ := h.2.2 j (by omega)
    refine ⟨?_, ?_, ?_, ?_⟩
    · rw [mU_n (by decide), mU_n (by decide), mU_q he]; exact g1
    · rw [mU_q he, mU_n (by decide), mU_n (by decide)]; exact g2
    · rw [mU_n (by decide), mU_q he, mU_n (by decide)]; exact g3
    · rw [mV_q he]; exact g4
/-- what gather(x1, T, x3) makes of S, A, B -/
def mG (S : Nat → Int32) (A : Nat → Nat → Int32) (B : Nat → Nat → Int64) (x1 x3 : Int32) (T : Nat) (A' : Nat → Nat → Int32) (B' : Nat → Nat → Int64) : Prop :=
  ∃ A1 A2, gA S A x1 x3 (mP S 13 (nI (mcn (mpg S A x1 x3) T))) A1 T ∧ gV (mP S 13 (nI (mcn (mpg S A x1 x3) T))) A1 A2 (mcn (mpg S A x1 x3) T) 0 ∧ gR (mP S 13 (nI (mcn (mpg S A x1 x3) T))) A2 A' B B' (mcn (mpg S A x1 x3) T) (mcn (mpg S A x1 x3) T)
