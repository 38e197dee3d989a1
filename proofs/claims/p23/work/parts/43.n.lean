/-! NATURALS in the model -/
theorem nxa0 (n : Nat) : nI n + 0 = nI n := nI_add n 0
theorem nxa1 (n : Nat) : nI n + 1 = nI (n + 1) := nI_add n 1
theorem nxa2 (n : Nat) : nI n + 2 = nI (n + 2) := nI_add n 2
theorem nxa3 (n : Nat) : nI n + 3 = nI (n + 3) := nI_add n 3
theorem nxa4 (n : Nat) : nI n + 4 = nI (n + 4) := nI_add n 4
theorem nxa5 (n : Nat) : nI n + 5 = nI (n + 5) := nI_add n 5
theorem nxa6 (n : Nat) : nI n + 6 = nI (n + 6) := nI_add n 6
theorem nxa7 (n : Nat) : nI n + 7 = nI (n + 7) := nI_add n 7
theorem nxa8 (n : Nat) : nI n + 8 = nI (n + 8) := nI_add n 8
theorem nxa9 (n : Nat) : nI n + 9 = nI (n + 9) := nI_add n 9
theorem nxa10 (n : Nat) : nI n + 10 = nI (n + 10) := nI_add n 10
theorem nx4 (n : Nat) : (4 : Int32) * nI n = nI (4 * n) := pk_mul 4 n
theorem nx10 (n : Nat) : (10 : Int32) * nI n = nI (10 * n) := pk_mul 10 n
theorem nx32 (n : Nat) : (32 : Int32) * nI n = nI (32 * n) := pk_mul 32 n
theorem nxss {a b : Nat} (h : b ≤ a) : nI a - nI b = nI (a - b) := by
  obtain ⟨c, rfl⟩ := Nat.exists_eq_add_of_le h
  rw [Nat.add_sub_cancel_left, ← nI_add, Int32.add_comm, Int32.add_sub_cancel]
theorem nxs1 {a : Nat} (h : 1 ≤ a) : nI a - 1 = nI (a - 1) := nxss h
theorem nxs10 {a : Nat} (h : 10 ≤ a) : nI a - 10 = nI (a - 10) := nxss h
theorem nxof {x : Int32} (h : 0 ≤ x.toInt) : x = nI x.toInt.toNat := by
  obtain ⟨j, hj, rfl⟩ := nI_of (x := x) (by rw [Int32.lt_iff_toInt_lt]; show ¬ x.toInt < 0; omega)
  rw [nI_toInt hj]; rfl
/-- at most n in number hold p -/
def mcn (p : Nat → Bool) : Nat → Nat
  | 0 => 0
  | n + 1 => if p n then mcn p n + 1 else mcn p n
/-- the last below n that holds p, or -1 -/
def mls (p : Nat → Bool) : Nat → Int32
  | 0 => -1
  | n + 1 => if p n then nI n else mls p n
theorem mcn_le (p : Nat → Bool) : ∀ n, mcn p n ≤ n
  | 0 => Nat.le_refl _
  | n + 1 => by have := mcn_le p n; unfold mcn; split <;> omega
theorem mls_in (p : Nat → Bool) : ∀ n, mcn p n = 0 ∨ ∃ i, i < n ∧ mls p n = nI i ∧ p i = true
  | 0 => Or.inl rfl
  | n + 1 => by
    unfold mcn mls
    by_cases h : p n = true
    · rw [if_pos h]; exact Or.inr ⟨n, Nat.lt_succ_self n, if_pos h, h⟩
    · rw [if_neg h, if_neg h]
      rcases mls_in p n with h1 | ⟨i, h1, h2, h3⟩
      · exact Or.inl h1
      · exact Or.inr ⟨i, by omega, h2, h3⟩
theorem mcn_hit (p : Nat → Bool) : ∀ n m, m < mcn p n → ∃ i, i < n ∧ p i = true ∧ mcn p i = m
  | 0, m, h => by cases h
  | n + 1, m, h => by
    unfold mcn at h
    by_cases hp : p n = true
    · rw [if_pos hp] at h
      by_cases hm : m = mcn p n
      · exact ⟨n, Nat.lt_succ_self n, hp, hm.symm⟩
      · obtain ⟨i, h1, h2⟩ := mcn_hit p n m (by omega)
        exact ⟨i, by omega, h2⟩
    · rw [if_neg hp] at h
      obtain ⟨i, h1, h2⟩ := mcn_hit p n m h
      exact ⟨i, by omega, h2⟩
theorem mcn_mono (p : Nat → Bool) {a : Nat} : ∀ {b}, a ≤ b → mcn p a ≤ mcn p b
  | 0, h => by rw [Nat.le_zero.mp h]; exact Nat.le_refl _
  | b + 1, h => by
    by_cases he : a = b + 1
    · rw [he]; exact Nat.le_refl _
    · have := mcn_mono p (a := a) (b := b) (by omega)
      show _ ≤ (if p b then mcn p b + 1 else mcn p b)
      split <;> omega
theorem mcn_lt (p : Nat → Bool) {a b : Nat} (h : a < b) (hp : p a = true) : mcn p a < mcn p b := by
  have := mcn_mono p (a := a + 1) (b := b) h
  have h2 : mcn p (a + 1) = mcn p a + 1 := if_pos hp
  omega
theorem mcn_congr {p q : Nat → Bool} : ∀ {n}, (∀ i, i < n → p i = q i) → mcn p n = mcn q n
  | 0, _ => rfl
  | n + 1, h => by
    unfold mcn
    rw [h n (Nat.lt_succ_self n), mcn_congr (n := n) (fun i hi => h i (by omega))]
theorem nk0e {n : Nat} (h : n < 2 ^ 31) : nI n = 0 ↔ n = 0 := nI_eq (b := 0) h (by decide)
theorem nk1e {n : Nat} (h : n < 2 ^ 31) : nI n = 1 ↔ n = 1 := nI_eq (b := 1) h (by decide)
theorem nk4e {n : Nat} (h : n < 2 ^ 31) : nI n = 4 ↔ n = 4 := nI_eq (b := 4) h (by decide)
theorem nk10e {n : Nat} (h : n < 2 ^ 31) : nI n = 10 ↔ n = 10 := nI_eq (b := 10) h (by decide)
theorem nk400e {n : Nat} (h : n < 2 ^ 31) : nI n = 400 ↔ n = 400 := nI_eq (b := 400) h (by decide)
theorem nk0l {n : Nat} (h : n < 2 ^ 31) : nI n ≤ 0 ↔ n ≤ 0 := nI_leI (b := 0) h (by decide)
theorem nk1l {n : Nat} (h : n < 2 ^ 31) : nI n ≤ 1 ↔ n ≤ 1 := nI_leI (b := 1) h (by decide)
theorem nk0g {n : Nat} (h : n < 2 ^ 31) : 0 < nI n ↔ 0 < n := nI_ltI (a := 0) (by decide) h
theorem nk1g {n : Nat} (h : n < 2 ^ 31) : 1 < nI n ↔ 1 < n := nI_ltI (a := 1) (by decide) h
theorem nk0n {n : Nat} (h : n < 2 ^ 31) : nI n < 0 ↔ n < 0 := nI_ltI (b := 0) h (by decide)
theorem nk0p {n : Nat} (h : n < 2 ^ 31) : 0 ≤ nI n ↔ 0 ≤ n := nI_leI (a := 0) (by decide) h
theorem xfv0 : (0 : Fin 4).val = 0 := rfl
theorem xfv1 : (1 : Fin 4).val = 1 := rfl
theorem xfv2 : (2 : Fin 4).val = 2 := rfl
theorem xfv3 : (3 : Fin 4).val = 3 := rfl
theorem kl0 : Int64.ofNat (0 : Fin 2).val = 0 := rfl
theorem kl1 : Int64.ofNat (1 : Fin 2).val = 1 := rfl
theorem mnar0 : vp_nar .boolean 0 = 0 := by decide
theorem mnar1 : vp_nar .boolean 1 = 1 := by decide
