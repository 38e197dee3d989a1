/-! PURE: what tally finds, and the verdict -/
section TS
variable {vl : Nat → Bool} {kd so am : Nat → Int32} {s0 : tT}
theorem tS_t {n : Nat} (h : vl n = true) : tS vl kd so am s0 (n + 1) = tst (kd n) (so n) (am n) (tS vl kd so am s0 n) := if_pos h
theorem tS_f {n : Nat} (h : vl n = false) : tS vl kd so am s0 (n + 1) = tS vl kd so am s0 n := if_neg (by rw [h]; decide)
def pk0 (vl : Nat → Bool) (kd : Nat → Int32) (x : Int32) (i : Nat) : Bool := vl i && decide (kd i = x)
theorem pk0_t {x : Int32} {i : Nat} (h : vl i = true) (h2 : kd i = x) : pk0 vl kd x i = true := by simp [pk0, h, h2]
theorem pk0_f1 {x : Int32} {i : Nat} (h : vl i = false) : pk0 vl kd x i = false := by simp [pk0, h]
theorem pk0_f2 {x : Int32} {i : Nat} (h : ¬ kd i = x) : pk0 vl kd x i = false := by simp [pk0, h]
theorem tS_va (h0 : s0.1.1 = 0) : ∀ n, (tS vl kd so am s0 n).1.1 = nI (mcn vl n)
  | 0 => h0
  | n + 1 => by
    cases h : vl n with
    | true => rw [tS_t h, mcn_t h, ← nxa1, ← tS_va h0 n]; rfl
    | false => rw [tS_f h, mcn_f h]; exact tS_va h0 n
theorem tS_md (h0 : s0.1.2.1 = 0) : ∀ n, (tS vl kd so am s0 n).1.2.1 = nI (mcn (pk0 vl kd 0) n)
  | 0 => h0
  | n + 1 => by
    cases h : vl n with
    | true =>
      rw [tS_t h]
      show (if kd n = 0 then _ + 1 else _) = _
      by_cases h2 : kd n = 0
      · rw [if_pos h2, mcn_t (pk0_t h h2), ← nxa1, ← tS_md h0 n]
      · rw [if_neg h2, mcn_f (pk0_f2 h2)]; exact tS_md h0 n
    | false => rw [tS_f h, mcn_f (pk0_f1 h)]; exact tS_md h0 n
theorem tS_en (h0 : s0.1.2.2.1 = 0) : ∀ n, (tS vl kd so am s0 n).1.2.2.1 = nI (mcn (pk0 vl kd 2) n)
  | 0 => h0
  | n + 1 => by
    cases h : vl n with
    | true =>
      rw [tS_t h]
      show (if kd n = 2 then _ + 1 else _) = _
      by_cases h2 : kd n = 2
      · rw [if_pos h2, mcn_t (pk0_t h h2), ← nxa1, ← tS_en h0 n]
      · rw [if_neg h2, mcn_f (pk0_f2 h2)]; exact tS_en h0 n
    | false => rw [tS_f h, mcn_f (pk0_f1 h)]; exact tS_en h0 n
theorem tS_ms : ∀ n, n < 2 ^ 31 → (mcn (pk0 vl kd 0) n = 0 ∧ (tS vl kd so am s0 n).1.2.2.2.1 = s0.1.2.2.2.1) ∨ (∃ i, i < n ∧ pk0 vl kd 0 i = true ∧ mls (pk0 vl kd 0) n = nI i ∧ (tS vl kd so am s0 n).1.2.2.2.1 = so i)
  | 0, _ => Or.inl ⟨rfl, rfl⟩
  | n + 1, hn => by
    have ih := tS_ms n (by omega)
    have cont : pk0 vl kd 0 n = false → (tS vl kd so am s0 (n + 1)).1.2.2.2.1 = (tS vl kd so am s0 n).1.2.2.2.1 → (mcn (pk0 vl kd 0) (n + 1) = 0 ∧ (tS vl kd so am s0 (n + 1)).1.2.2.2.1 = s0.1.2.2.2.1) ∨ (∃ i, i < n + 1 ∧ pk0 vl kd 0 i = true ∧ mls (pk0 vl kd 0) (n + 1) = nI i ∧ (tS vl kd so am s0 (n + 1)).1.2.2.2.1 = so i) := fun h1 h2 => by
      rw [mcn_f h1, mls_f h1, h2]
      rcases ih with q | ⟨i, q1, q2⟩
      · exact Or.inl q
      · exact Or.inr ⟨i, by omega, q2⟩
    cases h : vl n with
    | true =>
      by_cases h2 : kd n = 0
      · refine Or.inr ⟨n, Nat.lt_succ_self n, pk0_t h h2, mls_t (pk0_t h h2), ?_⟩
        rw [tS_t h]
        exact if_pos h2
      · refine cont (pk0_f2 h2) ?_
        rw [tS_t h]
        exact if_neg h2
    | false => exact cont (pk0_f1 h) (by rw [tS_f h])
theorem tS_es : ∀ n, n < 2 ^ 31 → (mcn (pk0 vl kd 2) n = 0 ∧ (tS vl kd so am s0 n).1.2.2.2.2.1 = s0.1.2.2.2.2.1) ∨ (∃ i, i < n ∧ pk0 vl kd 2 i = true ∧ mls (pk0 vl kd 2) n = nI i ∧ (tS vl kd so am s0 n).1.2.2.2.2.1 = so i)
  | 0, _ => Or.inl ⟨rfl, rfl⟩
  | n + 1, hn => by
    have ih := tS_es n (by omega)
    have cont : pk0 vl kd 2 n = false → (tS vl kd so am s0 (n + 1)).1.2.2.2.2.1 = (tS vl kd so am s0 n).1.2.2.2.2.1 → (mcn (pk0 vl kd 2) (n + 1) = 0 ∧ (tS vl kd so am s0 (n + 1)).1.2.2.2.2.1 = s0.1.2.2.2.2.1) ∨ (∃ i, i < n + 1 ∧ pk0 vl kd 2 i = true ∧ mls (pk0 vl kd 2) (n + 1) = nI i ∧ (tS vl kd so am s0 (n + 1)).1.2.2.2.2.1 = so i) := fun h1 h2 => by
      rw [mcn_f h1, mls_f h1, h2]
      rcases ih with q | ⟨i, q1, q2⟩
      · exact Or.inl q
      · exact Or.inr ⟨i, by omega, q2⟩
    cases h : vl n with
    | true =>
      by_cases h2 : kd n = 2
      · refine Or.inr ⟨n, Nat.lt_succ_self n, pk0_t h h2, mls_t (pk0_t h h2), ?_⟩
        rw [tS_t h]
        exact if_pos h2
      · refine cont (pk0_f2 h2) ?_
        rw [tS_t h]
        exact if_neg h2
    | false => exact cont (pk0_f1 h) (by rw [tS_f h])
theorem exs {P : Nat → Prop} {n : Nat} : (∃ i, i < n + 1 ∧ P i) ↔ (∃ i, i < n ∧ P i) ∨ P n := by
  constructor
  · rintro ⟨i, h1, h2⟩
    by_cases he : i = n
    · subst he; exact Or.inr h2
    · exact Or.inl ⟨i, by omega, h2⟩
  · rintro (⟨i, h1, h2⟩ | h)
    · exact ⟨i, by omega, h2⟩
    · exact ⟨n, Nat.lt_succ_self n, h⟩
theorem tS_fs {x : Int32} : ∀ n, (tS vl kd so am s0 n).1.2.2.2.2.2.1 < x ↔ (s0.1.2.2.2.2.2.1 < x ∨ ∃ i, i < n ∧ vl i = true ∧ so i < x)
  | 0 => ⟨Or.inl, fun h => h.elim id (fun ⟨i, q, _⟩ => absurd q (Nat.not_lt_zero i))⟩
  | n + 1 => by
    rw [exs (P := fun i => vl i = true ∧ so i < x), ← or_assoc, ← tS_fs n]
    cases h : vl n with
    | true =>
      rw [tS_t h]
      show (if so n < (tS vl kd so am s0 n).1.2.2.2.2.2.1 then so n else (tS vl kd so am s0 n).1.2.2.2.2.2.1) < x ↔ _
      generalize (tS vl kd so am s0 n).1.2.2.2.2.2.1 = y
      by_cases c : so n < y
      · rw [if_pos c]
        rw [Int32.lt_iff_toInt_lt] at c
        simp only [Int32.lt_iff_toInt_lt, true_and]
        omega
      · rw [if_neg c]
        rw [Int32.lt_iff_toInt_lt] at c
        simp only [Int32.lt_iff_toInt_lt, true_and]
        omega
    | false =>
      rw [tS_f h]
      exact ⟨Or.inl, fun q => q.elim id (fun q => by cases q.1)⟩
theorem tS_ls {x : Int32} : ∀ n, x < (tS vl kd so am s0 n).1.2.2.2.2.2.2.1 ↔ (x < s0.1.2.2.2.2.2.2.1 ∨ ∃ i, i < n ∧ vl i = true ∧ x < so i)
  | 0 => ⟨Or.inl, fun h => h.elim id (fun ⟨i, q, _⟩ => absurd q (Nat.not_lt_zero i))⟩
  | n + 1 => by
    rw [exs (P := fun i => vl i = true ∧ x < so i), ← or_assoc, ← tS_ls n]
    cases h : vl n with
    | true =>
      rw [tS_t h]
      show x < (if (tS vl kd so am s0 n).1.2.2.2.2.2.2.1 < so n then so n else (tS vl kd so am s0 n).1.2.2.2.2.2.2.1) ↔ _
      generalize (tS vl kd so am s0 n).1.2.2.2.2.2.2.1 = y
      by_cases c : y < so n
      · rw [if_pos c]
        rw [Int32.lt_iff_toInt_lt] at c
        simp only [Int32.lt_iff_toInt_lt, true_and]
        omega
      · rw [if_neg c]
        rw [Int32.lt_iff_toInt_lt] at c
        simp only [Int32.lt_iff_toInt_lt, true_and]
        omega
    | false =>
      rw [tS_f h]
      exact ⟨Or.inl, fun q => q.elim id (fun q => by cases q.1)⟩
theorem tS_sm (h0 : s0.1.2.2.2.2.2.2.2 = 0) : ∀ n, (tS vl kd so am s0 n).1.2.2.2.2.2.2.2 = mss vl (fun i => (am i).toInt64) n
  | 0 => h0
  | n + 1 => by
    cases h : vl n with
    | true => rw [tS_t h, mss_t h, ← tS_sm h0 n]; rfl
    | false => rw [tS_f h, mss_f h]; exact tS_sm h0 n
/-- sums over days -/
def dsum (a : Nat → Int64) : Nat → Int64 := mss (fun _ => true) a
theorem dsum_s (a : Nat → Int64) (n : Nat) : dsum a (n + 1) = dsum a n + a n := rfl
theorem dsum_up {a : Nat → Int64} {d : Nat} {x : Int64} : ∀ n, dsum (vp_updL a d (a d + x)) n = if d < n then dsum a n + x else dsum a n
  | 0 => rfl
  | n + 1 => by
    rw [dsum_s, dsum_s, dsum_up n]
    by_cases h1 : d < n
    · rw [if_pos h1, if_pos (by omega), pk_uLn (by omega), Int64.add_assoc, Int64.add_comm x, Int64.add_assoc]
    · rw [if_neg h1]
      by_cases h2 : d = n
      · subst h2; rw [if_pos (Nat.lt_succ_self d), pk_uLs, Int64.add_assoc]
      · rw [if_neg (by omega), pk_uLn (by omega)]
theorem dsum_0 {a : Nat → Int64} : ∀ {n}, (∀ d, d < n → a d = 0) → dsum a n = 0
  | 0, _ => rfl
  | n + 1, h => by rw [dsum_s, dsum_0 (fun d hd => h d (by omega)), h n (Nat.lt_succ_self n)]; rfl
theorem mss_dsum {P : Nat → Bool} {a : Nat → Int64} : ∀ {n}, (∀ d, d < n → P d = false → a d = 0) → mss P a n = dsum a n
  | 0, _ => rfl
  | n + 1, h => by
    rw [dsum_s, ← mss_dsum (P := P) (n := n) (fun d hd => h d (by omega))]
    cases hp : P n with
    | true => exact mss_t hp
    | false => rw [mss_f hp, h n (Nat.lt_succ_self n) hp, Int64.add_zero]
theorem tS_am {g8 g9 : Nat → Int64} (hz : dZ g8 g9) (h0 : s0.2 = (g8, g9)) {m : Nat} (hm : m ≤ 1000) : ∀ n, (∀ i, i < n → vl i = true → isD (so i)) → dsum (tS vl kd so am s0 n).2.1 m = mss (fun i => vl i && decide (so i < nI m)) (fun i => (am i).toInt64) n
  | 0, _ => by
    show dsum s0.2.1 m = 0
    rw [h0]
    exact dsum_0 (fun d hd => hz.1 d (by omega))
  | n + 1, hD => by
    have ih := tS_am hz h0 hm n (fun i hi => hD i (by omega))
    cases h : vl n with
    | true =>
      obtain ⟨d, hd, ed⟩ := isD_of (hD n (Nat.lt_succ_self n) h)
      rw [tS_t h]
      show dsum (pD _ (so n) (am n)) m = _
      rw [ed, pD_n hd, dsum_up, ih]
      by_cases c : d < m
      · rw [if_pos c, mss_t (n := n) (by simp only [h, Bool.true_and, decide_eq_true_eq]; rw [ed, nI_ltI (by omega) (by omega)]; exact c)]
      · rw [if_neg c, mss_f (n := n) (by simp only [h, Bool.true_and, decide_eq_false_iff_not]; rw [ed, nI_ltI (by omega) (by omega)]; exact c)]
    | false => rw [tS_f h, mss_f (n := n) (by simp [h])]; exact ih
theorem tS_mk {g8 g9 : Nat → Int64} (hz : dZ g8 g9) (h0 : s0.2 = (g8, g9)) {d : Nat} (hd : d < 1024) : ∀ n, (∀ i, i < n → vl i = true → isD (so i)) → (mk (tS vl kd so am s0 n).2.2 d = true ↔ ∃ i, i < n ∧ vl i = true ∧ so i = nI d)
  | 0, _ => by
    show mk s0.2.2 d = true ↔ _
    rw [h0]
    unfold mk
    dsimp only
    rw [hz.2 _ (by omega), tb_0]
    exact ⟨fun q => absurd q (by decide), fun ⟨i, q, _⟩ => absurd q (Nat.not_lt_zero i)⟩
  | n + 1, hD => by
    have ih := tS_mk hz h0 hd n (fun i hi => hD i (by omega))
    rw [exs (P := fun i => vl i = true ∧ so i = nI d), ← ih]
    cases h : vl n with
    | true =>
      obtain ⟨e, he, ee⟩ := isD_of (hD n (Nat.lt_succ_self n) h)
      rw [tS_t h]
      show mk (pM _ (so n)) d = true ↔ _
      rw [ee, mk_pM he, Bool.or_eq_true, decide_eq_true_eq, nI_eq (by omega) (by omega)]
      simp only [true_and, eq_comm]
    | false =>
      rw [tS_f h]
      exact ⟨Or.inl, fun q => q.elim id (fun q => by cases q.1)⟩
end TS
theorem mss_congr {p q : Nat → Bool} {f g : Nat → Int64} : ∀ {n}, (∀ i, i < n → p i = q i) → (∀ i, i < n → f i = g i) → mss p f n = mss q g n
  | 0, _, _ => rfl
  | n + 1, h1, h2 => by
    have e := mss_congr (n := n) (fun i hi => h1 i (by omega)) (fun i hi => h2 i (by omega))
    unfold mss
    rw [h1 n (Nat.lt_succ_self n), h2 n (Nat.lt_succ_self n), e]
theorem mls_congr {p q : Nat → Bool} : ∀ {n}, (∀ i, i < n → p i = q i) → mls p n = mls q n
  | 0, _ => rfl
  | n + 1, h => by
    unfold mls
    rw [h n (Nat.lt_succ_self n), mls_congr (n := n) (fun i hi => h i (by omega))]
theorem mcn_0 {p : Nat → Bool} : ∀ {n}, mcn p n = 0 → ∀ i, i < n → p i = false
  | 0, _, i, hi => absurd hi (Nat.not_lt_zero i)
  | n + 1, h, i, hi => by
    cases hp : p n with
    | true => rw [mcn_t hp] at h; omega
    | false =>
      rw [mcn_f hp] at h
      by_cases he : i = n
      · subst he; exact hp
      · exact mcn_0 h i (by omega)
theorem mcn_3 {vl : Nat → Bool} {kd : Nat → Int32} : ∀ {n}, (∀ i, i < n → vl i = true → kd i = 0 ∨ kd i = 1 ∨ kd i = 2) → mcn vl n = mcn (pk0 vl kd 0) n + mcn (pk0 vl kd 1) n + mcn (pk0 vl kd 2) n
  | 0, _ => rfl
  | n + 1, h => by
    have ih := mcn_3 (n := n) (fun i hi => h i (by omega))
    cases hv : vl n with
    | false => rw [mcn_f hv, mcn_f (pk0_f1 hv), mcn_f (pk0_f1 hv), mcn_f (pk0_f1 hv)]; exact ih
    | true =>
      rw [mcn_t hv]
      rcases h n (Nat.lt_succ_self n) hv with q | q | q
      · rw [mcn_t (pk0_t hv q), mcn_f (pk0_f2 (by rw [q]; decide)), mcn_f (pk0_f2 (by rw [q]; decide))]; omega
      · rw [mcn_t (pk0_t hv q), mcn_f (pk0_f2 (by rw [q]; decide)), mcn_f (pk0_f2 (by rw [q]; decide))]; omega
      · rw [mcn_t (pk0_t hv q), mcn_f (pk0_f2 (by rw [q]; decide)), mcn_f (pk0_f2 (by rw [q]; decide))]; omega
set_option maxHeartbeats 2000000 in
/-- the class's verdict and the model's are one -/
theorem wr_eq {vl : Nat → Bool} {kd so am : Nat → Int32} {g8 g9 : Nat → Int64} {S : Nat → Int32} {A : Nat → Nat → Int32} {B : Nat → Nat → Int64} {l : Nat} {x y : Int32} (hl : l ≤ 400) (hz : dZ g8 g9)
    (c1 : ∀ i, i < l → (¬ A 65 i = 0 ↔ vl i = true)) (c2 : ∀ i, i < l → mof S A (A 60 i).toNatClampNeg 2 = kd i) (c3 : ∀ i, i < l → A 61 i = so i) (c4 : ∀ i, i < l → B 63 i = (am i).toInt64)
    (c5 : ∀ i, i < l → vl i = true → kd i = 0 ∨ kd i = 1 ∨ kd i = 2) (c6 : ∀ i, i < l → vl i = true → isD (so i))
    (hx : vdR (tS vl kd so am ((0, 0, 0, 0, 999, 999, 0, 0), g8, g9) l) x) (hy : mWr S A B l y) : x = y := by
  have e0 : ∀ w i, i < l → mpk S A w i = pk0 vl kd w i := fun w i hi => by
    unfold mpk pk0
    rw [c2 i hi]
    by_cases q : vl i = true
    · rw [q, Bool.true_and]
      exact decide_eq_decide.mpr ⟨fun z => z.2, fun z => ⟨(c1 i hi).mpr q, z⟩⟩
    · rw [Bool.not_eq_true] at q
      rw [q, Bool.false_and]
      exact decide_eq_false (fun z => by rw [(c1 i hi).mp z.1] at q; cases q)
  unfold mWr at hy
  rw [mcn_congr (e0 0), mcn_congr (e0 1), mcn_congr (e0 2), mls_congr (e0 0), mls_congr (e0 2)] at hy
  have hva := tS_va (vl := vl) (kd := kd) (so := so) (am := am) (s0 := ((0, 0, 0, 0, 999, 999, 0, 0), g8, g9)) rfl l
  have hmd := tS_md (vl := vl) (kd := kd) (so := so) (am := am) (s0 := ((0, 0, 0, 0, 999, 999, 0, 0), g8, g9)) rfl l
  have hen := tS_en (vl := vl) (kd := kd) (so := so) (am := am) (s0 := ((0, 0, 0, 0, 999, 999, 0, 0), g8, g9)) rfl l
  have hsm := tS_sm (vl := vl) (kd := kd) (so := so) (am := am) (s0 := ((0, 0, 0, 0, 999, 999, 0, 0), g8, g9)) rfl l
  have hms := tS_ms (vl := vl) (kd := kd) (so := so) (am := am) (s0 := ((0, 0, 0, 0, 999, 999, 0, 0), g8, g9)) l (by omega)
  have hes := tS_es (vl := vl) (kd := kd) (so := so) (am := am) (s0 := ((0, 0, 0, 0, 999, 999, 0, 0), g8, g9)) l (by omega)
  have hfs : ∀ z, _ ↔ _ := fun z => tS_fs (vl := vl) (kd := kd) (so := so) (am := am) (s0 := ((0, 0, 0, 0, 999, 999, 0, 0), g8, g9)) (x := z) l
  have hls : ∀ z, _ ↔ _ := fun z => tS_ls (vl := vl) (kd := kd) (so := so) (am := am) (s0 := ((0, 0, 0, 0, 999, 999, 0, 0), g8, g9)) (x := z) l
  have hda : ∀ m, m ≤ 1000 → _ = _ := fun m hm => tS_am (vl := vl) (kd := kd) (so := so) (am := am) (s0 := ((0, 0, 0, 0, 999, 999, 0, 0), g8, g9)) hz rfl hm l c6
  have hmk : ∀ d, d < 1024 → (_ ↔ _) := fun d hd => tS_mk (vl := vl) (kd := kd) (so := so) (am := am) (s0 := ((0, 0, 0, 0, 999, 999, 0, 0), g8, g9)) hz rfl hd l c6
  have hdk : dOK (tS vl kd so am ((0, 0, 0, 0, 999, 999, 0, 0), g8, g9) l).2.1 (tS vl kd so am ((0, 0, 0, 0, 999, 999, 0, 0), g8, g9) l).2.2 := dOK_S (dZ_ok hz) l
  have h3 := mcn_3 c5
  have b0 := mcn_le (pk0 vl kd 0) l
  have b1 := mcn_le (pk0 vl kd 1) l
  have b2 := mcn_le (pk0 vl kd 2) l
  have bv := mcn_le vl l
  generalize tS vl kd so am ((0, 0, 0, 0, 999, 999, 0, 0), g8, g9) l = s at *
  generalize hn0 : mcn (pk0 vl kd 0) l = n0 at *
  generalize hn1 : mcn (pk0 vl kd 1) l = n1 at *
  generalize hn2 : mcn (pk0 vl kd 2) l = n2 at *
  -- (a)
  have hA : (1 < s.1.2.1 ∨ (0 < s.1.1 ∧ s.1.2.1 = 0)) ↔ (1 < n0 ∨ n0 = 0 ∧ 0 < n0 + n1 + n2) := by
    rw [hmd, hva, h3, nk1g (by omega), nk0g (by omega), nk0e (by omega)]
    omega
  have hen1 : s.1.2.2.1 = 1 ↔ n2 = 1 := by rw [hen, nk1e (by omega)]
  have hen2 : 1 < s.1.2.2.1 ↔ 1 < n2 := by rw [hen, nk1g (by omega)]
  have so_le : ∀ i, i < l → vl i = true → ¬ (999 : Int32) < so i ∧ ¬ so i < 0 := fun i hi hv => by
    have := c6 i hi hv
    exact ⟨Int32.not_lt.mpr this.2, Int32.not_lt.mpr this.1⟩
  have pk_vl : ∀ w i, pk0 vl kd w i = true → vl i = true := fun w i h => by
    unfold pk0 at h
    rw [Bool.and_eq_true] at h
    exact h.1
  -- (c), the sums
  have hfub : ∀ d, d < 1000 → mss (mk s.2.2) s.2.1 (d + 1) = mss (mps A (nI d) 10) (B 63) l := fun d hd => by
    rw [mss_dsum (fun e he hm => hdk.2 e (by omega) hm), hda (d + 1) (by omega)]
    refine mss_congr (fun i hi => ?_) (fun i hi => (c4 i hi).symm)
    unfold mps
    rw [c3 i hi]
    by_cases q : vl i = true
    · rw [q, Bool.true_and]
      refine decide_eq_decide.mpr ?_
      obtain ⟨e, he, ee⟩ := isD_of (c6 i hi q)
      rw [ee, nI_ltI (by omega) (by omega), nI_leI (by omega) (by omega)]
      exact ⟨fun z => ⟨(c1 i hi).mpr q, by omega, Or.inl rfl⟩, fun z => by have := z.2.1; omega⟩
    · have q2 := q
      rw [Bool.not_eq_true] at q
      rw [q, Bool.false_and]
      exact (decide_eq_false (fun z => q2 ((c1 i hi).mp z.1))).symm
  have h8 : scb (mk s.2.2) s.2.1 1024 ↔ mw8 A B l := by
    constructor
    · rintro ⟨d, q1, q2, q3⟩
      obtain ⟨i, z1, z2, z3⟩ := (hmk d q1).mp q2
      have hd := hdk.1 d q1 q2
      rw [hfub d hd] at q3
      exact ⟨i, z1, (c1 i z1).mpr z2, by rw [c3 i z1, z3]; exact q3⟩
    · rintro ⟨i, q1, q2, q3⟩
      have hv := (c1 i q1).mp q2
      obtain ⟨d, hd, ed⟩ := isD_of (c6 i q1 hv)
      rw [c3 i q1, ed, ← hfub d hd] at q3
      exact ⟨d, by omega, (hmk d (by omega)).mpr ⟨i, q1, hv, ed⟩, q3⟩
  have hs9 : mss (mps A 999 10) (B 63) l = s.1.2.2.2.2.2.2.2 := by
    rw [hsm]
    refine mss_congr (fun i hi => ?_) (fun i hi => c4 i hi)
    unfold mps
    rw [c3 i hi]
    by_cases q : vl i = true
    · rw [q]
      exact decide_eq_true ⟨(c1 i hi).mpr q, (c6 i hi q).2, Or.inl rfl⟩
    · have q2 := q
      rw [Bool.not_eq_true] at q
      rw [q]
      exact decide_eq_false (fun z => q2 ((c1 i hi).mp z.1))
  have hC : (scb (mk s.2.2) s.2.1 1024 ∨ (s.1.2.2.1 = 1 ∧ ¬ s.1.2.2.2.2.2.2.2 = 0)) ↔ (mw8 A B l ∨ n2 = 1 ∧ ¬ mss (mps A 999 10) (B 63) l = 0) := by
    rw [h8, hen1, hs9]
  -- (b)
  have hB : n0 = 1 → ((s.1.2.2.2.2.2.1 < s.1.2.2.2.1 ∨ 1 < s.1.2.2.1 ∨ (s.1.2.2.1 = 1 ∧ s.1.2.2.2.2.1 < s.1.2.2.2.2.2.2.1)) ↔ (1 < n2 ∨ mw7 A l n2 (A 61 (mls (pk0 vl kd 0) l).toNatClampNeg) (mls (pk0 vl kd 2) l))) := fun hone => by
    rcases hms with ⟨q, _⟩ | ⟨i0, p1, p2, p3, p4⟩
    · omega
    · have hf : A 61 (mls (pk0 vl kd 0) l).toNatClampNeg = so i0 := by rw [p3, nI_clamp (by omega), c3 i0 p1]
      have hfst : s.1.2.2.2.2.2.1 < s.1.2.2.2.1 ↔ ∃ i, i < l ∧ vl i = true ∧ so i < so i0 := by
        rw [p4, hfs (so i0)]
        exact ⟨fun z => z.elim (fun z => absurd z (so_le i0 p1 (pk_vl 0 i0 p2)).1) id, Or.inr⟩
      have hlst : n2 = 1 → (s.1.2.2.2.2.1 < s.1.2.2.2.2.2.2.1 ↔ ∃ i, i < l ∧ vl i = true ∧ A 61 (mls (pk0 vl kd 2) l).toNatClampNeg < so i) := fun h21 => by
        rcases hes with ⟨q, _⟩ | ⟨i2, r1, r2, r3, r4⟩
        · omega
        · rw [r4, hls (so i2), r3, nI_clamp (by omega), c3 i2 r1]
          exact ⟨fun z => z.elim (fun z => absurd z (so_le i2 r1 (pk_vl 2 i2 r2)).2) id, Or.inr⟩
      rw [hfst, hen2, hen1, hf]
      unfold mw7
      constructor
      · rintro (⟨i, z1, z2, z3⟩ | z | ⟨z1, z2⟩)
        · exact Or.inr ⟨i, z1, (c1 i z1).mpr z2, Or.inl (by rw [c3 i z1]; exact z3)⟩
        · exact Or.inl z
        · obtain ⟨i, y1, y2, y3⟩ := (hlst z1).mp z2
          exact Or.inr ⟨i, y1, (c1 i y1).mpr y2, Or.inr ⟨z1, by rw [c3 i y1]; exact y3⟩⟩
      · rintro (z | ⟨i, z1, z2, z3 | ⟨z3, z4⟩⟩)
        · exact Or.inr (Or.inl z)
        · exact Or.inl ⟨i, z1, (c1 i z1).mp z2, by rw [c3 i z1] at z3; exact z3⟩
        · exact Or.inr (Or.inr ⟨z3, (hlst z3).mpr ⟨i, z1, (c1 i z1).mp z2, by rw [c3 i z1] at z4; exact z4⟩⟩)
  -- nothing valid
  have hN : n0 + n1 + n2 = 0 → ¬ (s.1.2.2.2.2.2.1 < s.1.2.2.2.1 ∨ 1 < s.1.2.2.1 ∨ (s.1.2.2.1 = 1 ∧ s.1.2.2.2.2.1 < s.1.2.2.2.2.2.2.1)) ∧ ¬ (scb (mk s.2.2) s.2.1 1024 ∨ (s.1.2.2.1 = 1 ∧ ¬ s.1.2.2.2.2.2.2.2 = 0)) := fun hnone => by
    have hnv : ∀ i, i < l → vl i = false := mcn_0 (by rw [h3]; exact hnone)
    refine ⟨?_, ?_⟩
    · rintro (z | z | ⟨z1, z2⟩)
      · rcases hms with ⟨q, q2⟩ | ⟨i0, p1, p2, _⟩
        · rw [q2, hfs] at z
          rcases z with z | ⟨i, z1, z2, _⟩
          · exact absurd z (show ¬ (999 : Int32) < 0 from by decide)
          · rw [hnv i z1] at z2; cases z2
        · have := pk_vl 0 i0 p2
          rw [hnv i0 p1] at this; cases this
      · rw [hen2] at z; omega
      · rw [hen1] at z1; omega
    · rintro (⟨d, q1, q2, q3⟩ | ⟨z1, z2⟩)
      · obtain ⟨i, z1, z2, z3⟩ := (hmk d q1).mp q2
        rw [hnv i z1] at z2; cases z2
      · rw [hen1] at z1; omega
  unfold vdR at hx
  rw [hA, hC] at hx
  rw [hC] at hN
  rcases hy with ⟨rfl, ya⟩ | ⟨rfl, ya⟩ | ⟨y0, hy⟩
  · rcases hx with ⟨rfl, _⟩ | ⟨_, q, _⟩ | ⟨q, _⟩
    · rfl
    · exact absurd ya q
    · exact absurd ya q
  · obtain ⟨k1, k2⟩ := hN ya
    rcases hx with ⟨_, q⟩ | ⟨_, _, q⟩ | ⟨_, _, ⟨_, q⟩ | ⟨rfl, _⟩⟩
    · omega
    · exact absurd q k1
    · exact absurd q k2
    · rfl
  · rw [hB y0] at hx
    have nA : ¬ (1 < n0 ∨ n0 = 0 ∧ 0 < n0 + n1 + n2) := by omega
    rcases hx with ⟨_, q⟩ | ⟨rfl, _, q⟩ | ⟨_, q1, q2⟩
    · exact absurd q nA
    · rcases hy with ⟨rfl, _⟩ | ⟨_, z1, z2, _⟩ | ⟨_, z1, z2, _⟩
      · rfl
      · exact absurd q (fun z => z.elim (fun z => by omega) z2)
      · exact absurd q (fun z => z.elim (fun z => by omega) z2)
    · rcases hy with ⟨_, z⟩ | ⟨rfl, _, _, z⟩ | ⟨rfl, _, _, z1, z2⟩
      · exact absurd z q1
      · rcases q2 with ⟨rfl, _⟩ | ⟨_, q⟩
        · rfl
        · exact absurd z q
      · rcases q2 with ⟨_, q⟩ | ⟨rfl, _⟩
        · exact absurd q (fun z => z.elim z1 z2)
        · rfl
