/-! DOINGS, DAYS: class and model in step -/
theorem mJ_det {S S1 : Nat → Int32} {A A1 : Nat → Nat → Int32} {B B1 : Nat → Nat → Int64} {M V D : Nat} {h : xH} (h1 : mC S1 A1 B1 h) (h2 : mC S A B h) (hj : mJ S1 A1 M V D) : mJ S A M V D := by
  have eS : mF S = mF S1 := by
    have := h1.1.symm.trans h2.1
    injection this with z
    injection z with z
    injection z with _ z
    exact z.symm
  simp only [mF, List.cons.injEq, Value.int.injEq, true_and, and_true] at eS
  have eA : ∀ q, q ∈ mQ → A q = A1 q := fun q hq => by
    have := (h1.2.1 q hq).symm.trans (h2.2.1 q hq)
    injection this with z
    injection z with z
    injection z with _ z
    injection z with _ z
    injection z with z
    exact z.symm
  obtain ⟨s1, s2, s4, s5, s6, s13, s14, s15, s20⟩ := eS
  refine ⟨mI_f hj.1 (fun k hk => ?_) (fun i _ => by rw [eA 58 (by decide)]) (fun q hq => eA q ?_), s4.trans hj.2⟩
  · simp only [List.mem_cons, List.not_mem_nil, or_false] at hk
    rcases hk with rfl | rfl | rfl | rfl
    · exact s1
    · exact s2
    · exact s15
    · exact s20
  · simp only [List.mem_cons, List.not_mem_nil, or_false] at hq
    simp only [mQ, List.mem_cons, List.not_mem_nil, or_false]
    omega
theorem mJ_M {S : Nat → Int32} {A : Nat → Nat → Int32} {M M1 V D : Nat} (hj : mJ S A M1 V D) (h : S 1 = nI M) (hM : M ≤ 400) : M1 = M := by
  have h1 := hj.1.1
  have h2 := hj.1.2.1
  rw [h, nI_eq (by omega) (by omega)] at h1
  exact h1.symm
theorem cX1_fr {h h' : xH} {A : Nat → Nat → Int32} {M : Nat} {a : Nat → Nat} (hX : cX1 h A M a) (f : ∀ p e, h.2.2 p = some e → (∀ c fs, e = .inr (c, fs) → c = 0 ∨ c = 2 ∨ c = 3 ∨ c = 5) → (∀ t n k, e = .inl (t, n, k) → (t = 1 ∧ (p = 8 ∨ p = 9)) ∨ t = 3 ∨ t = 7) → h'.2.2 p = some e) : cX1 h' A M a := by
  obtain ⟨⟨T, hS⟩, ⟨⟨a1, a2, a3, a4, a5, a6, a7, s8, j6⟩, j7, g8, g9, j8, j9, jz⟩, hd⟩ := hX
  have o : ∀ {p c fs}, h.2.2 p = some (.inr (c, fs)) → c = 0 ∨ c = 2 ∨ c = 3 ∨ c = 5 → h'.2.2 p = some (.inr (c, fs)) := fun he hc => f _ _ he (fun _ _ z => by cases z; exact hc) (fun _ _ _ z => by cases z)
  refine ⟨⟨T, ?_⟩, ⟨⟨a1, a2, a3, a4, a5, a6, a7, s8, o j6 (by decide)⟩, o j7 (by decide), g8, g9, f _ _ j8 (fun _ _ z => by cases z) (fun _ _ _ z => by cases z; exact Or.inl ⟨rfl, Or.inl rfl⟩), f _ _ j9 (fun _ _ z => by cases z) (fun _ _ _ z => by cases z; exact Or.inl ⟨rfl, Or.inr rfl⟩), jz⟩, hd⟩
  refine cS_keep hS (fun _ _ => rfl) (fun p e he _ _ _ _ q1 q2 => f p e he (fun c fs z => by have := q2 c fs z; omega) (fun t n k z => by have := q1 t n k z; omega)) ?_ (fun i hi => ?_)
  · obtain ⟨Vv, Mv, hc⟩ := hS.2.2.2.2.1
    exact ⟨Vv, Mv, fun n hn => o (hc n hn) (by decide)⟩
  · obtain ⟨len, g, q⟩ := cS_T hS i hi
    exact ⟨ne_aa q j8 (by decide), ne_aa q j9 (by decide)⟩
theorem e8_kq {w t m : List Nat} {h h1 : xH} (k : xkq w t m h h1) (hW : xWF h) (hw : w.all (fun k => Nat.ble 800 k && Nat.blt k 900) = true) (ht : t = []) : ∀ p e, h.2.2 p = some e → (∀ c fs, e = .inr (c, fs) → c ≠ 8) → h1.2.2 p = some e := fun p e he q1 => by
  subst ht
  rcases e with ⟨c, n, g⟩ | ⟨c, fs⟩
  · obtain ⟨c', z1, z2⟩ := k.2.1.2.2 _ _ he
    rw [z2 rfl] at z1
    exact z1
  · have hc := q1 c fs rfl
    have hwe := (hW p _ he).2
    refine k.2.1.obj he (fun b hb => ?_)
    have hb2 : b < 100 := by
      have h2 : fs.length = xfn c := hwe.1
      have h3 : xfn c ≤ 30 := by unfold xfn; split <;> decide
      omega
    cases hz : xany w (100 * c + b) with
    | false => rfl
    | true =>
      exfalso
      obtain ⟨x, hx, he2⟩ := List.any_eq_true.mp hz
      have hx2 := List.all_eq_true.mp hw x hx
      simp only [Bool.and_eq_true] at hx2
      have l1 := Nat.le_of_ble_eq_true hx2.1
      have l2 : x < 900 := Nat.le_of_ble_eq_true hx2.2
      have l3 : x = 100 * c + b ∨ 100 * c + b = x := by first | exact Or.inl (Nat.eq_of_beq_eq_true he2) | exact Or.inr (Nat.eq_of_beq_eq_true he2)
      omega
theorem cX_fr {h h' : xH} {A : Nat → Nat → Int32} {B : Nat → Nat → Int64} {M V D : Nat} {a : Nat → Nat} (hX : cX h A B M V D a) (f : ∀ p e, h.2.2 p = some e → (∀ c fs, e = .inr (c, fs) → c ≠ 8) → h'.2.2 p = some e) : cX h' A B M V D a := by
  obtain ⟨x1, x2, x3, x4⟩ := hX
  have g : fX h h' := fun p e he q1 _ => f p e he (fun c fs z => by have := q1 c fs z; omega)
  exact ⟨cX1_fr x1 (fun p e he q1 _ => f p e he (fun c fs z => by have := q1 c fs z; omega)), cDg_k x2 g (Nat.le_refl _) (fun _ _ => rfl) (fun _ _ => rfl), cSn_k x3 g (fun _ _ => rfl), cVw_k x4 g (fun _ _ => rfl)⟩
/-- the model's arrays are others where nothing of the state is -/
theorem cX_mo {S : Nat → Int32} {A : Nat → Nat → Int32} {B : Nat → Nat → Int64} {M V D : Nat} {a : Nat → Nat} {h h' : xH} (hX : cX h A B M V D a) (hm : mC S A B h) (ho : rO mRg h h') : cX h' A B M V D a := by
  obtain ⟨x1, x2, x3, x4⟩ := hX
  have f := mC_fx hm ho
  exact ⟨cX1_mo hm ho x1, cDg_k x2 f (Nat.le_refl _) (fun _ _ => rfl) (fun _ _ => rfl), cSn_k x3 f (fun _ _ => rfl), cVw_k x4 f (fun _ _ => rfl)⟩
set_option maxRecDepth 20000 in
theorem pr45 {X : Nat × (Nat → Int32)} {h : xH} {i : Nat} (hW : xWF h) (hl : lX i h) {x1 : Int32} : okM X 45 [.ref 0, .int x1] h (fun v h1 => ∃ r, v = some (.int r) ∧ lP X i 88 [.ref 57, .int x1] h1 (fun v' => v' = some (.int r))) := by
  obtain ⟨S, A, B, M, V, D, a, hI, hm, hj, z1, z2, hH, hX⟩ := hl
  refine (okM_c (j := 45) (by decide) hH (rs_c0 (by simp)) hW (sp45 (x1 := x1) hW hI)).mono ?_
  rintro v h1 ⟨⟨hc, b1, b2⟩, hH1, ho1, k1, -⟩
  have hm1 := hm.lo ho1
  have hX1 := cX_fr hX (e8_kq k1 hW rfl rfl)
  have key : ∃ r, v = some (.int r) ∧ ((r = 0 ∧ (x1 ≤ S 2 ∨ ¬ x1 ≤ 999) ∧ cI (2 * i) (S 2) (nI V) (nI D) h1) ∨ (r = 1 ∧ ¬ x1 ≤ S 2 ∧ x1 ≤ 999 ∧ cI (2 * i) x1 (nI V) (nI D) h1)) := by
    rcases hc with ⟨rfl, q⟩ | ⟨rfl, q⟩
    · exact ⟨0, rfl, Or.inl ⟨rfl, q⟩⟩
    · exact ⟨1, rfl, Or.inr ⟨rfl, q⟩⟩
  clear hc
  obtain ⟨r, rfl, hc⟩ := key
  refine ⟨r, rfl, ⟨_, hm1.1⟩, ?_⟩
  refine (okM_m (j := 88) (by decide) rfl hm1 hH1.1 (rs_m0 (by simp)) k1.1 (sp88 (x1 := x1) k1.1 hm1)).mono ?_
  rintro v' h2 ⟨hq, ho2, k2, e1, e2⟩
  rcases hc with ⟨rfl, d1, hI1⟩ | ⟨rfl, d1, d2, hI1⟩
  · rcases hq with ⟨rfl, -, hm2⟩ | ⟨-, m1, m2, -⟩
    · exact ⟨rfl, lX_fin (hI1.up (by omega)) rfl (by omega) (by omega) hH1 ho2 k2 (by decide) e1 e2 hm2 hj (cX_mo hX1 hm1 ho2)⟩
    · exact absurd d1 (fun z => z.elim m1 (fun y => y m2))
  · rcases hq with ⟨-, m1, -⟩ | ⟨rfl, m1, m2, hm2⟩
    · exact absurd m1 (fun z => z.elim d1 (fun y => y d2))
    · exact ⟨rfl, lX_fin (hI1.up (by omega)) mP_s (by omega) (by omega) hH1 ho2 k2 (by decide) e1 e2 hm2 (mJ_day hj m1 m2) (cX_mo hX1 hm1 ho2)⟩
