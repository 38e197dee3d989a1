/-! what changes of the class's cells: one doing, the house -/
def cAd (w m : List Nat) : Bool := [0, 1, 300, 500, 501, 800, 801, 802, 803, 804, 805, 806, 807, 808, 809].all (fun k => !(xany w k)) && !(xany m 5)
theorem cAd_no {w m : List Nat} (h : cAd w m = true) {k : Nat} (hk : k ∈ [0, 1, 300, 500, 501, 800, 801, 802, 803, 804, 805, 806, 807, 808, 809]) : xany w k = false := by
  simp only [cAd, Bool.and_eq_true] at h
  have := List.all_eq_true.mp h.1 k hk
  simpa using this
theorem cI.dng {c : Nat} {td vc dc : Int32} {w tt m : List Nat} {h h1 : xH} (hI : cI c td vc dc h) (kq : xkq w tt m h h1) (hA : cAd w m = true) (hD : cDI h1) : cI c td vc dc h1 := by
  obtain ⟨a1, a2, a3, a4, a5⟩ := hI
  have hm : xany m 5 = false := by
    simp only [cAd, Bool.and_eq_true, Bool.not_eq_true'] at hA
    exact hA.2
  refine ⟨kq.2.1.obj a1 (fun b hb => ?_), a2, a3.kp kq ⟨cAd_no hA (by decide), cAd_no hA (by decide), cAd_no hA (by decide)⟩, a4.kp kq hm ⟨cAd_no hA (by decide), cAd_no hA (by decide)⟩, hD⟩
  have hb : b < 10 := hb
  match b, hb with
  | 0, _ => exact cAd_no hA (by decide)
  | 1, _ => exact cAd_no hA (by decide)
  | 2, _ => exact cAd_no hA (by decide)
  | 3, _ => exact cAd_no hA (by decide)
  | 4, _ => exact cAd_no hA (by decide)
  | 5, _ => exact cAd_no hA (by decide)
  | 6, _ => exact cAd_no hA (by decide)
  | 7, _ => exact cAd_no hA (by decide)
  | 8, _ => exact cAd_no hA (by decide)
  | 9, _ => exact cAd_no hA (by decide)
theorem cDI.one {h h1 : xH} {d t : Nat} {a b lc dn un : Int32} {k : xK} {w tt m : List Nat} (hD : cDI h) (kq : xkq w tt m h h1) (ho : ∀ p fs, p ≠ d → h1.2.2 p = some (.inr (1, fs)) → h.2.2 p = some (.inr (1, fs))) (hd : h1.2.2 d = some (.inr (1, [.int a, .int b, .int lc, .int dn, .int un, .ref t]))) (ht : h1.2.2 t = some (.inl (8, 4, k))) (b1 : 0 ≤ lc.toInt) (b2 : lc.toInt ≤ 4) : cDI h1 := by
  intro p fs hp
  by_cases hpd : p = d
  · subst hpd
    rw [hd] at hp
    cases hp
    exact ⟨a, b, lc, dn, un, t, k, rfl, ht, b1, b2⟩
  · obtain ⟨x0, x1, x2, x3, x4, t', k', e, ht', q1, q2⟩ := hD p fs (ho p fs hpd hp)
    obtain ⟨k'', ht''⟩ := kq.2.1.arr ht'
    exact ⟨x0, x1, x2, x3, x4, t', k'', e, ht'', q1, q2⟩
theorem cI.hse {c : Nat} {td vc dc td' vc' dc' : Int32} {h h1 : xH} (hI : cI c td vc dc h) (og : ∀ p, p ≠ 0 → h1.2.2 p = h.2.2 p) (h0 : h1.2.2 0 = some (.inr (8, [.ref 1, .ref 3, .ref 4, .ref 6, .ref 10, .ref 11, .ref 12, .int td', .int vc', .int dc']))) (hb : (0 ≤ vc'.toInt ∧ vc'.toInt ≤ 4) ∧ (0 ≤ dc'.toInt ∧ dc'.toInt ≤ 10)) : cI c td' vc' dc' h1 := by
  obtain ⟨a1, a2, a3, a4, a5⟩ := hI
  have na : ∀ {p g n k}, h.2.2 p = some (.inl (g, n, k)) → p ≠ 0 := fun hp e => by rw [e, a1] at hp; cases hp
  have no : ∀ {p a fs}, h1.2.2 p = some (.inr (a, fs)) → a ≠ 8 → h.2.2 p = some (.inr (a, fs)) := by
    intro p a fs hp ha
    by_cases e : p = 0
    · subst e; rw [h0] at hp; cases hp; exact absurd rfl ha
    · rw [← og p e]; exact hp
  obtain ⟨⟨f1, h1'⟩, ⟨k3, h3⟩, ⟨f4, h4⟩, ⟨f6, h6⟩, h7, ⟨k8, h8⟩, ⟨k9, h9⟩, ⟨ka, ha⟩, ⟨kb, hb'⟩, ⟨kc, hc⟩⟩ := a3
  refine ⟨h0, hb, ⟨⟨f1, (og _ (by decide)).trans h1'⟩, ⟨k3, (og _ (by decide)).trans h3⟩, ⟨f4, (og _ (by decide)).trans h4⟩, ⟨f6, (og _ (by decide)).trans h6⟩, (og _ (by decide)).trans h7, ⟨k8, (og _ (by decide)).trans h8⟩, ⟨k9, (og _ (by decide)).trans h9⟩, ⟨ka, (og _ (by decide)).trans ha⟩, ⟨kb, (og _ (by decide)).trans hb'⟩, ⟨kc, (og _ (by decide)).trans hc⟩⟩, fun r fs hr => ?_, fun d fs hd => ?_⟩
  · obtain ⟨n, t, len, k, e, ht, q⟩ := a4 r fs (no hr (by decide))
    exact ⟨n, t, len, k, e, (og t (na ht)).trans ht, q⟩
  · obtain ⟨x0, x1, x2, x3, x4, t, k, e, ht, q⟩ := a5 d fs (no hd (by decide))
    exact ⟨x0, x1, x2, x3, x4, t, k, e, (og t (na ht)).trans ht, q⟩
theorem xany_app (l l' : List Nat) (k : Nat) : xany (l ++ l') k = (xany l k || xany l' k) := by
  unfold xany
  rw [List.any_append]
theorem xkq.tr {w t m w' t' m' : List Nat} {h1 h2 h3 : xH} (a : xkq w t m h1 h2) (b : xkq w' t' m' h2 h3) : xkq (w ++ w') (t ++ t') (m ++ m') h1 h3 :=
  ⟨b.1, (a.2.1.wk (fun k z => by rw [xany_app, z]; rfl) (fun k z => by rw [xany_app, z]; rfl)).tr (b.2.1.wk (fun k z => by rw [xany_app, z, Bool.or_true]) (fun k z => by rw [xany_app, z, Bool.or_true])), (a.2.2.wk (fun k z => by rw [xany_app, z]; rfl)).tr (b.2.2.wk (fun k z => by rw [xany_app, z, Bool.or_true]))⟩
theorem cDI.new {h h1 h2 : xH} {d t : Nat} {a b lc dn un : Int32} {k : xK} {w tt m : List Nat} (hD : cDI h) (og : ∀ p, p ≠ d → h1.2.2 p = h.2.2 p) (b2 : xbk [] h1 h2) (oo : ∀ p fs, p ≠ d → h1.2.2 p = some (.inr (1, fs)) → h2.2.2 p = some (.inr (1, fs))) (kq : xkq w tt m h h2) (hd : h2.2.2 d = some (.inr (1, [.int a, .int b, .int lc, .int dn, .int un, .ref t]))) (ht : h2.2.2 t = some (.inl (8, 4, k))) (q1 : 0 ≤ lc.toInt) (q2 : lc.toInt ≤ 4) : cDI h2 := by
  refine cDI.one hD kq (fun p fs hpd hp => ?_) hd ht q1 q2
  rcases b2 p 1 fs hp with ⟨fs0, h0⟩ | hz
  · have h4 := oo p fs0 hpd h0
    rw [h4] at hp
    cases hp
    rw [← og p hpd]
    exact h0
  · cases hz
