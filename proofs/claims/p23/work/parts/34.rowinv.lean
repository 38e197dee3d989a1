/-! what changes of the class's cells: one row -/
def cAw (w m : List Nat) : Bool := [0, 1, 102, 105, 300, 800, 801, 802, 803, 804, 805, 806, 807, 808, 809].all (fun k => !(xany w k)) && !(xany m 1) && !(xany m 5)
theorem cAw_no {w m : List Nat} (h : cAw w m = true) {k : Nat} (hk : k ∈ [0, 1, 102, 105, 300, 800, 801, 802, 803, 804, 805, 806, 807, 808, 809]) : xany w k = false := by
  simp only [cAw, Bool.and_eq_true] at h
  have := List.all_eq_true.mp h.1.1 k hk
  simpa using this
theorem cI.row {c c' : Nat} {td vc dc n : Int32} {w tt m : List Nat} {h h1 : xH} {r t len : Nat} {k : xK} (hI : cI c td vc dc h) (hc : c ≤ c') (kq : xkq w tt m h h1) (hA : cAw w m = true) (ho : ∀ p fs, p ≠ r → h.2.2 p = some (.inr (5, fs)) → h1.2.2 p = h.2.2 p) (hr : h1.2.2 r = some (.inr (5, [.int n, .ref t]))) (ht : h1.2.2 t = some (.inl (7, len, k))) (b1 : 0 ≤ n.toInt) (b2 : n.toInt ≤ len) (b3 : n.toInt ≤ c') (b4 : 1 ≤ len) (b5 : len ≤ 2 * c' + 8) : cI c' td vc dc h1 := by
  obtain ⟨a1, a2, a3, a4, a5⟩ := hI
  have hm : xany m 1 = false ∧ xany m 5 = false := by
    simp only [cAw, Bool.and_eq_true, Bool.not_eq_true'] at hA
    exact ⟨hA.1.2, hA.2⟩
  refine ⟨kq.2.1.obj a1 (fun b hb => ?_), a2, a3.kp kq ⟨cAw_no hA (by decide), cAw_no hA (by decide), cAw_no hA (by decide)⟩, ?_, a5.kp kq hm.1 ⟨cAw_no hA (by decide), cAw_no hA (by decide)⟩⟩
  · have hb : b < 10 := hb
    match b, hb with
    | 0, _ => exact cAw_no hA (by decide)
    | 1, _ => exact cAw_no hA (by decide)
    | 2, _ => exact cAw_no hA (by decide)
    | 3, _ => exact cAw_no hA (by decide)
    | 4, _ => exact cAw_no hA (by decide)
    | 5, _ => exact cAw_no hA (by decide)
    | 6, _ => exact cAw_no hA (by decide)
    | 7, _ => exact cAw_no hA (by decide)
    | 8, _ => exact cAw_no hA (by decide)
    | 9, _ => exact cAw_no hA (by decide)
  · intro r' fs hr'
    by_cases hrr : r' = r
    · subst hrr
      rw [hr] at hr'
      cases hr'
      exact ⟨n, t, len, k, rfl, ht, b1, b2, b3, b4, b5⟩
    · rcases kq.2.2 r' 5 fs hr' with ⟨fs0, h0⟩ | hz
      · have h2 := ho r' fs0 hrr h0
        rw [h2, h0] at hr'
        cases hr'
        obtain ⟨n', t', len', k', rfl, ht', q1, q2, q3, q4, q5⟩ := a4 r' fs h0
        obtain ⟨k'', ht''⟩ := kq.2.1.arr ht'
        exact ⟨n', t', len', k'', rfl, ht'', q1, q2, by omega, q4, by omega⟩
      · rw [hm.2] at hz; cases hz
theorem cI.up {c c' : Nat} {td vc dc : Int32} {h : xH} (hI : cI c td vc dc h) (hc : c ≤ c') : cI c' td vc dc h := by
  obtain ⟨a1, a2, a3, a4, a5⟩ := hI
  refine ⟨a1, a2, a3, fun r fs hr => ?_, a5⟩
  obtain ⟨n', t', len', k', e, ht', q1, q2, q3, q4, q5⟩ := a4 r fs hr
  exact ⟨n', t', len', k', e, ht', q1, q2, by omega, q4, by omega⟩
theorem xfr.objn {w t : List Nat} {h h1 : xH} (f : xfr w t h h1) {q a : Nat} {fs : List Value} (hq : h.2.2 q = some (.inr (a, fs))) (n : Nat) (hn : fs.length = n) (hw : (List.range n).all (fun b => !(xany w (100 * a + b))) = true) : h1.2.2 q = some (.inr (a, fs)) := by
  refine f.obj hq fun b hb => ?_
  have := List.all_eq_true.mp hw b (List.mem_range.mpr (by omega))
  simpa using this
theorem ofNat_toInt {n : Nat} (h : n < 2 ^ 31) : (Int32.ofNat n).toInt = n := nI_toInt h
