/-! THE ABSTRACT MACHINE runs -/
def xrun (X : Nat × (Nat → Int32)) : Nat → xC → xF → xH → Option (Option Value × xH)
  | 0, _, _, _ => none
  | n + 1, C, f, h => match xlk2 C f.1 with
    | none => none
    | some I => match I.1 with
      | 0 => (match f.2.2 with
        | [] => some (none, h)
        | _ => none)
      | 1 => (match f.2.2 with
        | [v] => if xrt I.2.2.2.1 v = true then some (some v, h) else none
        | _ => none)
      | k => bif Nat.blt k 5 then
          (if (f.2.2.take (xTab I.2.2.2.1).2.1).length = (xTab I.2.2.2.1).2.1 ∧ xcat (f.2.2.drop (xTab I.2.2.2.1).2.1) ≤ 8 ∧ (xsl (f.2.2.take (xTab I.2.2.2.1).2.1).reverse).length ≤ (xTab I.2.2.2.1).2.2.1 ∧ xcl0 k (xTab I.2.2.2.1).2.2.2 (f.2.2.take (xTab I.2.2.2.1).2.1).reverse h = true then
            (match xrun X n (xTab I.2.2.2.1).1 (0, xent (xTab I.2.2.2.1).2.2.1 (f.2.2.take (xTab I.2.2.2.1).2.1).reverse, []) h with
            | none => none
            | some (v, h') => xrun X n C (f.1 + 3, f.2.1, v.toList ++ f.2.2.drop (xTab I.2.2.2.1).2.1) h')
          else none)
        else (match xst X I f h with
          | none => none
          | some (g, h') => xrun X n C g h')
