/-! THE TABLES HOLD: by the kernel -/
def xG : List Cond := lw_tbl.filter goodWord
def xin (p : Nat) (w : Cond) : Bool := decide (lw_tbl[p]? = some w) && goodWord w
theorem xin_mem {p : Nat} {w : Cond} (h : xin p w = true) : w ∈ xG := by
  simp only [xin, Bool.and_eq_true, decide_eq_true_eq] at h
  exact List.mem_filter.mpr ⟨List.mem_of_getElem? h.1, h.2⟩
def xnw (p : Nat) (w : Cond) : Bool := decide (lw_tbl[p]? = some w)
set_option maxRecDepth 100000 in
theorem xfl_ok : xfl.all (fun q => xin q.2.2.2.2 (.fieldLink (xon q.1) q.2.1 (xon q.2.2.1) (xcT q.2.2.1 q.2.2.2.1).2.1 (xcT q.2.2.1 q.2.2.2.1).2.2.1) && Nat.blt q.2.2.1 10) = true := by decide +kernel
set_option maxRecDepth 100000 in
theorem xml_ok : xml.all (fun q => bif Nat.beq q.2.2.2.1 0 then xin q.2.2.2.2 (.methodLink (xon q.1) q.2.1 (xyn q.2.2.1)) else xnw q.2.2.2.2 (.methodLinkNest (xon q.1) q.2.1 (xyn q.2.2.1) "ToldHouse")) = true := by decide +kernel
set_option maxRecDepth 100000 in
theorem xmo_ok : xmo.all (fun q => xin q.2.2 (.methodLink (xon q.1) q.2.1 objectInit)) = true := by decide +kernel
set_option maxRecDepth 100000 in
theorem xmn_ok : xmn.all (fun q => xin q.2.2 (.methodLink (xon q.1) q.2.1 Lib.Math.min.name)) = true := by decide +kernel
set_option maxRecDepth 100000 in
theorem xmx_ok : xmx.all (fun q => xin q.2.2 (.methodLink (xon q.1) q.2.1 Lib.Math.max.name)) = true := by decide +kernel
set_option maxRecDepth 100000 in
theorem xcll_ok : xcll.all (fun q => xin q.2.2.2 (.classLink (xon q.1) q.2.1 (xon q.2.2.1)) && Nat.blt q.2.2.1 10) = true := by decide +kernel
set_option maxRecDepth 100000 in
theorem xld_ok : xld.all (fun q => xin q.2.2.2.2 (.constant (xon q.1) q.2.1 (xldc q.2.2.1 q.2.2.2.1))) = true := by decide +kernel
set_option maxRecDepth 100000 in
theorem xld2_ok : xld2.all (fun q => xin q.2.2.2 (.constantLong (xon q.1) q.2.1 (Int64.ofNat q.2.2.1))) = true := by decide +kernel
set_option maxRecDepth 100000 in
theorem xmw_ok : xmw.all (fun q => (bif Nat.beq q.2.1 0 then xin q.2.2.2.1 (.instanceMethod (xyn q.1)) else xin q.2.2.2.1 (.static (xyn q.1))) && (bif Nat.beq q.2.2.2.2.1 9999 then true else xin q.2.2.2.2.1 (.selects (xyn q.1).cls (xyn q.1) (xyn q.1))) && xin q.2.2.2.2.2 (.initialized (xyn q.1).cls)) = true := by decide +kernel
set_option maxRecDepth 100000 in
theorem xcw_ok : xcw.all (fun q => xin q.2.1 (.instantiable (xon q.1) (xfn q.1)) && xin q.2.2 (.initialized (xon q.1)) && (u_ws (xon q.1) (xcT q.1) (xfn q.1)).all (fun w => decide (w ∈ xG))) = true := by decide +kernel
