def M00 : Me := (0, fun _ => 0, fun _ => 0, fun _ _ => none, fun _ _ => 0)
def MFin : Option Me := b1 (fn_X5_init (dnew M00 5) 0) (fun M1 => fn_X7_init (dnew M1 7) 141)
def nfk (j : Nat) : Nat := if sk j = 0 then 8 else if sk j = 1 then 2 else if sk j = 2 then 5 else if sk j = 3 then 8 else if sk j = 4 then 7 else if sk j = 5 then 2 else if sk j = 6 then 17 else if sk j = 7 then 11 else if sk j = 8 then 0 else sl j
def okM (M : Me) : Bool := decide (dn M = 176) && (List.range 176).all (fun j => decide (dk M j = sk j) && (decide (sk j < 8) || decide (dl M j = sl j)) && (List.range (nfk j)).all (fun k => decide (dr M j k = sr j k)))
theorem mfin1 : (match MFin with | some M => okM M | none => false) = true := by decide +kernel
