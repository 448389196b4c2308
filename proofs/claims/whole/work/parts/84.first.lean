/-! ===== layer 2: the first setup ===== -/
def q_u0 : bM := fun x => if x = 0 then 180 else if x < 10 then 0 else if x < 190 then nI ((sTx.getD 26 []).getD (x - 10) 0) else 0
set_option maxRecDepth 100000 in
theorem q_tst : (bnw (fX9_startText q_u0) fun z => fX9_setupText z).map (fun z => z.1) = some 1 := by decide +kernel
