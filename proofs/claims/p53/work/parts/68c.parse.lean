/-! the text read -/
theorem prs_ok : (match f9_parseSystem TX R00 (fun _ => L00) TP00 EE00 (fun _ => S00) with
  | some r => decide (r.1 = 3)
  | none => false) = true := by decide +kernel
