/-! PURE: booleans stay as they are -/
theorem vp_narB0 : vp_nar .boolean (nI 0) = nI 0 := by decide
theorem vp_narB1 : vp_nar .boolean (nI 1) = nI 1 := by decide
theorem xnarB0 : xnar .boolean (nI 0) = true := by decide
theorem xnarB1 : xnar .boolean (nI 1) = true := by decide
theorem vp_narB (b : Bool) : vp_nar .boolean (bI b) = bI b := by cases b; exact vp_narB0; exact vp_narB1
theorem xnarB (b : Bool) : xnar .boolean (bI b) = true := by cases b; exact xnarB0; exact xnarB1
