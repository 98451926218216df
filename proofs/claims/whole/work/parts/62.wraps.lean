/-! the questions, through their wrappers -/
section Wraps
variable {d : Nat}
theorem ow_told (x1 : Int32) : OpW (d + 31) 280 [.ref 0, .int x1, .ref 560] (d + 31) 224 [.ref 53, .int x1] := opw (fun σ => e_L_told (d + 30) 0 x1 560 σ) (op_told x1)
theorem ow_person (x1 x2 : Int32) : OpW (d + 31) 281 [.ref 0, .int x1, .int x2, .ref 560] (d + 31) 228 [.ref 53, .int x1, .int x2] := opw (fun σ => e_L_person (d + 30) 0 x1 x2 560 σ) (op_person x1 x2)
theorem ow_joke (x1 x2 : Int32) : OpW (d + 31) 282 [.ref 0, .int x1, .int x2, .ref 560] (d + 31) 229 [.ref 53, .int x1, .int x2] := opw (fun σ => e_L_joke (d + 30) 0 x1 x2 560 σ) (op_joke x1 x2)
theorem ow_street (x1 x2 : Int32) : OpW (d + 31) 283 [.ref 0, .int x1, .int x2, .ref 560] (d + 31) 230 [.ref 53, .int x1, .int x2] := opw (fun σ => e_L_street (d + 30) 0 x1 x2 560 σ) (op_street x1 x2)
theorem ow_worn (x1 x2 : Int32) : OpW (d + 31) 284 [.ref 0, .int x1, .int x2, .ref 560] (d + 31) 231 [.ref 53, .int x1, .int x2] := opw (fun σ => e_L_worn (d + 30) 0 x1 x2 560 σ) (op_worn x1 x2)
theorem ow_laugh (x1 x2 : Int32) : OpW (d + 31) 285 [.ref 0, .int x1, .int x2, .ref 560] (d + 31) 232 [.ref 53, .int x1, .int x2] := opw (fun σ => e_L_laugh (d + 30) 0 x1 x2 560 σ) (op_laugh x1 x2)
theorem ow_water (x1 x2 : Int32) : OpW (d + 31) 286 [.ref 0, .int x1, .int x2, .ref 560] (d + 31) 233 [.ref 53, .int x1, .int x2] := opw (fun σ => e_L_water (d + 30) 0 x1 x2 560 σ) (op_water x1 x2)
theorem ow_would (x1 x2 x3 x4 x5 x6 x7 x8 x9 x10 : Int32) : OpW (d + 31) 287 [.ref 0, .int x1, .int x2, .int x3, .int x4, .int x5, .int x6, .int x7, .int x8, .int x9, .int x10, .ref 560] (d + 31) 234 [.ref 53, .int x1, .int x2, .int x3, .int x4, .int x5, .int x6, .int x7, .int x8, .int x9, .int x10] := opw (fun σ => e_L_would (d + 30) 0 x1 x2 x3 x4 x5 x6 x7 x8 x9 x10 560 σ) (op_would x1 x2 x3 x4 x5 x6 x7 x8 x9 x10)
theorem ow_ahead (x1 x2 : Int32) : OpW (d + 31) 288 [.ref 0, .int x1, .int x2, .ref 560] (d + 31) 235 [.ref 53, .int x1, .int x2] := opw (fun σ => e_L_ahead (d + 30) 0 x1 x2 560 σ) (op_ahead x1 x2)
theorem ow_enough (x1 : Int32) : OpW (d + 31) 290 [.ref 0, .int x1, .ref 560] (d + 31) 242 [.ref 53, .int x1] := opw (fun σ => e_L_enough (d + 30) 0 x1 560 σ) (op_enough x1)
theorem ow_lasts (x1 x2 : Int32) : OpW (d + 31) 291 [.ref 0, .int x1, .int x2, .ref 560] (d + 31) 244 [.ref 53, .int x1, .int x2] := opw (fun σ => e_L_lasts (d + 30) 0 x1 x2 560 σ) (op_lasts x1 x2)
theorem ow_well (x1 x2 : Int32) : OpW (d + 31) 292 [.ref 0, .int x1, .int x2, .ref 560] (d + 31) 245 [.ref 53, .int x1, .int x2] := opw (fun σ => e_L_well (d + 30) 0 x1 x2 560 σ) (op_well x1 x2)
theorem ow_way (x1 x2 : Int32) : OpW (d + 31) 295 [.ref 0, .int x1, .int x2, .ref 560] (d + 31) 253 [.ref 53, .int x1, .int x2] := opw (fun σ => e_L_way (d + 30) 0 x1 x2 560 σ) (op_way x1 x2)
theorem ow_comedians (x1 x2 x3 x4 : Int32) : OpW (d + 31) 296 [.ref 0, .int x1, .int x2, .int x3, .int x4, .ref 560] (d + 31) 257 [.ref 53, .int x1, .int x2, .int x3, .int x4] := opw (fun σ => e_L_comedians (d + 30) 0 x1 x2 x3 x4 560 σ) (op_comedians x1 x2 x3 x4)
theorem ow_share (x1 x2 x3 : Int32) : OpW (d + 31) 298 [.ref 0, .int x1, .int x2, .int x3, .ref 560] (d + 31) 260 [.ref 53, .int x1, .int x2, .int x3] := opw (fun σ => e_L_share (d + 30) 0 x1 x2 x3 560 σ) (op_share x1 x2 x3)
theorem ow_likes (x1 x2 : Int32) : OpW (d + 31) 299 [.ref 0, .int x1, .int x2, .ref 560] (d + 31) 261 [.ref 53, .int x1, .int x2] := opw (fun σ => e_L_likes (d + 30) 0 x1 x2 560 σ) (op_likes x1 x2)
theorem ow_solemn (x1 : Int32) : OpW (d + 31) 300 [.ref 0, .int x1, .ref 560] (d + 31) 262 [.ref 53, .int x1] := opw (fun σ => e_L_solemn (d + 30) 0 x1 560 σ) (op_solemn x1)
theorem ow_driest (x1 : Int32) : OpW (d + 31) 301 [.ref 0, .int x1, .ref 560] (d + 31) 263 [.ref 53, .int x1] := opw (fun σ => e_L_driest (d + 30) 0 x1 560 σ) (op_driest x1)
theorem ow_alike (x1 : Int32) : OpW (d + 31) 302 [.ref 0, .int x1, .ref 560] (d + 31) 264 [.ref 53, .int x1] := opw (fun σ => e_L_alike (d + 30) 0 x1 560 σ) (op_alike x1)
end Wraps
