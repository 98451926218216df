theorem e_Ma_abs (d : Nat) (x0 : Int32) (σ : mm_M) : ev d 0 [.int x0] σ = if 0 ≤ x0 then rn d 0 10 [.int x0] [.int x0] σ else rn d 0 10 [.int x0] [.int (-x0)] σ :=
  (ev_in rfl).trans ((rn_bl (fun p => Nat.beq p 10) 5 d 0 0 [.int x0] [] σ).trans rfl)
theorem e_Ma_abs_10 (d : Nat) (x0 : Int32) (y0 : Int32) (σ : mm_M) : rn d 0 10 [.int x0] [.int y0] σ = some (Sum.inl (Value.int (nar 0 y0)), σ) :=
  (rn_bl (fun p => Nat.beq p 10) 1 d 0 10 [.int x0] [.int y0] σ).trans rfl
theorem e_Ma_max (d : Nat) (x0 : Int32) (x1 : Int32) (σ : mm_M) : ev d 1 [.int x0, .int x1] σ = if x0 < x1 then rn d 1 10 [.int x0, .int x1] [.int x1] σ else rn d 1 10 [.int x0, .int x1] [.int x0] σ :=
  (ev_in rfl).trans ((rn_bl (fun p => Nat.beq p 10) 5 d 1 0 [.int x0, .int x1] [] σ).trans rfl)
theorem e_Ma_max_10 (d : Nat) (x0 : Int32) (x1 : Int32) (y0 : Int32) (σ : mm_M) : rn d 1 10 [.int x0, .int x1] [.int y0] σ = some (Sum.inl (Value.int (nar 0 y0)), σ) :=
  (rn_bl (fun p => Nat.beq p 10) 1 d 1 10 [.int x0, .int x1] [.int y0] σ).trans rfl
theorem e_Ma_min (d : Nat) (x0 : Int32) (x1 : Int32) (σ : mm_M) : ev d 2 [.int x0, .int x1] σ = if x1 < x0 then rn d 2 10 [.int x0, .int x1] [.int x1] σ else rn d 2 10 [.int x0, .int x1] [.int x0] σ :=
  (ev_in rfl).trans ((rn_bl (fun p => Nat.beq p 10) 5 d 2 0 [.int x0, .int x1] [] σ).trans rfl)
theorem e_Ma_min_10 (d : Nat) (x0 : Int32) (x1 : Int32) (y0 : Int32) (σ : mm_M) : rn d 2 10 [.int x0, .int x1] [.int y0] σ = some (Sum.inl (Value.int (nar 0 y0)), σ) :=
  (rn_bl (fun p => Nat.beq p 10) 1 d 2 10 [.int x0, .int x1] [.int y0] σ).trans rfl
theorem e_In_bitCount (d : Nat) (x0 : Int32) (σ : mm_M) : ev d 3 [.int x0] σ = rn d 3 10 [.int (x0 - (((Int32.toUInt32 x0 >>> (Int32.toUInt32 1 &&& Int32.toUInt32 31)).toInt32) &&& (1431655765 : Int32)))] [] σ :=
  (ev_in rfl).trans ((rn_bl (fun p => Nat.beq p 10 || Nat.beq p 24 || Nat.beq p 34 || Nat.beq p 48) 8 d 3 0 [.int x0] [] σ).trans rfl)
theorem e_In_bitCount_10 (d : Nat) (x0 : Int32) (σ : mm_M) : rn d 3 10 [.int x0] [] σ = rn d 3 24 [.int ((x0 &&& (858993459 : Int32)) + (((Int32.toUInt32 x0 >>> (Int32.toUInt32 2 &&& Int32.toUInt32 31)).toInt32) &&& (858993459 : Int32)))] [] σ :=
  (rn_bl (fun p => Nat.beq p 10 || Nat.beq p 24 || Nat.beq p 34 || Nat.beq p 48) 10 d 3 10 [.int x0] [] σ).trans rfl
theorem e_In_bitCount_24 (d : Nat) (x0 : Int32) (σ : mm_M) : rn d 3 24 [.int x0] [] σ = rn d 3 34 [.int ((x0 + ((Int32.toUInt32 x0 >>> (Int32.toUInt32 4 &&& Int32.toUInt32 31)).toInt32)) &&& (252645135 : Int32))] [] σ :=
  (rn_bl (fun p => Nat.beq p 10 || Nat.beq p 24 || Nat.beq p 34 || Nat.beq p 48) 8 d 3 24 [.int x0] [] σ).trans rfl
theorem e_In_bitCount_34 (d : Nat) (x0 : Int32) (σ : mm_M) : rn d 3 34 [.int x0] [] σ = rn d 3 48 [.int ((x0 + ((Int32.toUInt32 x0 >>> (Int32.toUInt32 8 &&& Int32.toUInt32 31)).toInt32)) + ((Int32.toUInt32 (x0 + ((Int32.toUInt32 x0 >>> (Int32.toUInt32 8 &&& Int32.toUInt32 31)).toInt32)) >>> (Int32.toUInt32 16 &&& Int32.toUInt32 31)).toInt32))] [] σ :=
  (rn_bl (fun p => Nat.beq p 10 || Nat.beq p 24 || Nat.beq p 34 || Nat.beq p 48) 12 d 3 34 [.int x0] [] σ).trans rfl
theorem e_In_bitCount_48 (d : Nat) (x0 : Int32) (σ : mm_M) : rn d 3 48 [.int x0] [] σ = some (Sum.inl (Value.int (nar 0 (x0 &&& (63 : Int32)))), σ) :=
  (rn_bl (fun p => Nat.beq p 10 || Nat.beq p 24 || Nat.beq p 34 || Nat.beq p 48) 4 d 3 48 [.int x0] [] σ).trans rfl
theorem e_Ar_fill (d : Nat) (a0 : Nat) (x1 : Int32) (σ : mm_M) : ev d 4 [.ref a0, .int x1] σ = aN σ a0 fun r1 => rn d 4 5 [.ref a0, .int x1, .int 0, .int r1] [] σ :=
  (ev_in rfl).trans ((rn_bl (fun p => Nat.beq p 5) 5 d 4 0 [.ref a0, .int x1, uv, uv] [] σ).trans rfl)
theorem e_Ar_fill_5 (d : Nat) (a0 : Nat) (x1 : Int32) (x2 : Int32) (x3 : Int32) (σ : mm_M) : rn d 4 5 [.ref a0, .int x1, .int x2, .int x3] [] σ = if x3 ≤ x2 then some (Sum.inl uv, σ) else tI σ a0 x2 x1 fun σ1 => rn d 4 5 [.ref a0, .int x1, .int (x2 + 1), .int x3] [] σ1 :=
  (rn_bl (fun p => Nat.beq p 5) 9 d 4 5 [.ref a0, .int x1, .int x2, .int x3] [] σ).trans rfl
theorem e_Pr_checkIndex (d : Nat) (x0 : Int32) (x1 : Int32) (σ : mm_M) : ev d 5 [.int x0, .int x1, uv] σ = if x0 < 0 then rn d 5 9 [.int x0, .int x1, uv] [] σ else if x0 < x1 then some (Sum.inl (Value.int (nar 0 x0)), σ) else rn d 5 9 [.int x0, .int x1, uv] [] σ :=
  (ev_in rfl).trans ((rn_bl (fun p => Nat.beq p 9) 7 d 5 0 [.int x0, .int x1, uv] [] σ).trans rfl)
theorem e_Pr_checkIndex_9 (d : Nat) (x0 : Int32) (x1 : Int32) (σ : mm_M) : rn d 5 9 [.int x0, .int x1, uv] [] σ = none :=
  (rn_bl (fun p => Nat.beq p 9) 1 d 5 9 [.int x0, .int x1, uv] [] σ).trans rfl
theorem e_S1_charAt (d : Nat) (a0 : Nat) (x1 : Int32) (σ : mm_M) : ev (d + 1) 6 [.ref a0, .int x1] σ = aN σ a0 fun r1 => cV1 (ev d 11 [.int x1, .int r1] σ) fun σ2 => aB σ2 a0 x1 fun r3 => some (Sum.inl (Value.int (nar 3 ((Int32.toUInt32 (r3 &&& (255 : Int32)) % 65536).toInt32))), σ2) :=
  (ev_in rfl).trans ((rn_bl (fun p => false) 11 (d + 1) 6 0 [.ref a0, .int x1] [] σ).trans rfl)
theorem e_S_length (d : Nat) (a0 : Nat) (σ : mm_M) (h0 : (mK σ a0).1 = 113) : ev (d + 1) 7 [.ref a0] σ = gR σ 13 a0 0 fun r1 => aN σ r1 fun r2 => cI (ev d 9 [.ref a0] σ) fun r4 σ3 => some (Sum.inl (Value.int (nar 0 (r2 >>> (r4 &&& 31)))), σ3) :=
  (ev_in (rok_of h0)).trans ((rn_bl (fun p => false) 7 (d + 1) 7 0 [.ref a0] [] σ).trans rfl)
theorem e_S_charAt (d : Nat) (a0 : Nat) (x1 : Int32) (σ : mm_M) (h0 : (mK σ a0).1 = 113) : ev (d + 1) 8 [.ref a0, .int x1] σ = cI (ev d 10 [.ref a0] σ) fun r2 σ1 => if r2 = 0 then gR σ1 13 a0 0 fun r3 => none else gR σ1 13 a0 0 fun r4 => cI1 (ev d 6 [.ref r4, .int x1] σ1) fun r6 σ5 => some (Sum.inl (Value.int (nar 3 r6)), σ5) :=
  (ev_in (rok_of h0)).trans ((rn_bl (fun p => false) 8 (d + 1) 8 0 [.ref a0, .int x1] [] σ).trans rfl)
theorem e_S_coder (d : Nat) (a0 : Nat) (σ : mm_M) (h0 : (mK σ a0).1 = 113) : ev d 9 [.ref a0] σ = if 1 = 0 then rn d 9 14 [.ref a0] [.int 1] σ else gI σ 13 a0 1 fun r1 => rn d 9 14 [.ref a0] [.int r1] σ :=
  (ev_in (rok_of h0)).trans ((rn_bl (fun p => Nat.beq p 14) 5 d 9 0 [.ref a0] [] σ).trans rfl)
theorem e_S_coder_14 (d : Nat) (a0 : Nat) (y0 : Int32) (σ : mm_M) : rn d 9 14 [.ref a0] [.int y0] σ = some (Sum.inl (Value.int (nar 2 y0)), σ) :=
  (rn_bl (fun p => Nat.beq p 14) 1 d 9 14 [.ref a0] [.int y0] σ).trans rfl
theorem e_S_isLatin1 (d : Nat) (a0 : Nat) (σ : mm_M) (h0 : (mK σ a0).1 = 113) : ev d 10 [.ref a0] σ = if 1 = 0 then rn d 10 17 [.ref a0] [] σ else gI σ 13 a0 1 fun r1 => if r1 = 0 then rn d 10 18 [.ref a0] [.int 1] σ else rn d 10 17 [.ref a0] [] σ :=
  (ev_in (rok_of h0)).trans ((rn_bl (fun p => Nat.beq p 17 || Nat.beq p 18) 7 d 10 0 [.ref a0] [] σ).trans rfl)
theorem e_S_isLatin1_17 (d : Nat) (a0 : Nat) (σ : mm_M) : rn d 10 17 [.ref a0] [] σ = rn d 10 18 [.ref a0] [.int 0] σ :=
  (rn_bl (fun p => Nat.beq p 17 || Nat.beq p 18) 1 d 10 17 [.ref a0] [] σ).trans rfl
theorem e_S_isLatin1_18 (d : Nat) (a0 : Nat) (y0 : Int32) (σ : mm_M) : rn d 10 18 [.ref a0] [.int y0] σ = some (Sum.inl (Value.int (nar 1 y0)), σ) :=
  (rn_bl (fun p => Nat.beq p 17 || Nat.beq p 18) 1 d 10 18 [.ref a0] [.int y0] σ).trans rfl
theorem e_S_checkIndex (d : Nat) (x0 : Int32) (x1 : Int32) (σ : mm_M) : ev (d + 1) 11 [.int x0, .int x1] σ = cI1 (ev d 5 [.int x0, .int x1, uv] σ) fun r2 σ1 => some (Sum.inl uv, σ1) :=
  (ev_in rfl).trans ((rn_bl (fun p => false) 6 (d + 1) 11 0 [.int x0, .int x1] [] σ).trans rfl)
theorem e_Tape_init (d : Nat) (a0 : Nat) (σ : mm_M) (h0 : (mK σ a0).1 = 101) : ev d 12 [.ref a0] σ = if mX σ = 0 ∧ mN σ < 1000000 ∧ ¬ (600 : Int32) < 0 ∧ (600 : Int32).toNatClampNeg ≤ 60000000 then sR (mA σ (3, ix 600) (ix 600)) 1 a0 0 (mN σ) fun σ1 => sI σ1 1 a0 9 (-1) fun σ2 => some (Sum.inl uv, σ2) else none :=
  (ev_in (rok_of h0)).trans ((rn_bl (fun p => false) 10 d 12 0 [.ref a0] [] σ).trans rfl)
theorem e_Tape_hasRoom (d : Nat) (a0 : Nat) (x1 : Int32) (σ : mm_M) (h0 : (mK σ a0).1 = 101) : ev d 13 [.ref a0, .int x1] σ = gI σ 1 a0 1 fun r1 => if 600 < (r1 + x1) then rn d 13 17 [.ref a0, .int x1] [.int 0] σ else rn d 13 17 [.ref a0, .int x1] [.int 1] σ :=
  (ev_in (rok_of h0)).trans ((rn_bl (fun p => Nat.beq p 17) 8 d 13 0 [.ref a0, .int x1] [] σ).trans rfl)
theorem e_Tape_hasRoom_17 (d : Nat) (a0 : Nat) (x1 : Int32) (y0 : Int32) (σ : mm_M) : rn d 13 17 [.ref a0, .int x1] [.int y0] σ = some (Sum.inl (Value.int (nar 1 y0)), σ) :=
  (rn_bl (fun p => Nat.beq p 17) 1 d 13 17 [.ref a0, .int x1] [.int y0] σ).trans rfl
theorem e_Tape_put (d : Nat) (a0 : Nat) (x1 : Int32) (σ : mm_M) (h0 : (mK σ a0).1 = 101) : ev d 14 [.ref a0, .int x1] σ = rn d 14 3 [.ref a0, .int x1, .int 24] [] σ :=
  (ev_in (rok_of h0)).trans ((rn_bl (fun p => Nat.beq p 3 || Nat.beq p 46) 2 d 14 0 [.ref a0, .int x1, uv] [] σ).trans rfl)
theorem e_Tape_put_3 (d : Nat) (a0 : Nat) (x1 : Int32) (x2 : Int32) (σ : mm_M) : rn d 14 3 [.ref a0, .int x1, .int x2] [] σ = if x2 < 0 then rn d 14 46 [.ref a0, .int x1, .int x2] [] σ else gI σ 1 a0 1 fun r1 => if 600 ≤ r1 then rn d 14 46 [.ref a0, .int x1, .int x2] [] σ else gR σ 1 a0 0 fun r2 => gI σ 1 a0 1 fun r3 => tB σ r2 r3 (Int8.toInt32 (Int32.toInt8 (x1 >>> (x2 &&& 31)))) fun σ4 => gI σ4 1 a0 1 fun r5 => sI σ4 1 a0 1 (r5 + (1 : Int32)) fun σ6 => rn d 14 3 [.ref a0, .int x1, .int (x2 + (-8))] [] σ6 :=
  (rn_bl (fun p => Nat.beq p 3 || Nat.beq p 46) 23 d 14 3 [.ref a0, .int x1, .int x2] [] σ).trans rfl
theorem e_Tape_put_46 (d : Nat) (a0 : Nat) (x1 : Int32) (x2 : Int32) (σ : mm_M) : rn d 14 46 [.ref a0, .int x1, .int x2] [] σ = some (Sum.inl uv, σ) :=
  (rn_bl (fun p => Nat.beq p 3 || Nat.beq p 46) 1 d 14 46 [.ref a0, .int x1, .int x2] [] σ).trans rfl
theorem e_Tape_drop (d : Nat) (a0 : Nat) (σ : mm_M) (h0 : (mK σ a0).1 = 101) : ev d 15 [.ref a0] σ = sI σ 1 a0 1 0 fun σ1 => sI σ1 1 a0 8 0 fun σ2 => sI σ2 1 a0 9 (-1) fun σ3 => some (Sum.inl uv, σ3) :=
  (ev_in (rok_of h0)).trans ((rn_bl (fun p => false) 10 d 15 0 [.ref a0] [] σ).trans rfl)
theorem e_Tape_open (d : Nat) (a0 : Nat) (x1 : Int32) (σ : mm_M) (h0 : (mK σ a0).1 = 101) : ev (d + 1) 16 [.ref a0, .int x1] σ = cV (ev d 15 [.ref a0] σ) fun σ1 => cI1 (ev d 2 [.int x1, .int 600] σ1) fun r3 σ2 => sI σ2 1 a0 2 r3 fun σ4 => sI σ4 1 a0 3 0 fun σ5 => cV (ev d 17 [.ref a0] σ5) fun σ6 => some (Sum.inl uv, σ6) :=
  (ev_in (rok_of h0)).trans ((rn_bl (fun p => false) 13 (d + 1) 16 0 [.ref a0, .int x1] [] σ).trans rfl)
theorem e_Tape_next (d : Nat) (a0 : Nat) (σ : mm_M) (h0 : (mK σ a0).1 = 101) : ev d 17 [.ref a0] σ = gI σ 1 a0 3 fun r1 => sI σ 1 a0 5 r1 fun σ2 => rn d 17 8 [.ref a0] [] σ2 :=
  (ev_in (rok_of h0)).trans ((rn_bl (fun p => Nat.beq p 8 || Nat.beq p 46 || Nat.beq p 59 || Nat.beq p 133 || Nat.beq p 149 || Nat.beq p 166 || Nat.beq p 218 || Nat.beq p 279) 4 d 17 0 [.ref a0] [] σ).trans rfl)
theorem e_Tape_next_8 (d : Nat) (a0 : Nat) (σ : mm_M) : rn d 17 8 [.ref a0] [] σ = gI σ 1 a0 5 fun r1 => gI σ 1 a0 2 fun r2 => if r2 ≤ r1 then rn d 17 46 [.ref a0] [] σ else gR σ 1 a0 0 fun r3 => gI σ 1 a0 5 fun r4 => aB σ r3 r4 fun r5 => if r5 = 32 then gI σ 1 a0 5 fun r6 => sI σ 1 a0 5 (r6 + (1 : Int32)) fun σ7 => rn d 17 8 [.ref a0] [] σ7 else rn d 17 46 [.ref a0] [] σ :=
  (rn_bl (fun p => Nat.beq p 8 || Nat.beq p 46 || Nat.beq p 59 || Nat.beq p 133 || Nat.beq p 149 || Nat.beq p 166 || Nat.beq p 218 || Nat.beq p 279) 19 d 17 8 [.ref a0] [] σ).trans rfl
theorem e_Tape_next_46 (d : Nat) (a0 : Nat) (σ : mm_M) : rn d 17 46 [.ref a0] [] σ = gI σ 1 a0 5 fun r1 => sI σ 1 a0 3 r1 fun σ2 => sI σ2 1 a0 6 0 fun σ3 => rn d 17 59 [.ref a0] [] σ3 :=
  (rn_bl (fun p => Nat.beq p 8 || Nat.beq p 46 || Nat.beq p 59 || Nat.beq p 133 || Nat.beq p 149 || Nat.beq p 166 || Nat.beq p 218 || Nat.beq p 279) 7 d 17 46 [.ref a0] [] σ).trans rfl
set_option maxRecDepth 100000 in
theorem e_Tape_next_59 (d : Nat) (a0 : Nat) (σ : mm_M) : rn d 17 59 [.ref a0] [] σ = gI σ 1 a0 3 fun r1 => gI σ 1 a0 2 fun r2 => if r2 ≤ r1 then rn d 17 149 [.ref a0] [] σ else gR σ 1 a0 0 fun r3 => gI σ 1 a0 3 fun r4 => aB σ r3 r4 fun r5 => if r5 < 48 then rn d 17 149 [.ref a0] [] σ else gR σ 1 a0 0 fun r6 => gI σ 1 a0 3 fun r7 => aB σ r6 r7 fun r8 => if 57 < r8 then rn d 17 149 [.ref a0] [] σ else gI σ 1 a0 6 fun r9 => if 100000 ≤ r9 then rn d 17 133 [.ref a0] [.int 100000, .ref a0] σ else gI σ 1 a0 6 fun r10 => gR σ 1 a0 0 fun r11 => gI σ 1 a0 3 fun r12 => aB σ r11 r12 fun r13 => rn d 17 133 [.ref a0] [.int (((r10 * (10 : Int32)) + r13) - (48 : Int32)), .ref a0] σ :=
  (rn_bl (fun p => Nat.beq p 8 || Nat.beq p 46 || Nat.beq p 59 || Nat.beq p 133 || Nat.beq p 149 || Nat.beq p 166 || Nat.beq p 218 || Nat.beq p 279) 37 d 17 59 [.ref a0] [] σ).trans rfl
theorem e_Tape_next_133 (d : Nat) (a0 : Nat) (y0 : Int32) (b1 : Nat) (σ : mm_M) : rn d 17 133 [.ref a0] [.int y0, .ref b1] σ = sI σ 1 b1 6 y0 fun σ1 => gI σ1 1 a0 3 fun r2 => sI σ1 1 a0 3 (r2 + (1 : Int32)) fun σ3 => rn d 17 59 [.ref a0] [] σ3 :=
  (rn_bl (fun p => Nat.beq p 8 || Nat.beq p 46 || Nat.beq p 59 || Nat.beq p 133 || Nat.beq p 149 || Nat.beq p 166 || Nat.beq p 218 || Nat.beq p 279) 8 d 17 133 [.ref a0] [.int y0, .ref b1] σ).trans rfl
theorem e_Tape_next_149 (d : Nat) (a0 : Nat) (σ : mm_M) : rn d 17 149 [.ref a0] [] σ = gI σ 1 a0 3 fun r1 => gI σ 1 a0 5 fun r2 => if r1 ≤ r2 then rn d 17 166 [.ref a0] [] σ else sI σ 1 a0 4 1 fun σ3 => some (Sum.inl uv, σ3) :=
  (rn_bl (fun p => Nat.beq p 8 || Nat.beq p 46 || Nat.beq p 59 || Nat.beq p 133 || Nat.beq p 149 || Nat.beq p 166 || Nat.beq p 218 || Nat.beq p 279) 9 d 17 149 [.ref a0] [] σ).trans rfl
theorem e_Tape_next_166 (d : Nat) (a0 : Nat) (σ : mm_M) : rn d 17 166 [.ref a0] [] σ = gI σ 1 a0 3 fun r1 => gI σ 1 a0 2 fun r2 => if r2 ≤ r1 then rn d 17 218 [.ref a0] [] σ else gR σ 1 a0 0 fun r3 => gI σ 1 a0 3 fun r4 => aB σ r3 r4 fun r5 => if r5 < 97 then rn d 17 218 [.ref a0] [] σ else gR σ 1 a0 0 fun r6 => gI σ 1 a0 3 fun r7 => aB σ r6 r7 fun r8 => if 122 < r8 then rn d 17 218 [.ref a0] [] σ else gI σ 1 a0 3 fun r9 => sI σ 1 a0 3 (r9 + (1 : Int32)) fun σ10 => rn d 17 166 [.ref a0] [] σ10 :=
  (rn_bl (fun p => Nat.beq p 8 || Nat.beq p 46 || Nat.beq p 59 || Nat.beq p 133 || Nat.beq p 149 || Nat.beq p 166 || Nat.beq p 218 || Nat.beq p 279) 26 d 17 166 [.ref a0] [] σ).trans rfl
theorem e_Tape_next_218 (d : Nat) (a0 : Nat) (σ : mm_M) : rn d 17 218 [.ref a0] [] σ = gI σ 1 a0 3 fun r1 => gI σ 1 a0 5 fun r2 => if r1 ≤ r2 then sI σ 1 a0 4 0 fun σ3 => gI σ3 1 a0 5 fun r4 => gI σ3 1 a0 2 fun r5 => if r5 ≤ r4 then rn d 17 279 [.ref a0] [] σ3 else sI σ3 1 a0 4 3 fun σ6 => gR σ6 1 a0 0 fun r7 => gI σ6 1 a0 5 fun r8 => aB σ6 r7 r8 fun r9 => sI σ6 1 a0 6 r9 fun σ10 => gI σ10 1 a0 3 fun r11 => sI σ10 1 a0 3 (r11 + (1 : Int32)) fun σ12 => rn d 17 279 [.ref a0] [] σ12 else sI σ 1 a0 4 2 fun σ13 => some (Sum.inl uv, σ13) :=
  (rn_bl (fun p => Nat.beq p 8 || Nat.beq p 46 || Nat.beq p 59 || Nat.beq p 133 || Nat.beq p 149 || Nat.beq p 166 || Nat.beq p 218 || Nat.beq p 279) 29 d 17 218 [.ref a0] [] σ).trans rfl
theorem e_Tape_next_279 (d : Nat) (a0 : Nat) (σ : mm_M) : rn d 17 279 [.ref a0] [] σ = some (Sum.inl uv, σ) :=
  (rn_bl (fun p => Nat.beq p 8 || Nat.beq p 46 || Nat.beq p 59 || Nat.beq p 133 || Nat.beq p 149 || Nat.beq p 166 || Nat.beq p 218 || Nat.beq p 279) 1 d 17 279 [.ref a0] [] σ).trans rfl
theorem e_Tape_isSign (d : Nat) (a0 : Nat) (x1 : Int32) (σ : mm_M) (h0 : (mK σ a0).1 = 101) : ev d 18 [.ref a0, .int x1] σ = gI σ 1 a0 4 fun r1 => if r1 = 3 then gI σ 1 a0 6 fun r2 => if r2 = x1 then rn d 18 21 [.ref a0, .int x1] [.int 1] σ else rn d 18 20 [.ref a0, .int x1] [] σ else rn d 18 20 [.ref a0, .int x1] [] σ :=
  (ev_in (rok_of h0)).trans ((rn_bl (fun p => Nat.beq p 20 || Nat.beq p 21) 10 d 18 0 [.ref a0, .int x1] [] σ).trans rfl)
theorem e_Tape_isSign_20 (d : Nat) (a0 : Nat) (x1 : Int32) (σ : mm_M) : rn d 18 20 [.ref a0, .int x1] [] σ = rn d 18 21 [.ref a0, .int x1] [.int 0] σ :=
  (rn_bl (fun p => Nat.beq p 20 || Nat.beq p 21) 1 d 18 20 [.ref a0, .int x1] [] σ).trans rfl
theorem e_Tape_isSign_21 (d : Nat) (a0 : Nat) (x1 : Int32) (y0 : Int32) (σ : mm_M) : rn d 18 21 [.ref a0, .int x1] [.int y0] σ = some (Sum.inl (Value.int (nar 1 y0)), σ) :=
  (rn_bl (fun p => Nat.beq p 20 || Nat.beq p 21) 1 d 18 21 [.ref a0, .int x1] [.int y0] σ).trans rfl
theorem e_Tape_atEnd (d : Nat) (a0 : Nat) (σ : mm_M) (h0 : (mK σ a0).1 = 101) : ev (d + 1) 19 [.ref a0] σ = gI σ 1 a0 4 fun r1 => if r1 = 0 then rn (d + 1) 19 19 [.ref a0] [] σ else gI σ 1 a0 5 fun r2 => cI (ev d 23 [.ref a0, .int 1, .int r2] σ) fun r4 σ3 => if r4 = 0 then rn (d + 1) 19 24 [.ref a0] [.int 0] σ3 else rn (d + 1) 19 19 [.ref a0] [] σ3 :=
  (ev_in (rok_of h0)).trans ((rn_bl (fun p => Nat.beq p 19 || Nat.beq p 24) 10 (d + 1) 19 0 [.ref a0] [] σ).trans rfl)
theorem e_Tape_atEnd_19 (d : Nat) (a0 : Nat) (σ : mm_M) : rn (d + 1) 19 19 [.ref a0] [] σ = rn (d + 1) 19 24 [.ref a0] [.int 1] σ :=
  (rn_bl (fun p => Nat.beq p 19 || Nat.beq p 24) 2 (d + 1) 19 19 [.ref a0] [] σ).trans rfl
theorem e_Tape_atEnd_24 (d : Nat) (a0 : Nat) (y0 : Int32) (σ : mm_M) : rn (d + 1) 19 24 [.ref a0] [.int y0] σ = some (Sum.inl (Value.int (nar 1 y0)), σ) :=
  (rn_bl (fun p => Nat.beq p 19 || Nat.beq p 24) 1 (d + 1) 19 24 [.ref a0] [.int y0] σ).trans rfl
theorem e_Tape_take (d : Nat) (a0 : Nat) (x1 : Int32) (σ : mm_M) (h0 : (mK σ a0).1 = 101) : ev (d + 1) 20 [.ref a0, .int x1] σ = cI (ev d 18 [.ref a0, .int x1] σ) fun r2 σ1 => if r2 = 0 then gI σ1 1 a0 5 fun r4 => cI (ev d 23 [.ref a0, .int 1, .int r4] σ1) fun r6 σ5 => some (Sum.inl (Value.int (nar 1 r6)), σ5) else cV (ev d 17 [.ref a0] σ1) fun σ3 => some (Sum.inl (Value.int (nar 1 1)), σ3) :=
  (ev_in (rok_of h0)).trans ((rn_bl (fun p => false) 10 (d + 1) 20 0 [.ref a0, .int x1] [] σ).trans rfl)
theorem e_Tape_takeNumber (d : Nat) (a0 : Nat) (x1 : Int32) (x2 : Int32) (σ : mm_M) (h0 : (mK σ a0).1 = 101) : ev (d + 1) 21 [.ref a0, .int x1, .int x2] σ = gI σ 1 a0 4 fun r1 => if r1 = 1 then gI σ 1 a0 6 fun r2 => if r2 < x1 then rn (d + 1) 21 36 [.ref a0, .int x1, .int x2, uv] [] σ else gI σ 1 a0 6 fun r3 => if r3 ≤ x2 then gI σ 1 a0 6 fun r4 => gI σ 1 a0 5 fun r5 => sI σ 1 a0 7 r5 fun σ6 => cV (ev d 17 [.ref a0] σ6) fun σ7 => some (Sum.inl (Value.int (nar 0 r4)), σ7) else rn (d + 1) 21 36 [.ref a0, .int x1, .int x2, uv] [] σ else gI σ 1 a0 5 fun r8 => cI (ev d 23 [.ref a0, .int 1, .int r8] σ) fun r10 σ9 => some (Sum.inl (Value.int (nar 0 (-1))), σ9) :=
  (ev_in (rok_of h0)).trans ((rn_bl (fun p => Nat.beq p 36) 23 (d + 1) 21 0 [.ref a0, .int x1, .int x2, uv] [] σ).trans rfl)
theorem e_Tape_takeNumber_36 (d : Nat) (a0 : Nat) (x1 : Int32) (x2 : Int32) (σ : mm_M) : rn (d + 1) 21 36 [.ref a0, .int x1, .int x2, uv] [] σ = gI σ 1 a0 5 fun r1 => cI (ev d 23 [.ref a0, .int 2, .int r1] σ) fun r3 σ2 => some (Sum.inl (Value.int (nar 0 (-1))), σ2) :=
  (rn_bl (fun p => Nat.beq p 36) 8 (d + 1) 21 36 [.ref a0, .int x1, .int x2, uv] [] σ).trans rfl
theorem e_Tape_wordOf (d : Nat) (a0 : Nat) (a1 : Nat) (σ : mm_M) (h0 : (mK σ a0).1 = 101) : ev (d + 1) 22 [.ref a0, .ref a1] σ = gI σ 1 a0 4 fun r1 => if r1 = 2 then rn (d + 1) 22 17 [.ref a0, .ref a1, .int 0, .int 0, .int 0] [] σ else some (Sum.inl (Value.int (nar 0 (-1))), σ) :=
  (ev_in (rok_of h0)).trans ((rn_bl (fun p => Nat.beq p 17 || Nat.beq p 46 || Nat.beq p 112 || Nat.beq p 114) 10 (d + 1) 22 0 [.ref a0, .ref a1, uv, uv, uv] [] σ).trans rfl)
set_option maxRecDepth 100000 in
theorem e_Tape_wordOf_17 (d : Nat) (a0 : Nat) (a1 : Nat) (x2 : Int32) (x3 : Int32) (x4 : Int32) (σ : mm_M) : rn (d + 1) 22 17 [.ref a0, .ref a1, .int x2, .int x3, .int x4] [] σ = cI (ev d 7 [.ref a1] σ) fun r2 σ1 => if r2 < x4 then some (Sum.inl (Value.int (nar 0 (-1))), σ1) else cI (ev d 7 [.ref a1] σ1) fun r4 σ3 => if x4 = r4 then rn (d + 1) 22 46 [.ref a0, .ref a1, .int x2, .int x3, .int x4] [] σ3 else cI (ev d 8 [.ref a1, .int x4] σ3) fun r6 σ5 => if r6 = 32 then rn (d + 1) 22 46 [.ref a0, .ref a1, .int x2, .int x3, .int x4] [] σ5 else if x3 < 0 then rn (d + 1) 22 112 [.ref a0, .ref a1, .int x2, .int x3, .int x4] [] σ5 else gI σ5 1 a0 5 fun r7 => gI σ5 1 a0 3 fun r8 => if r8 ≤ (r7 + x3) then rn (d + 1) 22 112 [.ref a0, .ref a1, .int x2, .int x3, .int x4] [] σ5 else gR σ5 1 a0 0 fun r9 => gI σ5 1 a0 5 fun r10 => aB σ5 r9 (r10 + x3) fun r11 => cI (ev d 8 [.ref a1, .int x4] σ5) fun r13 σ12 => if r11 = r13 then rn (d + 1) 22 114 [.ref a0, .ref a1, .int x2, .int (x3 + 1), .int x4] [] σ12 else rn (d + 1) 22 112 [.ref a0, .ref a1, .int x2, .int x3, .int x4] [] σ12 :=
  (rn_bl (fun p => Nat.beq p 17 || Nat.beq p 46 || Nat.beq p 112 || Nat.beq p 114) 35 (d + 1) 22 17 [.ref a0, .ref a1, .int x2, .int x3, .int x4] [] σ).trans rfl
theorem e_Tape_wordOf_46 (d : Nat) (a0 : Nat) (a1 : Nat) (x2 : Int32) (x3 : Int32) (x4 : Int32) (σ : mm_M) : rn (d + 1) 22 46 [.ref a0, .ref a1, .int x2, .int x3, .int x4] [] σ = gI σ 1 a0 3 fun r1 => gI σ 1 a0 5 fun r2 => if x3 = (r1 - r2) then some (Sum.inl (Value.int (nar 0 x2)), σ) else rn (d + 1) 22 114 [.ref a0, .ref a1, .int (x2 + 1), .int 0, .int x4] [] σ :=
  (rn_bl (fun p => Nat.beq p 17 || Nat.beq p 46 || Nat.beq p 112 || Nat.beq p 114) 11 (d + 1) 22 46 [.ref a0, .ref a1, .int x2, .int x3, .int x4] [] σ).trans rfl
theorem e_Tape_wordOf_112 (d : Nat) (a0 : Nat) (a1 : Nat) (x2 : Int32) (x3 : Int32) (x4 : Int32) (σ : mm_M) : rn (d + 1) 22 112 [.ref a0, .ref a1, .int x2, .int x3, .int x4] [] σ = rn (d + 1) 22 114 [.ref a0, .ref a1, .int x2, .int (-1), .int x4] [] σ :=
  (rn_bl (fun p => Nat.beq p 17 || Nat.beq p 46 || Nat.beq p 112 || Nat.beq p 114) 2 (d + 1) 22 112 [.ref a0, .ref a1, .int x2, .int x3, .int x4] [] σ).trans rfl
theorem e_Tape_wordOf_114 (d : Nat) (a0 : Nat) (a1 : Nat) (x2 : Int32) (x3 : Int32) (x4 : Int32) (σ : mm_M) : rn (d + 1) 22 114 [.ref a0, .ref a1, .int x2, .int x3, .int x4] [] σ = rn (d + 1) 22 17 [.ref a0, .ref a1, .int x2, .int x3, .int (x4 + 1)] [] σ :=
  (rn_bl (fun p => Nat.beq p 17 || Nat.beq p 46 || Nat.beq p 112 || Nat.beq p 114) 2 (d + 1) 22 114 [.ref a0, .ref a1, .int x2, .int x3, .int x4] [] σ).trans rfl
theorem e_Tape_fail (d : Nat) (a0 : Nat) (x1 : Int32) (x2 : Int32) (σ : mm_M) (h0 : (mK σ a0).1 = 101) : ev d 23 [.ref a0, .int x1, .int x2] σ = sI σ 1 a0 8 x1 fun σ1 => sI σ1 1 a0 9 x2 fun σ2 => some (Sum.inl (Value.int (nar 1 0)), σ2) :=
  (ev_in (rok_of h0)).trans ((rn_bl (fun p => false) 8 d 23 0 [.ref a0, .int x1, .int x2] [] σ).trans rfl)
theorem e_Days_init (d : Nat) (a0 : Nat) (σ : mm_M) (h0 : (mK σ a0).1 = 106) : ev d 24 [.ref a0] σ = if mX σ = 0 ∧ mN σ < 1000000 ∧ ¬ (79 : Int32) < 0 ∧ (79 : Int32).toNatClampNeg ≤ 60000000 then sR (mA σ (1, ix 79) (ix 79)) 6 a0 0 (mN σ) fun σ1 => some (Sum.inl uv, σ1) else none :=
  (ev_in (rok_of h0)).trans ((rn_bl (fun p => false) 7 d 24 0 [.ref a0] [] σ).trans rfl)
theorem e_Days_begin (d : Nat) (a0 : Nat) (x1 : Int32) (σ : mm_M) (h0 : (mK σ a0).1 = 106) : ev (d + 1) 25 [.ref a0, .int x1] σ = gR σ 6 a0 0 fun r1 => cV1 (ev d 4 [.ref r1, .int 0] σ) fun σ2 => gR σ2 6 a0 0 fun r3 => tI σ2 r3 1 x1 fun σ4 => some (Sum.inl uv, σ4) :=
  (ev_in (rok_of h0)).trans ((rn_bl (fun p => false) 10 (d + 1) 25 0 [.ref a0, .int x1] [] σ).trans rfl)
theorem e_Days_copy (d : Nat) (a0 : Nat) (a1 : Nat) (σ : mm_M) (h0 : (mK σ a0).1 = 106) : ev d 26 [.ref a0, .ref a1] σ = gR σ 6 a1 0 fun r1 => gR σ 6 a0 0 fun r2 => cpy σ r1 0 r2 0 79 fun σ3 => some (Sum.inl uv, σ3) :=
  (ev_in (rok_of h0)).trans ((rn_bl (fun p => false) 9 d 26 0 [.ref a0, .ref a1] [] σ).trans rfl)
theorem e_Days_dayNumber (d : Nat) (a0 : Nat) (σ : mm_M) (h0 : (mK σ a0).1 = 106) : ev d 27 [.ref a0] σ = gR σ 6 a0 0 fun r1 => aI σ r1 0 fun r2 => some (Sum.inl (Value.int (nar 0 r2)), σ) :=
  (ev_in (rok_of h0)).trans ((rn_bl (fun p => false) 5 d 27 0 [.ref a0] [] σ).trans rfl)
theorem e_Days_jugWater (d : Nat) (a0 : Nat) (σ : mm_M) (h0 : (mK σ a0).1 = 106) : ev d 28 [.ref a0] σ = gR σ 6 a0 0 fun r1 => aI σ r1 1 fun r2 => some (Sum.inl (Value.int (nar 0 r2)), σ) :=
  (ev_in (rok_of h0)).trans ((rn_bl (fun p => false) 5 d 28 0 [.ref a0] [] σ).trans rfl)
theorem e_Days_toldBits (d : Nat) (a0 : Nat) (σ : mm_M) (h0 : (mK σ a0).1 = 106) : ev d 29 [.ref a0] σ = gR σ 6 a0 0 fun r1 => aI σ r1 2 fun r2 => some (Sum.inl (Value.int (nar 0 r2)), σ) :=
  (ev_in (rok_of h0)).trans ((rn_bl (fun p => false) 5 d 29 0 [.ref a0] [] σ).trans rfl)
theorem e_Days_wasTold (d : Nat) (a0 : Nat) (x1 : Int32) (σ : mm_M) (h0 : (mK σ a0).1 = 106) : ev d 30 [.ref a0, .int x1] σ = gR σ 6 a0 0 fun r1 => aI σ r1 2 fun r2 => if ((r2 >>> (x1 &&& 31)) &&& (1 : Int32)) = 0 then rn d 30 18 [.ref a0, .int x1] [.int 0] σ else rn d 30 18 [.ref a0, .int x1] [.int 1] σ :=
  (ev_in (rok_of h0)).trans ((rn_bl (fun p => Nat.beq p 18) 11 d 30 0 [.ref a0, .int x1] [] σ).trans rfl)
theorem e_Days_wasTold_18 (d : Nat) (a0 : Nat) (x1 : Int32) (y0 : Int32) (σ : mm_M) : rn d 30 18 [.ref a0, .int x1] [.int y0] σ = some (Sum.inl (Value.int (nar 1 y0)), σ) :=
  (rn_bl (fun p => Nat.beq p 18) 1 d 30 18 [.ref a0, .int x1] [.int y0] σ).trans rfl
theorem e_Days_griefOf (d : Nat) (a0 : Nat) (x1 : Int32) (σ : mm_M) (h0 : (mK σ a0).1 = 106) : ev d 31 [.ref a0, .int x1] σ = gR σ 6 a0 0 fun r1 => aI σ r1 ((3 : Int32) + x1) fun r2 => some (Sum.inl (Value.int (nar 0 r2)), σ) :=
  (ev_in (rok_of h0)).trans ((rn_bl (fun p => false) 7 d 31 0 [.ref a0, .int x1] [] σ).trans rfl)
theorem e_Days_thirstOf (d : Nat) (a0 : Nat) (x1 : Int32) (σ : mm_M) (h0 : (mK σ a0).1 = 106) : ev d 32 [.ref a0, .int x1] σ = gR σ 6 a0 0 fun r1 => aI σ r1 ((10 : Int32) + x1) fun r2 => some (Sum.inl (Value.int (nar 0 r2)), σ) :=
  (ev_in (rok_of h0)).trans ((rn_bl (fun p => false) 7 d 32 0 [.ref a0, .int x1] [] σ).trans rfl)
theorem e_Days_timesOf (d : Nat) (a0 : Nat) (x1 : Int32) (σ : mm_M) (h0 : (mK σ a0).1 = 106) : ev d 33 [.ref a0, .int x1] σ = gR σ 6 a0 0 fun r1 => aI σ r1 ((17 : Int32) + x1) fun r2 => some (Sum.inl (Value.int (nar 0 r2)), σ) :=
  (ev_in (rok_of h0)).trans ((rn_bl (fun p => false) 7 d 33 0 [.ref a0, .int x1] [] σ).trans rfl)
theorem e_Days_laughedOf (d : Nat) (a0 : Nat) (x1 : Int32) (σ : mm_M) (h0 : (mK σ a0).1 = 106) : ev d 34 [.ref a0, .int x1] σ = gR σ 6 a0 0 fun r1 => aI σ r1 ((24 : Int32) + x1) fun r2 => some (Sum.inl (Value.int (nar 0 r2)), σ) :=
  (ev_in (rok_of h0)).trans ((rn_bl (fun p => false) 7 d 34 0 [.ref a0, .int x1] [] σ).trans rfl)
theorem e_Days_toldOf (d : Nat) (a0 : Nat) (x1 : Int32) (σ : mm_M) (h0 : (mK σ a0).1 = 106) : ev d 35 [.ref a0, .int x1] σ = gR σ 6 a0 0 fun r1 => aI σ r1 ((31 : Int32) + x1) fun r2 => some (Sum.inl (Value.int (nar 0 r2)), σ) :=
  (ev_in (rok_of h0)).trans ((rn_bl (fun p => false) 7 d 35 0 [.ref a0, .int x1] [] σ).trans rfl)
theorem e_Days_wornOf (d : Nat) (a0 : Nat) (x1 : Int32) (x2 : Int32) (σ : mm_M) (h0 : (mK σ a0).1 = 106) : ev d 36 [.ref a0, .int x1, .int x2] σ = gR σ 6 a0 0 fun r1 => aI σ r1 (((37 : Int32) + (x1 * (7 : Int32))) + x2) fun r2 => some (Sum.inl (Value.int (nar 0 r2)), σ) :=
  (ev_in (rok_of h0)).trans ((rn_bl (fun p => false) 11 d 36 0 [.ref a0, .int x1, .int x2] [] σ).trans rfl)
theorem e_Days_grieving (d : Nat) (a0 : Nat) (σ : mm_M) (h0 : (mK σ a0).1 = 106) : ev d 37 [.ref a0] σ = rn d 37 4 [.ref a0, .int 0, .int 0] [] σ :=
  (ev_in (rok_of h0)).trans ((rn_bl (fun p => Nat.beq p 4 || Nat.beq p 29) 4 d 37 0 [.ref a0, uv, uv] [] σ).trans rfl)
theorem e_Days_grieving_4 (d : Nat) (a0 : Nat) (x1 : Int32) (x2 : Int32) (σ : mm_M) : rn d 37 4 [.ref a0, .int x1, .int x2] [] σ = if 7 ≤ x2 then some (Sum.inl (Value.int (nar 0 x1)), σ) else gR σ 6 a0 0 fun r1 => aI σ r1 ((3 : Int32) + x2) fun r2 => if r2 ≤ 0 then rn d 37 29 [.ref a0, .int x1, .int x2] [.int 0, .int x1] σ else rn d 37 29 [.ref a0, .int x1, .int x2] [.int ((1 : Int32) <<< (x2 &&& 31)), .int x1] σ :=
  (rn_bl (fun p => Nat.beq p 4 || Nat.beq p 29) 15 d 37 4 [.ref a0, .int x1, .int x2] [] σ).trans rfl
theorem e_Days_grieving_29 (d : Nat) (a0 : Nat) (x1 : Int32) (x2 : Int32) (y0 : Int32) (y1 : Int32) (σ : mm_M) : rn d 37 29 [.ref a0, .int x1, .int x2] [.int y0, .int y1] σ = rn d 37 4 [.ref a0, .int (y1 ||| y0), .int (x2 + 1)] [] σ :=
  (rn_bl (fun p => Nat.beq p 4 || Nat.beq p 29) 4 d 37 29 [.ref a0, .int x1, .int x2] [.int y0, .int y1] σ).trans rfl
theorem e_Days_thirsty (d : Nat) (a0 : Nat) (σ : mm_M) (h0 : (mK σ a0).1 = 106) : ev d 38 [.ref a0] σ = rn d 38 4 [.ref a0, .int 0, .int 0] [] σ :=
  (ev_in (rok_of h0)).trans ((rn_bl (fun p => Nat.beq p 4 || Nat.beq p 30) 4 d 38 0 [.ref a0, uv, uv] [] σ).trans rfl)
theorem e_Days_thirsty_4 (d : Nat) (a0 : Nat) (x1 : Int32) (x2 : Int32) (σ : mm_M) : rn d 38 4 [.ref a0, .int x1, .int x2] [] σ = if 7 ≤ x2 then some (Sum.inl (Value.int (nar 0 x1)), σ) else gR σ 6 a0 0 fun r1 => aI σ r1 ((10 : Int32) + x2) fun r2 => if r2 ≤ 0 then rn d 38 30 [.ref a0, .int x1, .int x2] [.int 0, .int x1] σ else rn d 38 30 [.ref a0, .int x1, .int x2] [.int ((1 : Int32) <<< (x2 &&& 31)), .int x1] σ :=
  (rn_bl (fun p => Nat.beq p 4 || Nat.beq p 30) 15 d 38 4 [.ref a0, .int x1, .int x2] [] σ).trans rfl
theorem e_Days_thirsty_30 (d : Nat) (a0 : Nat) (x1 : Int32) (x2 : Int32) (y0 : Int32) (y1 : Int32) (σ : mm_M) : rn d 38 30 [.ref a0, .int x1, .int x2] [.int y0, .int y1] σ = rn d 38 4 [.ref a0, .int (y1 ||| y0), .int (x2 + 1)] [] σ :=
  (rn_bl (fun p => Nat.beq p 4 || Nat.beq p 30) 4 d 38 30 [.ref a0, .int x1, .int x2] [.int y0, .int y1] σ).trans rfl
theorem e_Days_allThirst (d : Nat) (a0 : Nat) (σ : mm_M) (h0 : (mK σ a0).1 = 106) : ev (d + 1) 39 [.ref a0] σ = cI (ev d 40 [.ref a0, .int 127, .int 99] σ) fun r2 σ1 => some (Sum.inl (Value.int (nar 0 r2)), σ1) :=
  (ev_in (rok_of h0)).trans ((rn_bl (fun p => false) 5 (d + 1) 39 0 [.ref a0] [] σ).trans rfl)
theorem e_Days_thirstUpTo (d : Nat) (a0 : Nat) (x1 : Int32) (x2 : Int32) (σ : mm_M) (h0 : (mK σ a0).1 = 106) : ev (d + 1) 40 [.ref a0, .int x1, .int x2] σ = rn (d + 1) 40 5 [.ref a0, .int x1, .int x2, .int 0, .int 0] [] σ :=
  (ev_in (rok_of h0)).trans ((rn_bl (fun p => Nat.beq p 5 || Nat.beq p 38) 4 (d + 1) 40 0 [.ref a0, .int x1, .int x2, uv, uv] [] σ).trans rfl)
theorem e_Days_thirstUpTo_5 (d : Nat) (a0 : Nat) (x1 : Int32) (x2 : Int32) (x3 : Int32) (x4 : Int32) (σ : mm_M) : rn (d + 1) 40 5 [.ref a0, .int x1, .int x2, .int x3, .int x4] [] σ = if 7 ≤ x4 then some (Sum.inl (Value.int (nar 0 x3)), σ) else if ((x1 >>> (x4 &&& 31)) &&& (1 : Int32)) = 0 then rn (d + 1) 40 38 [.ref a0, .int x1, .int x2, .int x3, .int x4] [] σ else gR σ 6 a0 0 fun r1 => aI σ r1 ((10 : Int32) + x4) fun r2 => cI1 (ev d 2 [.int r2, .int x2] σ) fun r4 σ3 => rn (d + 1) 40 38 [.ref a0, .int x1, .int x2, .int (x3 + r4), .int x4] [] σ3 :=
  (rn_bl (fun p => Nat.beq p 5 || Nat.beq p 38) 20 (d + 1) 40 5 [.ref a0, .int x1, .int x2, .int x3, .int x4] [] σ).trans rfl
theorem e_Days_thirstUpTo_38 (d : Nat) (a0 : Nat) (x1 : Int32) (x2 : Int32) (x3 : Int32) (x4 : Int32) (σ : mm_M) : rn (d + 1) 40 38 [.ref a0, .int x1, .int x2, .int x3, .int x4] [] σ = rn (d + 1) 40 5 [.ref a0, .int x1, .int x2, .int x3, .int (x4 + 1)] [] σ :=
  (rn_bl (fun p => Nat.beq p 5 || Nat.beq p 38) 2 (d + 1) 40 38 [.ref a0, .int x1, .int x2, .int x3, .int x4] [] σ).trans rfl
set_option maxRecDepth 100000 in
theorem e_Days_hear (d : Nat) (a0 : Nat) (x1 : Int32) (x2 : Int32) (x3 : Int32) (x4 : Int32) (σ : mm_M) (h0 : (mK σ a0).1 = 106) : ev (d + 1) 41 [.ref a0, .int x1, .int x2, .int x3, .int x4] σ = gR σ 6 a0 0 fun r1 => aI σ r1 2 fun r2 => tI σ r1 2 (r2 ||| ((1 : Int32) <<< (x2 &&& 31))) fun σ3 => gR σ3 6 a0 0 fun r4 => aI σ3 r4 ((17 : Int32) + x2) fun r5 => tI σ3 r4 ((17 : Int32) + x2) (r5 + (1 : Int32)) fun σ6 => gR σ6 6 a0 0 fun r7 => aI σ6 r7 ((24 : Int32) + x2) fun r8 => tI σ6 r7 ((24 : Int32) + x2) (r8 + x3) fun σ9 => gR σ9 6 a0 0 fun r10 => aI σ9 r10 ((31 : Int32) + x1) fun r11 => tI σ9 r10 ((31 : Int32) + x1) (r11 + (1 : Int32)) fun σ12 => gR σ12 6 a0 0 fun r13 => aI σ12 r13 (((37 : Int32) + (x1 * (7 : Int32))) + x2) fun r14 => tI σ12 r13 (((37 : Int32) + (x1 * (7 : Int32))) + x2) (r14 + (1 : Int32)) fun σ15 => gR σ15 6 a0 0 fun r16 => gR σ15 6 a0 0 fun r17 => aI σ15 r17 1 fun r18 => cI1 (ev d 2 [.int (r18 + x4), .int 999] σ15) fun r20 σ19 => tI σ19 r16 1 r20 fun σ21 => some (Sum.inl uv, σ21) :=
  (ev_in (rok_of h0)).trans ((rn_bl (fun p => false) 67 (d + 1) 41 0 [.ref a0, .int x1, .int x2, .int x3, .int x4] [] σ).trans rfl)
theorem e_Days_grieve (d : Nat) (a0 : Nat) (x1 : Int32) (x2 : Int32) (σ : mm_M) (h0 : (mK σ a0).1 = 106) : ev d 42 [.ref a0, .int x1, .int x2] σ = gR σ 6 a0 0 fun r1 => aI σ r1 ((3 : Int32) + x1) fun r2 => if r2 < x2 then gR σ 6 a0 0 fun r3 => tI σ r3 ((3 : Int32) + x1) x2 fun σ4 => some (Sum.inl (Value.int (nar 1 1)), σ4) else some (Sum.inl (Value.int (nar 1 0)), σ) :=
  (ev_in (rok_of h0)).trans ((rn_bl (fun p => false) 17 d 42 0 [.ref a0, .int x1, .int x2] [] σ).trans rfl)
theorem e_Days_cheer (d : Nat) (a0 : Nat) (x1 : Int32) (σ : mm_M) (h0 : (mK σ a0).1 = 106) : ev d 43 [.ref a0, .int x1] σ = gR σ 6 a0 0 fun r1 => aI σ r1 ((3 : Int32) + x1) fun r2 => if r2 = 0 then some (Sum.inl (Value.int (nar 1 0)), σ) else gR σ 6 a0 0 fun r3 => tI σ r3 ((3 : Int32) + x1) 0 fun σ4 => some (Sum.inl (Value.int (nar 1 1)), σ4) :=
  (ev_in (rok_of h0)).trans ((rn_bl (fun p => false) 16 d 43 0 [.ref a0, .int x1] [] σ).trans rfl)
theorem e_Days_pour (d : Nat) (a0 : Nat) (x1 : Int32) (σ : mm_M) (h0 : (mK σ a0).1 = 106) : ev d 44 [.ref a0, .int x1] σ = gR σ 6 a0 0 fun r1 => aI σ r1 1 fun r2 => if x1 ≤ r2 then gR σ 6 a0 0 fun r3 => aI σ r3 1 fun r4 => tI σ r3 1 (r4 - x1) fun σ5 => some (Sum.inl (Value.int (nar 1 1)), σ5) else some (Sum.inl (Value.int (nar 1 0)), σ) :=
  (ev_in (rok_of h0)).trans ((rn_bl (fun p => false) 16 d 44 0 [.ref a0, .int x1] [] σ).trans rfl)
theorem e_Days_passDay (d : Nat) (a0 : Nat) (a1 : Nat) (σ : mm_M) (h0 : (mK σ a0).1 = 106) : ev (d + 1) 45 [.ref a0, .ref a1] σ = rn (d + 1) 45 2 [.ref a0, .ref a1, .int 0, uv, uv] [] σ :=
  (ev_in (rok_of h0)).trans ((rn_bl (fun p => Nat.beq p 2 || Nat.beq p 79) 2 (d + 1) 45 0 [.ref a0, .ref a1, uv, uv, uv] [] σ).trans rfl)
set_option maxRecDepth 100000 in
theorem e_Days_passDay_2 (d : Nat) (a0 : Nat) (a1 : Nat) (x2 : Int32) (v3 : Value) (v4 : Value) (σ : mm_M) : rn (d + 1) 45 2 [.ref a0, .ref a1, .int x2, v3, v4] [] σ = gI σ 3 a1 7 fun r1 => if r1 ≤ x2 then gR σ 6 a0 0 fun r2 => tI σ r2 2 0 fun σ3 => gR σ3 6 a0 0 fun r4 => aI σ3 r4 0 fun r5 => tI σ3 r4 0 (r5 + (1 : Int32)) fun σ6 => some (Sum.inl uv, σ6) else gR σ 6 a0 0 fun r7 => aI σ r7 1 fun r8 => gI σ 3 a1 11 fun r9 => cI1 (ev d 2 [.int r8, .int r9] σ) fun r11 σ10 => gR σ10 6 a0 0 fun r12 => aI σ10 r12 1 fun r13 => tI σ10 r12 1 (r13 - r11) fun σ14 => gR σ14 6 a0 0 fun r15 => aI σ14 r15 ((10 : Int32) + x2) fun r16 => gI σ14 3 a1 11 fun r17 => gR σ14 6 a0 0 fun r18 => gI σ14 3 a1 11 fun r19 => if r11 = r19 then rn (d + 1) 45 79 [.ref a0, .ref a1, .int x2, .int r11, .int ((r16 + r17) - r11)] [.int 0, .int ((10 : Int32) + x2), .ref r18] σ14 else cI1 (ev d 2 [.int ((r16 + r17) - r11), .int 99] σ14) fun r21 σ20 => rn (d + 1) 45 79 [.ref a0, .ref a1, .int x2, .int r11, .int ((r16 + r17) - r11)] [.int r21, .int ((10 : Int32) + x2), .ref r18] σ20 :=
  (rn_bl (fun p => Nat.beq p 2 || Nat.beq p 79) 44 (d + 1) 45 2 [.ref a0, .ref a1, .int x2, v3, v4] [] σ).trans rfl
theorem e_Days_passDay_79 (d : Nat) (a0 : Nat) (a1 : Nat) (x2 : Int32) (x3 : Int32) (x4 : Int32) (y0 : Int32) (y1 : Int32) (b2 : Nat) (σ : mm_M) : rn (d + 1) 45 79 [.ref a0, .ref a1, .int x2, .int x3, .int x4] [.int y0, .int y1, .ref b2] σ = tI σ b2 y1 y0 fun σ1 => gR σ1 6 a0 0 fun r2 => gR σ1 6 a0 0 fun r3 => aI σ1 r3 ((3 : Int32) + x2) fun r4 => cI1 (ev d 1 [.int (r4 - (1 : Int32)), .int 0] σ1) fun r6 σ5 => tI σ5 r2 ((3 : Int32) + x2) r6 fun σ7 => rn (d + 1) 45 2 [.ref a0, .ref a1, .int (x2 + 1), .int x3, .int x4] [] σ7 :=
  (rn_bl (fun p => Nat.beq p 2 || Nat.beq p 79) 19 (d + 1) 45 79 [.ref a0, .ref a1, .int x2, .int x3, .int x4] [.int y0, .int y1, .ref b2] σ).trans rfl
