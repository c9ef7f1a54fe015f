def shC : SH := fun G k i x => match k with
  | 0 => .inr (8, [.ref (G.2.2 1 0), .ref (G.2.2 2 0), .ref (G.2.2 3 0), .ref (G.2.2 4 0), .ref (G.2.2 5 0), .ref (G.2.2 6 0), .ref (G.2.2 6 1), .ref (G.2.2 7 0), .int (x 8)])
  | 1 => .inr (7, [.ref (G.2.2 9 0), .ref (G.2.2 10 0), .ref (G.2.2 11 0), .ref (G.2.2 12 0), .ref (G.2.2 13 0), .ref (G.2.2 14 0), .int (x 6), .int (x 7), .int (x 8)])
  | 2 => .inr (5, [.ref (G.2.2 15 0), .ref (G.2.2 16 0), .ref (G.2.2 17 0), .ref (G.2.2 18 0), .ref (G.2.2 19 0), .ref (G.2.2 20 0), .ref (G.2.2 21 0), .ref (G.2.2 22 0), .int (x 8), .int (x 9), .int (x 10)])
  | 3 => .inr (6, [.ref (G.2.2 23 0), .int (x 1), .int (x 2), .int (x 3)])
  | 4 => .inr (3, [.ref (G.2.2 24 0), .int (x 1)])
  | 5 => .inr (4, [.ref (G.2.2 1 0), .ref (G.2.2 25 0), .ref (G.2.2 26 0), rfn G (x 3), .int (x 4), .int (x 5)])
  | 6 => .inr (1, [.ref (G.2.2 1 0), .ref (G.2.2 4 0), .ref (G.2.2 5 0), .ref (G.2.2 27 i), .ref (G.2.2 28 i), .ref (G.2.2 29 i), .ref (G.2.2 30 i), .ref (G.2.2 31 i), .ref (G.2.2 32 i), .ref (G.2.2 33 i), .ref (G.2.2 34 i), .int (x 11), .int (x 12), .int (x 13)])
  | 7 => .inr (2, [.ref (G.2.2 35 0), .int (x 1)])
  | 8 => .inr (0, [.ref (G.2.2 36 i), .int (x 1), .int (x 2), .int (x 3), .int (x 4), .int (x 5), .int (x 6)])
  | 9 => .inl (G.2.1.1, 160, .inl x)
  | 10 => .inl (G.2.1.1, 160, .inl x)
  | 11 => .inl (G.2.1.1, 160, .inl x)
  | 12 => .inl (G.2.1.1, 160, .inl x)
  | 13 => .inl (G.2.1.2.1, 160, .inl x)
  | 14 => .inl (G.2.1.2.1, 160, .inl x)
  | 15 => .inl (G.2.1.1, 40, .inl x)
  | 16 => .inl (G.2.1.1, 40, .inl x)
  | 17 => .inl (G.2.1.1, 40, .inl x)
  | 18 => .inl (G.2.1.1, 40, .inl x)
  | 19 => .inl (G.2.1.1, 40, .inl x)
  | 20 => .inl (G.2.1.1, 8, .inl x)
  | 21 => .inl (G.2.1.1, 40, .inl x)
  | 22 => .inl (G.2.1.1, 40, .inl x)
  | 23 => .inl (G.2.1.1, 60, .inl x)
  | 24 => .inl (G.2.1.2.2, 20, .inr (.inr (.inr (.inr (fun j => some (G.2.2 8 j))))))
  | 25 => .inl (G.2.1.1, 13, .inl x)
  | 26 => .inl (G.2.1.1, 6, .inl x)
  | 27 => .inl (G.2.1.1, 160, .inl x)
  | 28 => .inl (G.2.1.1, 160, .inl x)
  | 29 => .inl (G.2.1.1, 160, .inl x)
  | 30 => .inl (G.2.1.1, 960, .inl x)
  | 31 => .inl (G.2.1.1, 160, .inl x)
  | 32 => .inl (G.2.1.2.1, 160, .inl x)
  | 33 => .inl (G.2.1.1, 160, .inl x)
  | 34 => .inl (G.2.1.1, 160, .inl x)
  | 35 => .inl (G.2.1.1, 88, .inl x)
  | _ => .inl (G.2.1.1, 12, .inl x)
def idsC : List (Nat × Nat) := [(0, 0), (1, 0), (2, 0), (3, 0), (4, 0), (5, 0), (6, 0), (6, 1), (7, 0), (8, 0), (8, 1), (8, 2), (8, 3), (8, 4), (8, 5), (8, 6), (8, 7), (8, 8), (8, 9), (8, 10), (8, 11), (8, 12), (8, 13), (8, 14), (8, 15), (8, 16), (8, 17), (8, 18), (8, 19), (9, 0), (10, 0), (11, 0), (12, 0), (13, 0), (14, 0), (15, 0), (16, 0), (17, 0), (18, 0), (19, 0), (20, 0), (21, 0), (22, 0), (23, 0), (24, 0), (25, 0), (26, 0), (27, 0), (27, 1), (28, 0), (28, 1), (29, 0), (29, 1), (30, 0), (30, 1), (31, 0), (31, 1), (32, 0), (32, 1), (33, 0), (33, 1), (34, 0), (34, 1), (35, 0), (36, 0), (36, 1), (36, 2), (36, 3), (36, 4), (36, 5), (36, 6), (36, 7), (36, 8), (36, 9), (36, 10), (36, 11), (36, 12), (36, 13), (36, 14), (36, 15), (36, 16), (36, 17), (36, 18), (36, 19)]
theorem ndC : idsC.Nodup := by decide +kernel
theorem idC_0 : idsC[0]? = some (0, 0) := by decide +kernel
theorem idC_1 : idsC[1]? = some (1, 0) := by decide +kernel
theorem idC_2 : idsC[2]? = some (2, 0) := by decide +kernel
theorem idC_3 : idsC[3]? = some (3, 0) := by decide +kernel
theorem idC_4 : idsC[4]? = some (4, 0) := by decide +kernel
theorem idC_5 : idsC[5]? = some (5, 0) := by decide +kernel
theorem idC_6 : ∀ i, i < 2 → idsC[6 + i]? = some (6, i) := by decide +kernel
theorem idC_7 : idsC[8]? = some (7, 0) := by decide +kernel
theorem idC_8 : ∀ i, i < 20 → idsC[9 + i]? = some (8, i) := by decide +kernel
theorem idC_9 : idsC[29]? = some (9, 0) := by decide +kernel
theorem idC_10 : idsC[30]? = some (10, 0) := by decide +kernel
theorem idC_11 : idsC[31]? = some (11, 0) := by decide +kernel
theorem idC_12 : idsC[32]? = some (12, 0) := by decide +kernel
theorem idC_13 : idsC[33]? = some (13, 0) := by decide +kernel
theorem idC_14 : idsC[34]? = some (14, 0) := by decide +kernel
theorem idC_15 : idsC[35]? = some (15, 0) := by decide +kernel
theorem idC_16 : idsC[36]? = some (16, 0) := by decide +kernel
theorem idC_17 : idsC[37]? = some (17, 0) := by decide +kernel
theorem idC_18 : idsC[38]? = some (18, 0) := by decide +kernel
theorem idC_19 : idsC[39]? = some (19, 0) := by decide +kernel
theorem idC_20 : idsC[40]? = some (20, 0) := by decide +kernel
theorem idC_21 : idsC[41]? = some (21, 0) := by decide +kernel
theorem idC_22 : idsC[42]? = some (22, 0) := by decide +kernel
theorem idC_23 : idsC[43]? = some (23, 0) := by decide +kernel
theorem idC_24 : idsC[44]? = some (24, 0) := by decide +kernel
theorem idC_25 : idsC[45]? = some (25, 0) := by decide +kernel
theorem idC_26 : idsC[46]? = some (26, 0) := by decide +kernel
theorem idC_27 : ∀ i, i < 2 → idsC[47 + i]? = some (27, i) := by decide +kernel
theorem idC_28 : ∀ i, i < 2 → idsC[49 + i]? = some (28, i) := by decide +kernel
theorem idC_29 : ∀ i, i < 2 → idsC[51 + i]? = some (29, i) := by decide +kernel
theorem idC_30 : ∀ i, i < 2 → idsC[53 + i]? = some (30, i) := by decide +kernel
theorem idC_31 : ∀ i, i < 2 → idsC[55 + i]? = some (31, i) := by decide +kernel
theorem idC_32 : ∀ i, i < 2 → idsC[57 + i]? = some (32, i) := by decide +kernel
theorem idC_33 : ∀ i, i < 2 → idsC[59 + i]? = some (33, i) := by decide +kernel
theorem idC_34 : ∀ i, i < 2 → idsC[61 + i]? = some (34, i) := by decide +kernel
theorem idC_35 : idsC[63]? = some (35, 0) := by decide +kernel
theorem idC_36 : ∀ i, i < 20 → idsC[64 + i]? = some (36, i) := by decide +kernel
def shM : SH := fun G k i x => match k with
  | 0 => .inr (9, [.int (x 0), .ref (G.2.2 1 0), .ref (G.2.2 2 0), .ref (G.2.2 3 0), .ref (G.2.2 4 0), .int (x 5), .ref (G.2.2 5 0), .int (x 7), .ref (G.2.2 6 0), .ref (G.2.2 7 0), .int (x 10), .int (x 11), .ref (G.2.2 8 0), .ref (G.2.2 9 0), .ref (G.2.2 10 0), .ref (G.2.2 11 0), .ref (G.2.2 12 0), .ref (G.2.2 13 0), .ref (G.2.2 14 0), .ref (G.2.2 15 0), .int (x 20), .int (x 21), .int (x 22), .ref (G.2.2 16 0), .ref (G.2.2 17 0), .ref (G.2.2 18 0), .ref (G.2.2 19 0), .ref (G.2.2 20 0), .ref (G.2.2 21 0), .ref (G.2.2 22 0), .ref (G.2.2 23 0), .ref (G.2.2 24 0), .ref (G.2.2 25 0), .int (x 33), .int (x 34), .int (x 35), .ref (G.2.2 26 0), .ref (G.2.2 27 0), .ref (G.2.2 28 0), .ref (G.2.2 29 0), .int (x 40), .ref (G.2.2 30 0), .ref (G.2.2 31 0), .ref (G.2.2 32 0), .ref (G.2.2 33 0), .ref (G.2.2 34 0), .int (x 46), .ref (G.2.2 35 0), .ref (G.2.2 36 0), .ref (G.2.2 37 0), .int (x 50), .ref (G.2.2 38 0), .ref (G.2.2 39 0)])
  | 1 => .inl (G.2.1.1, 40, .inl x)
  | 2 => .inl (G.2.1.1, 40, .inl x)
  | 3 => .inl (G.2.1.1, 40, .inl x)
  | 4 => .inl (G.2.1.1, 40, .inl x)
  | 5 => .inl (G.2.1.1, 8, .inl x)
  | 6 => .inl (G.2.1.1, 4200, .inl x)
  | 7 => .inl (G.2.1.1, 4200, .inl x)
  | 8 => .inl (G.2.1.1, 200, .inl x)
  | 9 => .inl (G.2.1.1, 200, .inl x)
  | 10 => .inl (G.2.1.1, 200, .inl x)
  | 11 => .inl (G.2.1.1, 40, .inl x)
  | 12 => .inl (G.2.1.1, 200, .inl x)
  | 13 => .inl (G.2.1.2.1, 200, .inl x)
  | 14 => .inl (G.2.1.2.1, 200, .inl x)
  | 15 => .inl (G.2.1.1, 60, .inl x)
  | 16 => .inl (G.2.1.2.1, 20, .inl x)
  | 17 => .inl (G.2.1.1, 20, .inl x)
  | 18 => .inl (G.2.1.1, 20, .inl x)
  | 19 => .inl (G.2.1.1, 20, .inl x)
  | 20 => .inl (G.2.1.1, 20, .inl x)
  | 21 => .inl (G.2.1.1, 20, .inl x)
  | 22 => .inl (G.2.1.1, 240, .inl x)
  | 23 => .inl (G.2.1.1, 240, .inl x)
  | 24 => .inl (G.2.1.1, 240, .inl x)
  | 25 => .inl (G.2.1.1, 240, .inl x)
  | 26 => .inl (G.2.1.1, 16, .inl x)
  | 27 => .inl (G.2.1.2.1, 16, .inl x)
  | 28 => .inl (G.2.1.1, 12, .inl x)
  | 29 => .inl (G.2.1.1, 6, .inl x)
  | 30 => .inl (G.2.1.2.1, 400, .inl x)
  | 31 => .inl (G.2.1.1, 400, .inl x)
  | 32 => .inl (G.2.1.1, 400, .inl x)
  | 33 => .inl (G.2.1.1, 400, .inl x)
  | 34 => .inl (G.2.1.1, 2400, .inl x)
  | 35 => .inl (G.2.1.1, 200, .inl x)
  | 36 => .inl (G.2.1.2.1, 200, .inl x)
  | 37 => .inl (G.2.1.1, 1400, .inl x)
  | 38 => .inl (G.2.1.1, 200, .inl x)
  | _ => .inl (G.2.1.1, 12, .inl x)
def idsM : List (Nat × Nat) := [(0, 0), (1, 0), (2, 0), (3, 0), (4, 0), (5, 0), (6, 0), (7, 0), (8, 0), (9, 0), (10, 0), (11, 0), (12, 0), (13, 0), (14, 0), (15, 0), (16, 0), (17, 0), (18, 0), (19, 0), (20, 0), (21, 0), (22, 0), (23, 0), (24, 0), (25, 0), (26, 0), (27, 0), (28, 0), (29, 0), (30, 0), (31, 0), (32, 0), (33, 0), (34, 0), (35, 0), (36, 0), (37, 0), (38, 0), (39, 0)]
theorem ndM : idsM.Nodup := by decide +kernel
theorem idM_0 : idsM[0]? = some (0, 0) := by decide +kernel
theorem idM_1 : idsM[1]? = some (1, 0) := by decide +kernel
theorem idM_2 : idsM[2]? = some (2, 0) := by decide +kernel
theorem idM_3 : idsM[3]? = some (3, 0) := by decide +kernel
theorem idM_4 : idsM[4]? = some (4, 0) := by decide +kernel
theorem idM_5 : idsM[5]? = some (5, 0) := by decide +kernel
theorem idM_6 : idsM[6]? = some (6, 0) := by decide +kernel
theorem idM_7 : idsM[7]? = some (7, 0) := by decide +kernel
theorem idM_8 : idsM[8]? = some (8, 0) := by decide +kernel
theorem idM_9 : idsM[9]? = some (9, 0) := by decide +kernel
theorem idM_10 : idsM[10]? = some (10, 0) := by decide +kernel
theorem idM_11 : idsM[11]? = some (11, 0) := by decide +kernel
theorem idM_12 : idsM[12]? = some (12, 0) := by decide +kernel
theorem idM_13 : idsM[13]? = some (13, 0) := by decide +kernel
theorem idM_14 : idsM[14]? = some (14, 0) := by decide +kernel
theorem idM_15 : idsM[15]? = some (15, 0) := by decide +kernel
theorem idM_16 : idsM[16]? = some (16, 0) := by decide +kernel
theorem idM_17 : idsM[17]? = some (17, 0) := by decide +kernel
theorem idM_18 : idsM[18]? = some (18, 0) := by decide +kernel
theorem idM_19 : idsM[19]? = some (19, 0) := by decide +kernel
theorem idM_20 : idsM[20]? = some (20, 0) := by decide +kernel
theorem idM_21 : idsM[21]? = some (21, 0) := by decide +kernel
theorem idM_22 : idsM[22]? = some (22, 0) := by decide +kernel
theorem idM_23 : idsM[23]? = some (23, 0) := by decide +kernel
theorem idM_24 : idsM[24]? = some (24, 0) := by decide +kernel
theorem idM_25 : idsM[25]? = some (25, 0) := by decide +kernel
theorem idM_26 : idsM[26]? = some (26, 0) := by decide +kernel
theorem idM_27 : idsM[27]? = some (27, 0) := by decide +kernel
theorem idM_28 : idsM[28]? = some (28, 0) := by decide +kernel
theorem idM_29 : idsM[29]? = some (29, 0) := by decide +kernel
theorem idM_30 : idsM[30]? = some (30, 0) := by decide +kernel
theorem idM_31 : idsM[31]? = some (31, 0) := by decide +kernel
theorem idM_32 : idsM[32]? = some (32, 0) := by decide +kernel
theorem idM_33 : idsM[33]? = some (33, 0) := by decide +kernel
theorem idM_34 : idsM[34]? = some (34, 0) := by decide +kernel
theorem idM_35 : idsM[35]? = some (35, 0) := by decide +kernel
theorem idM_36 : idsM[36]? = some (36, 0) := by decide +kernel
theorem idM_37 : idsM[37]? = some (37, 0) := by decide +kernel
theorem idM_38 : idsM[38]? = some (38, 0) := by decide +kernel
theorem idM_39 : idsM[39]? = some (39, 0) := by decide +kernel
theorem sh5_put (x : Nat → Int32) {G : GT} {i : Nat} (h : i < 2 ^ 31) : shC G 5 0 (upd x 3 (nI i)) = .inr (4, ([.ref (G.2.2 1 0), .ref (G.2.2 25 0), .ref (G.2.2 26 0), rfn G (x 3), .int (x 4), .int (x 5)] : List Value).set 3 (.ref (G.2.2 8 i))) := by
  rw [← rfn_nI (G := G) h]
  rfl
