-- CellCover$Vertices.add(III)I
def f_X7_add (a0 : Int32) (a1 : Int32) (a2 : Int32) (S : St) : Option (Int32 × St) :=
  lt_ (S 1 0 6) (fun v_1 => if v_1 < 160 then gd (ix v_1 160) (lt_ (put S 9 0 v_1.toNatClampNeg a0) (fun S_4 => gd (ix v_1 160) (lt_ (put S_4 10 0 v_1.toNatClampNeg a1) (fun S_6 => gd (ix v_1 160) (lt_ (put S_6 11 0 v_1.toNatClampNeg a2) (fun S_8 => lt_ (put S_8 1 0 6 ((S_8 1 0 6) + 1)) (fun S_9 => some (v_1, S_9)))))))) else some (v_1 - 1, S))
-- CellCover$Net.addNode(III)I
def f_X5_addNode (a0 : Int32) (a1 : Int32) (a2 : Int32) (S : St) : Option (Int32 × St) :=
  lt_ (S 2 0 8) (fun v_1 => gd (ix v_1 40) (lt_ (put S 15 0 v_1.toNatClampNeg a0) (fun S_3 => gd (ix v_1 40) (lt_ (put S_3 21 0 v_1.toNatClampNeg a1) (fun S_5 => gd (ix v_1 40) (lt_ (put S_5 22 0 v_1.toNatClampNeg a2) (fun S_7 => lt_ (put S_7 2 0 8 ((S_7 2 0 8) + 1)) (fun S_8 => some (v_1, S_8)))))))))
-- CellCover$Net.addInput(II)I
def f_X5_addInput (a0 : Int32) (a1 : Int32) (S : St) : Option (Int32 × St) :=
  lt_ (put S 2 0 9 ((S 2 0 9) + 1)) (fun S_1 => bi (f_X5_addNode 7 a0 a1 S_1) (fun r_3 S_4 => some (r_3, S_4)))
-- CellCover$Net.outputVertex(I)I
def f_X5_outputVertex (a0 : Int32) (S : St) : Option (Int32 × St) :=
  gd (ix a0 8) (lt_ (S 20 0 a0.toNatClampNeg) (fun v_2 => gd (ix v_2 40) (lt_ (S 22 0 v_2.toNatClampNeg) (fun v_4 => some (v_4, S)))))
-- CellCover$Vertices.markOne(I)V
def j_X7_markOne_156 (S : St) : Option (St) :=
  some S
def j_X7_markOne_131 (S : St) (x1 : Int32) : Option (St) :=
  gd (ix x1 160) (lt_ (S 9 0 x1.toNatClampNeg) (fun v_22 => if v_22 = 2 then gd (ix x1 160) (lt_ (S 11 0 x1.toNatClampNeg) (fun v_25 => gd (ix v_25 160) (lt_ (S 12 0 v_25.toNatClampNeg) (fun v_27 => gd (ix v_25 160) (lt_ (put S 12 0 v_25.toNatClampNeg (v_27 + 1)) (fun S_29 => j_X7_markOne_156 S_29)))))) else j_X7_markOne_156 S))
def j_X7_markOne_107 (S : St) (x1 : Int32) : Option (St) :=
  gd (ix x1 160) (lt_ (S 9 0 x1.toNatClampNeg) (fun v_19 => if v_19 = 0 then j_X7_markOne_131 S x1 else gd (ix x1 160) (lt_ (S 10 0 x1.toNatClampNeg) (fun v_31 => gd (ix v_31 160) (lt_ (S 12 0 v_31.toNatClampNeg) (fun v_33 => gd (ix v_31 160) (lt_ (put S 12 0 v_31.toNatClampNeg (v_33 + 1)) (fun S_35 => j_X7_markOne_131 S_35 x1))))))))
def j_X7_markOne_67 (S : St) (x1 : Int32) (y1 : Int32) (y2 : Int32) : Option (St) :=
  gd (ix y1 160) (lt_ (put S 14 0 y1.toNatClampNeg (nz y2)) (fun S_10 => gd (ix x1 160) (lt_ (S_10 13 0 x1.toNatClampNeg) (fun v_12 => if v_12 = 0 then some S_10 else lt_ (put S_10 1 0 7 ((S_10 1 0 7) + 1)) (fun S_14 => gd (ix x1 160) (lt_ (S_14 14 0 x1.toNatClampNeg) (fun v_16 => if v_16 = 0 then j_X7_markOne_107 S_14 x1 else lt_ (put S_14 1 0 8 ((S_14 1 0 8) + 1)) (fun S_36 => j_X7_markOne_107 S_36 x1))))))))
def j_X7_markOne_66 (S : St) (x1 : Int32) (y1 : Int32) : Option (St) :=
  j_X7_markOne_67 S x1 y1 0
def j_X7_markOne_62 (S : St) (x1 : Int32) (y1 : Int32) : Option (St) :=
  j_X7_markOne_67 S x1 y1 1
def j_X7_markOne_19 (S : St) (x1 : Int32) (y1 : Int32) (y2 : Int32) : Option (St) :=
  gd (ix y1 160) (lt_ (put S 13 0 y1.toNatClampNeg (nz y2)) (fun S_5 => gd (ix x1 160) (lt_ (S_5 13 0 x1.toNatClampNeg) (fun v_7 => if v_7 = 0 then j_X7_markOne_66 S_5 x1 x1 else gd (ix x1 160) (lt_ (S_5 9 0 x1.toNatClampNeg) (fun v_38 => if v_38 = 0 then j_X7_markOne_66 S_5 x1 x1 else gd (ix x1 160) (lt_ (S_5 14 0 x1.toNatClampNeg) (fun v_41 => if v_41 = 0 then gd (ix x1 160) (lt_ (S_5 12 0 x1.toNatClampNeg) (fun v_44 => if v_44 = 1 then j_X7_markOne_66 S_5 x1 x1 else j_X7_markOne_62 S_5 x1 x1)) else j_X7_markOne_62 S_5 x1 x1))))))))
def f_X7_markOne (a0 : Int32) (S : St) : Option (St) :=
  gd (ix a0 160) (lt_ (S 12 0 a0.toNatClampNeg) (fun v_2 => if v_2 ≤ 0 then j_X7_markOne_19 S a0 a0 0 else j_X7_markOne_19 S a0 a0 1))
-- CellCover$Vertices.mark(LCellCover$Net;)V
def b_X7_mark_2 (kb : St → Int32 → Option (St)) (k30 : St → Option (St)) (S : St) (x2 : Int32) : Option (St) :=
  if (S 1 0 6) ≤ x2 then k30 S else gd (ix x2 160) (lt_ (put S 12 0 x2.toNatClampNeg 0) (fun S_3 => gd (ix x2 160) (lt_ (put S_3 14 0 x2.toNatClampNeg (nz 0)) (fun S_5 => lt_ (x2 + 1) (fun v_6 => kb S_5 v_6)))))
def l_X7_mark_2 (k30 : St → Option (St)) : Nat → St → Int32 → Option (St)
  | 0 => fun _ _ => none
  | n + 1 => b_X7_mark_2 (l_X7_mark_2 k30 n) k30
def b_X7_mark_32 (kb : St → Int32 → Option (St)) (k69 : St → Option (St)) (S : St) (x2 : Int32) : Option (St) :=
  if (S 2 0 10) ≤ x2 then k69 S else bi (f_X5_outputVertex x2 S) (fun r_9 S_10 => gd (ix r_9 160) (lt_ (S_10 12 0 r_9.toNatClampNeg) (fun v_12 => gd (ix r_9 160) (lt_ (put S_10 12 0 r_9.toNatClampNeg (v_12 + 1)) (fun S_14 => gd (ix r_9 160) (lt_ (put S_14 14 0 r_9.toNatClampNeg (nz 1)) (fun S_16 => lt_ (x2 + 1) (fun v_17 => kb S_16 v_17))))))))
def l_X7_mark_32 (k69 : St → Option (St)) : Nat → St → Int32 → Option (St)
  | 0 => fun _ _ => none
  | n + 1 => b_X7_mark_32 (l_X7_mark_32 k69 n) k69
def b_X7_mark_86 (kb : St → Int32 → Option (St)) (S : St) (x2 : Int32) : Option (St) :=
  if x2 < 0 then some S else bv (f_X7_markOne x2 S) (fun q_22 => lt_ (x2 + (-1)) (fun v_24 => kb q_22 v_24))
def l_X7_mark_86 : Nat → St → Int32 → Option (St)
  | 0 => fun _ _ => none
  | n + 1 => b_X7_mark_86 (l_X7_mark_86 n)
def f_X7_mark (S : St) : Option (St) :=
  l_X7_mark_2 (fun S => l_X7_mark_32 (fun S => lt_ (put S 1 0 7 0) (fun S_18 => lt_ (put S_18 1 0 8 0) (fun S_19 => lt_ ((S_19 1 0 6) - 1) (fun v_20 => l_X7_mark_86 5000 S_19 v_20)))) 5000 S 0) 5000 S 0
-- CellCover$History.add(I)V
def j_X2_add_29 (S : St) : Option (St) :=
  some S
def f_X2_add (a0 : Int32) (S : St) : Option (St) :=
  if 88 ≤ (S 7 0 1) then j_X2_add_29 S else gd (ix (S 7 0 1) 88) (lt_ (put S 35 0 (S 7 0 1).toNatClampNeg a0) (fun S_3 => lt_ (put S_3 7 0 1 ((S_3 7 0 1) + 1)) (fun S_4 => j_X2_add_29 S_4)))
-- CellCover.noteChange(I)V
def f_X8_noteChange (a0 : Int32) (S : St) : Option (St) :=
  bv (f_X2_add a0 S) (fun q_1 => lt_ (put q_1 0 0 8 0) (fun S_3 => some S_3))
-- CellCover.noteNode(I)I
def f_X8_noteNode (a0 : Int32) (S : St) : Option (Int32 × St) :=
  bv (f_X7_mark S) (fun q_1 => bv (f_X8_noteChange 0 q_1) (fun q_3 => some (a0, q_3)))
-- CellCover.input()I
def f_X8_input (S : St) : Option (Int32 × St) :=
  if (S 2 0 8) < 40 then lt_ (S 1 0 6) (fun v_2 => bi (f_X7_add 0 ((-4)) ((-4)) S) (fun r_4 S_5 => bi (f_X5_addInput v_2 r_4 S_5) (fun r_7 S_8 => bi (f_X8_noteNode r_7 S_8) (fun r_10 S_11 => some (r_10, S_11))))) else some ((-3), S)
-- CellCover$Net.hasNode(I)Z
def j_X5_hasNode_17 (S : St) (y0 : Int32) : Option (Int32 × St) :=
  gd (bz y0) (some (y0, S))
def j_X5_hasNode_16 (S : St) : Option (Int32 × St) :=
  j_X5_hasNode_17 S 0
def f_X5_hasNode (a0 : Int32) (S : St) : Option (Int32 × St) :=
  if a0 < 0 then j_X5_hasNode_16 S else if (S 2 0 8) ≤ a0 then j_X5_hasNode_16 S else j_X5_hasNode_17 S 1
-- CellCover$Vertices.inverseOf(I)I
def j_X7_inverseOf_51 (kb : St → Int32 → Int32 → Option (Int32 × St)) (S : St) (x1 : Int32) (x2 : Int32) : Option (Int32 × St) :=
  lt_ (x2 + 1) (fun v_12 => kb S x1 v_12)
def b_X7_inverseOf_21 (kb : St → Int32 → Int32 → Option (Int32 × St)) (S : St) (x1 : Int32) (x2 : Int32) : Option (Int32 × St) :=
  if (S 1 0 6) ≤ x2 then bi (f_X7_add 1 x1 ((-4)) S) (fun r_7 S_8 => some (r_7, S_8)) else gd (ix x2 160) (lt_ (S 9 0 x2.toNatClampNeg) (fun v_10 => if v_10 = 1 then gd (ix x2 160) (lt_ (S 10 0 x2.toNatClampNeg) (fun v_14 => if v_14 = x1 then some (x2, S) else j_X7_inverseOf_51 kb S x1 x2)) else j_X7_inverseOf_51 kb S x1 x2))
def l_X7_inverseOf_21 : Nat → St → Int32 → Int32 → Option (Int32 × St)
  | 0 => fun _ _ _ => none
  | n + 1 => b_X7_inverseOf_21 (l_X7_inverseOf_21 n)
def f_X7_inverseOf (a0 : Int32) (S : St) : Option (Int32 × St) :=
  gd (ix a0 160) (lt_ (S 9 0 a0.toNatClampNeg) (fun v_2 => if v_2 = 1 then gd (ix a0 160) (lt_ (S 10 0 a0.toNatClampNeg) (fun v_17 => some (v_17, S))) else lt_ (a0 + 1) (fun v_4 => l_X7_inverseOf_21 5000 S a0 v_4)))
-- CellCover$Vertices.isOf(III)Z
def j_X7_isOf_45 (S : St) (y0 : Int32) : Option (Int32 × St) :=
  gd (bz y0) (some (y0, S))
def j_X7_isOf_44 (S : St) : Option (Int32 × St) :=
  j_X7_isOf_45 S 0
def j_X7_isOf_40 (S : St) : Option (Int32 × St) :=
  j_X7_isOf_45 S 1
def j_X7_isOf_20 (S : St) (x1 : Int32) (x2 : Int32) (x3 : Int32) : Option (Int32 × St) :=
  gd (ix x1 160) (lt_ (S 10 0 x1.toNatClampNeg) (fun v_5 => if v_5 = x3 then gd (ix x1 160) (lt_ (S 11 0 x1.toNatClampNeg) (fun v_9 => if v_9 = x2 then j_X7_isOf_40 S else j_X7_isOf_44 S)) else j_X7_isOf_44 S))
def f_X7_isOf (a0 : Int32) (a1 : Int32) (a2 : Int32) (S : St) : Option (Int32 × St) :=
  gd (ix a0 160) (lt_ (S 10 0 a0.toNatClampNeg) (fun v_2 => if v_2 = a1 then gd (ix a0 160) (lt_ (S 11 0 a0.toNatClampNeg) (fun v_12 => if v_12 = a2 then j_X7_isOf_40 S else j_X7_isOf_20 S a0 a1 a2)) else j_X7_isOf_20 S a0 a1 a2))
-- CellCover$Vertices.nandOf(II)I
def j_X7_nandOf_38 (kb : St → Int32 → Int32 → Int32 → Option (Int32 × St)) (S : St) (x1 : Int32) (x2 : Int32) (x3 : Int32) : Option (Int32 × St) :=
  lt_ (x3 + 1) (fun v_10 => kb S x1 x2 v_10)
def b_X7_nandOf_8 (kb : St → Int32 → Int32 → Int32 → Option (Int32 × St)) (S : St) (x1 : Int32) (x2 : Int32) (x3 : Int32) : Option (Int32 × St) :=
  if (S 1 0 6) ≤ x3 then bi (f_X7_add 2 x1 x2 S) (fun r_5 S_6 => some (r_5, S_6)) else gd (ix x3 160) (lt_ (S 9 0 x3.toNatClampNeg) (fun v_8 => if v_8 = 2 then bi (f_X7_isOf x3 x1 x2 S) (fun r_12 S_13 => if r_12 = 0 then j_X7_nandOf_38 kb S_13 x1 x2 x3 else some (x3, S_13)) else j_X7_nandOf_38 kb S x1 x2 x3))
def l_X7_nandOf_8 : Nat → St → Int32 → Int32 → Int32 → Option (Int32 × St)
  | 0 => fun _ _ _ _ => none
  | n + 1 => b_X7_nandOf_8 (l_X7_nandOf_8 n)
def f_X7_nandOf (a0 : Int32) (a1 : Int32) (S : St) : Option (Int32 × St) :=
  lt_ (if a0 < a1 then a1 else a0) (fun v_1 => lt_ (v_1 + 1) (fun v_2 => l_X7_nandOf_8 5000 S a0 a1 v_2))
-- CellCover$Vertices.nandOfInverses(II)I
def f_X7_nandOfInverses (a0 : Int32) (a1 : Int32) (S : St) : Option (Int32 × St) :=
  bi (f_X7_inverseOf a0 S) (fun r_2 S_3 => bi (f_X7_inverseOf a1 S_3) (fun r_5 S_6 => bi (f_X7_nandOf r_2 r_5 S_6) (fun r_8 S_9 => some (r_8, S_9))))
-- CellCover$Vertices.exclusiveOf(II)I
def f_X7_exclusiveOf (a0 : Int32) (a1 : Int32) (S : St) : Option (Int32 × St) :=
  bi (f_X7_nandOf a0 a1 S) (fun r_2 S_3 => bi (f_X7_nandOf a0 r_2 S_3) (fun r_5 S_6 => bi (f_X7_nandOf a1 r_2 S_6) (fun r_8 S_9 => bi (f_X7_nandOf r_5 r_8 S_9) (fun r_11 S_12 => some (r_11, S_12)))))
-- CellCover$Vertices.pickOf(III)I
def f_X7_pickOf (a0 : Int32) (a1 : Int32) (a2 : Int32) (S : St) : Option (Int32 × St) :=
  bi (f_X7_nandOf a0 a1 S) (fun r_2 S_3 => bi (f_X7_inverseOf a0 S_3) (fun r_5 S_6 => bi (f_X7_nandOf r_5 a2 S_6) (fun r_8 S_9 => bi (f_X7_nandOf r_2 r_8 S_9) (fun r_11 S_12 => some (r_11, S_12)))))
-- CellCover$Vertices.addGate(IIII)I
def f_X7_addGate (a0 : Int32) (a1 : Int32) (a2 : Int32) (a3 : Int32) (S : St) : Option (Int32 × St) :=
  if a0 = 0 then bi (f_X7_inverseOf a1 S) (fun r_3 S_4 => some (r_3, S_4)) else if a0 = 1 then bi (f_X7_nandOf a1 a2 S) (fun r_7 S_8 => bi (f_X7_inverseOf r_7 S_8) (fun r_10 S_11 => some (r_10, S_11))) else if a0 = 2 then bi (f_X7_nandOfInverses a1 a2 S) (fun r_14 S_15 => some (r_14, S_15)) else if a0 = 3 then bi (f_X7_exclusiveOf a1 a2 S) (fun r_18 S_19 => some (r_18, S_19)) else if a0 = 4 then bi (f_X7_nandOf a1 a2 S) (fun r_22 S_23 => some (r_22, S_23)) else if a0 = 5 then bi (f_X7_nandOfInverses a1 a2 S) (fun r_26 S_27 => bi (f_X7_inverseOf r_26 S_27) (fun r_29 S_30 => some (r_29, S_30))) else bi (f_X7_pickOf a1 a2 a3 S) (fun r_32 S_33 => some (r_32, S_33))
-- CellCover$Net.addGate(IIIIII)I
def f_X5_addGate (a0 : Int32) (a1 : Int32) (a2 : Int32) (a3 : Int32) (a4 : Int32) (a5 : Int32) (S : St) : Option (Int32 × St) :=
  bi (f_X5_addNode a0 a4 a5 S) (fun r_2 S_3 => gd (ix r_2 40) (lt_ (put S_3 16 0 r_2.toNatClampNeg a1) (fun S_5 => gd (ix r_2 40) (lt_ (put S_5 17 0 r_2.toNatClampNeg a2) (fun S_7 => gd (ix r_2 40) (lt_ (put S_7 18 0 r_2.toNatClampNeg a3) (fun S_9 => some (r_2, S_9))))))))
-- CellCover.gate(IIII)I
def j_X8_gate_21 (S : St) : Option (Int32 × St) :=
  some ((-1), S)
def j_X8_gate_96 (S : St) (x1 : Int32) (x2 : Int32) (x5 : Int32) (y0 : Int32) : Option (Int32 × St) :=
  lt_ (S 1 0 6) (fun v_12 => gd (ix x2 40) (lt_ (S 22 0 x2.toNatClampNeg) (fun v_14 => gd (ix x5 40) (lt_ (S 22 0 x5.toNatClampNeg) (fun v_16 => gd (ix y0 40) (lt_ (S 22 0 y0.toNatClampNeg) (fun v_18 => bi (f_X7_addGate x1 v_14 v_16 v_18 S) (fun r_20 S_21 => bi (f_X5_addGate x1 x2 x5 y0 v_12 r_20 S_21) (fun r_23 S_24 => bi (f_X8_noteNode r_23 S_24) (fun r_26 S_27 => some (r_26, S_27)))))))))))
def j_X8_gate_82 (S : St) (x1 : Int32) (x2 : Int32) (x4 : Int32) (y0 : Int32) : Option (Int32 × St) :=
  if x1 = 6 then j_X8_gate_96 S x1 x2 y0 x4 else j_X8_gate_96 S x1 x2 y0 0
def j_X8_gate_58 (S : St) (x1 : Int32) (x2 : Int32) (x3 : Int32) (x4 : Int32) : Option (Int32 × St) :=
  if (S 2 0 8) < 40 then if x1 = 0 then j_X8_gate_82 S x1 x2 x4 0 else j_X8_gate_82 S x1 x2 x4 x3 else some ((-3), S)
def j_X8_gate_56 (S : St) : Option (Int32 × St) :=
  some ((-1), S)
def j_X8_gate_38 (S : St) (x1 : Int32) (x2 : Int32) (x3 : Int32) (x4 : Int32) : Option (Int32 × St) :=
  if x1 = 6 then bi (f_X5_hasNode x4 S) (fun r_29 S_30 => if r_29 = 0 then j_X8_gate_56 S_30 else j_X8_gate_58 S_30 x1 x2 x3 x4) else j_X8_gate_58 S x1 x2 x3 x4
def f_X8_gate (a0 : Int32) (a1 : Int32) (a2 : Int32) (a3 : Int32) (S : St) : Option (Int32 × St) :=
  if a0 < 0 then j_X8_gate_21 S else if 6 < a0 then j_X8_gate_21 S else bi (f_X5_hasNode a1 S) (fun r_4 S_5 => if r_4 = 0 then j_X8_gate_21 S_5 else if a0 = 0 then j_X8_gate_38 S_5 a0 a1 a2 a3 else bi (f_X5_hasNode a2 S_5) (fun r_33 S_34 => if r_33 = 0 then j_X8_gate_56 S_34 else j_X8_gate_38 S_34 a0 a1 a2 a3))
-- CellCover$Net.addOutput(I)I
def f_X5_addOutput (a0 : Int32) (S : St) : Option (Int32 × St) :=
  lt_ (S 2 0 10) (fun v_1 => gd (ix v_1 8) (lt_ (put S 20 0 v_1.toNatClampNeg a0) (fun S_3 => lt_ (put S_3 2 0 10 ((S_3 2 0 10) + 1)) (fun S_4 => some (v_1, S_4)))))
-- CellCover.output(I)I
def f_X8_output (a0 : Int32) (S : St) : Option (Int32 × St) :=
  bi (f_X5_hasNode a0 S) (fun r_2 S_3 => if r_2 = 0 then some ((-1), S_3) else if (S_3 2 0 10) < 8 then bi (f_X5_addOutput a0 S_3) (fun r_7 S_8 => bv (f_X7_mark S_8) (fun q_9 => bv (f_X8_noteChange 1 q_9) (fun q_11 => some (r_7, q_11)))) else some ((-3), S_3))
-- CellCover$Tape.append(JI)I
def b_X6_append_5 (kb : St → Int64 → Int32 → Option (Int32 × St)) (S : St) (x1 : Int64) (x4 : Int32) : Option (Int32 × St) :=
  if x4 < 0 then some (S 3 0 1, S) else gd (ix (S 3 0 1) 60) (lt_ (put S 23 0 (S 3 0 1).toNatClampNeg ((((x1.toUInt64 >>> ((8 * x4).toInt64.toUInt64 &&& Int64.toUInt64 63)).toInt64) &&& 255).toInt32)) (fun S_4 => lt_ (put S_4 3 0 1 ((S_4 3 0 1) + 1)) (fun S_5 => lt_ (x4 + (-1)) (fun v_6 => kb S_5 x1 v_6))))
def l_X6_append_5 : Nat → St → Int64 → Int32 → Option (Int32 × St)
  | 0 => fun _ _ _ => none
  | n + 1 => b_X6_append_5 (l_X6_append_5 n)
def f_X6_append (a0 : Int64) (a1 : Int32) (S : St) : Option (Int32 × St) :=
  lt_ (a1 - 1) (fun v_1 => l_X6_append_5 5000 S a0 v_1)
-- CellCover.type(JI)I
def j_X8_type_11 (S : St) : Option (Int32 × St) :=
  some ((-1), S)
def f_X8_type (a0 : Int64) (a1 : Int32) (S : St) : Option (Int32 × St) :=
  if a1 < 1 then j_X8_type_11 S else if a1 ≤ 8 then if ((S 3 0 1) + a1) ≤ 60 then bi (f_X6_append a0 a1 S) (fun r_5 S_6 => some (r_5, S_6)) else some ((-3), S) else j_X8_type_11 S
-- CellCover$Tape.skipBlanks()V
def b_X6_skipBlanks_0 (kb : St → Option (St)) (S : St) : Option (St) :=
  if (S 3 0 1) ≤ (S 3 0 2) then some S else gd (ix (S 3 0 2) 60) (lt_ (S 23 0 (S 3 0 2).toNatClampNeg) (fun v_3 => if v_3 = 32 then lt_ (put S 3 0 2 ((S 3 0 2) + 1)) (fun S_5 => kb S_5) else some S))
def l_X6_skipBlanks_0 : Nat → St → Option (St)
  | 0 => fun _ => none
  | n + 1 => b_X6_skipBlanks_0 (l_X6_skipBlanks_0 n)
def f_X6_skipBlanks (S : St) : Option (St) :=
  l_X6_skipBlanks_0 5000 S
-- CellCover$Tape.isAtDigit()Z
def j_X6_isAtDigit_44 (S : St) (y0 : Int32) : Option (Int32 × St) :=
  gd (bz y0) (some (y0, S))
def j_X6_isAtDigit_43 (S : St) : Option (Int32 × St) :=
  j_X6_isAtDigit_44 S 0
def f_X6_isAtDigit (S : St) : Option (Int32 × St) :=
  if (S 3 0 1) ≤ (S 3 0 2) then j_X6_isAtDigit_43 S else gd (ix (S 3 0 2) 60) (lt_ (S 23 0 (S 3 0 2).toNatClampNeg) (fun v_4 => if v_4 < 48 then j_X6_isAtDigit_43 S else gd (ix (S 3 0 2) 60) (lt_ (S 23 0 (S 3 0 2).toNatClampNeg) (fun v_7 => if 57 < v_7 then j_X6_isAtDigit_43 S else j_X6_isAtDigit_44 S 1))))
-- CellCover$Tape.failAt(II)Z
def f_X6_failAt (a0 : Int32) (a1 : Int32) (S : St) : Option (Int32 × St) :=
  lt_ (put S 3 0 2 a0) (fun S_1 => lt_ (put S_1 3 0 3 a1) (fun S_2 => some (0, S_2)))
-- CellCover$Tape.readNumber(II)I
def b_X6_readNumber_12 (kb : St → Int32 → Int32 → Int32 → Int32 → Option (Int32 × St)) (k62 : St → Int32 → Int32 → Int32 → Int32 → Option (Int32 × St)) (S : St) (x1 : Int32) (x2 : Int32) (x3 : Int32) (x4 : Int32) : Option (Int32 × St) :=
  if 3 ≤ ((S 3 0 2) - x3) then k62 S x1 x2 x3 x4 else bi (f_X6_isAtDigit S) (fun r_6 S_7 => if r_6 = 0 then k62 S_7 x1 x2 x3 x4 else gd (ix (S_7 3 0 2) 60) (lt_ (S_7 23 0 (S_7 3 0 2).toNatClampNeg) (fun v_10 => lt_ (((10 * x4) + v_10) - 48) (fun v_11 => lt_ (put S_7 3 0 2 ((S_7 3 0 2) + 1)) (fun S_12 => kb S_12 x1 x2 x3 v_11)))))
def l_X6_readNumber_12 (k62 : St → Int32 → Int32 → Int32 → Int32 → Option (Int32 × St)) : Nat → St → Int32 → Int32 → Int32 → Int32 → Option (Int32 × St)
  | 0 => fun _ _ _ _ _ => none
  | n + 1 => b_X6_readNumber_12 (l_X6_readNumber_12 k62 n) k62
def j_X6_readNumber_122 (S : St) (x4 : Int32) : Option (Int32 × St) :=
  some (x4, S)
def j_X6_readNumber_95 (S : St) (x3 : Int32) (x4 : Int32) : Option (Int32 × St) :=
  bi (f_X6_failAt x3 2 S) (fun r_16 S_17 => j_X6_readNumber_122 S_17 x4)
def j_X6_readNumber_62 (S : St) (x1 : Int32) (x2 : Int32) (x3 : Int32) (x4 : Int32) : Option (Int32 × St) :=
  if (S 3 0 2) = x3 then bi (f_X6_failAt (S 3 0 2) 1 S) (fun r_27 S_28 => j_X6_readNumber_122 S_28 x4) else if x4 < x1 then j_X6_readNumber_95 S x3 x4 else if x4 ≤ x2 then bi (f_X6_isAtDigit S) (fun r_20 S_21 => if r_20 = 0 then j_X6_readNumber_122 S_21 x4 else bi (f_X6_failAt (S_21 3 0 2) 1 S_21) (fun r_24 S_25 => j_X6_readNumber_122 S_25 x4)) else j_X6_readNumber_95 S x3 x4
def f_X6_readNumber (a0 : Int32) (a1 : Int32) (S : St) : Option (Int32 × St) :=
  bv (f_X6_skipBlanks S) (fun q_1 => lt_ (q_1 3 0 2) (fun v_3 => l_X6_readNumber_12 (fun S x1 x2 x3 x4 => j_X6_readNumber_62 S x1 x2 x3 x4) 5000 q_1 a0 a1 v_3 0))
-- CellCover$Cell.clearTree()V
def f_X0_clearTree (t : Nat) (S : St) : Option (St) :=
  lt_ (put S 8 t 1 0) (fun S_1 => lt_ (put S_1 8 t 2 0) (fun S_2 => lt_ (put S_2 8 t 3 0) (fun S_3 => some S_3)))
-- CellCover$Tape.symbolOf(I)I
def j_X6_symbolOf_39 (S : St) (y0 : Int32) : Option (Int32 × St) :=
  some (y0, S)
def j_X6_symbolOf_37 (S : St) : Option (Int32 × St) :=
  j_X6_symbolOf_39 S ((-4))
def f_X6_symbolOf (a0 : Int32) (S : St) : Option (Int32 × St) :=
  if a0 = 78 then some (7, S) else if a0 = 73 then some (6, S) else if a0 < 97 then j_X6_symbolOf_37 S else if 103 ≤ a0 then j_X6_symbolOf_37 S else j_X6_symbolOf_39 S (a0 - 97)
-- CellCover$Cell.addSymbol(I)V
def j_X0_addSymbol_67 (t : Nat) (S : St) : Option (St) :=
  some S
def f_X0_addSymbol (t : Nat) (a0 : Int32) (S : St) : Option (St) :=
  if (S 8 t 1) < 12 then gd (ix (S 8 t 1) 12) (lt_ (put S 36 t (S 8 t 1).toNatClampNeg a0) (fun S_3 => lt_ (put S_3 8 t 1 ((S_3 8 t 1) + 1)) (fun S_4 => if a0 = 7 then lt_ (put S_4 8 t 2 ((S_4 8 t 2) + 1)) (fun S_8 => j_X0_addSymbol_67 t S_8) else if 6 ≤ a0 then j_X0_addSymbol_67 t S_4 else lt_ (put S_4 8 t 3 ((S_4 8 t 3) ||| ((1 : Int32) <<< (a0 &&& 31)))) (fun S_7 => j_X0_addSymbol_67 t S_7)))) else some S
-- CellCover$Tape.readTree(LCellCover$Cell;)Z
def j_X6_readTree_135 (kb : St → Nat → Int32 → Int32 → Option (Int32 × St)) (S : St) (x1 : Nat) (x2 : Int32) (x3 : Int32) : Option (Int32 × St) :=
  lt_ (x3 + 1) (fun v_20 => kb S x1 x2 v_20)
def j_X6_readTree_80 (kb : St → Nat → Int32 → Int32 → Option (Int32 × St)) (S : St) (x1 : Nat) (x2 : Int32) (x3 : Int32) (x4 : Int32) : Option (Int32 × St) :=
  if x3 < 12 then bv (f_X0_addSymbol x1 x4 S) (fun q_15 => lt_ (put q_15 3 0 2 ((q_15 3 0 2) + 1)) (fun S_17 => if x4 = 7 then lt_ (x2 + 1) (fun v_22 => j_X6_readTree_135 kb S_17 x1 v_22 x3) else if 6 ≤ x4 then j_X6_readTree_135 kb S_17 x1 x2 x3 else lt_ (x2 + (-1)) (fun v_21 => j_X6_readTree_135 kb S_17 x1 v_21 x3))) else bi (f_X6_failAt (S 3 0 2) 3 S) (fun r_24 S_25 => gd (bz r_24) (some (r_24, S_25)))
def j_X6_readTree_50 (kb : St → Nat → Int32 → Int32 → Option (Int32 × St)) (S : St) (x1 : Nat) (x2 : Int32) (x3 : Int32) (y0 : Int32) : Option (Int32 × St) :=
  if y0 = ((-4)) then bi (f_X6_failAt (S 3 0 2) 1 S) (fun r_10 S_11 => gd (bz r_10) (some (r_10, S_11))) else if x3 = 0 then if 6 ≤ y0 then j_X6_readTree_80 kb S x1 x2 x3 y0 else bi (f_X6_failAt (S 3 0 2) 1 S) (fun r_29 S_30 => gd (bz r_29) (some (r_29, S_30))) else j_X6_readTree_80 kb S x1 x2 x3 y0
def b_X6_readTree_8 (kb : St → Nat → Int32 → Int32 → Option (Int32 × St)) (S : St) (x1 : Nat) (x2 : Int32) (x3 : Int32) : Option (Int32 × St) :=
  if 12 < x3 then some (1, S) else if x2 ≤ 0 then some (1, S) else bv (f_X6_skipBlanks S) (fun q_5 => if (q_5 3 0 1) ≤ (q_5 3 0 2) then j_X6_readTree_50 kb q_5 x1 x2 x3 ((-4)) else gd (ix (q_5 3 0 2) 60) (lt_ (q_5 23 0 (q_5 3 0 2).toNatClampNeg) (fun v_33 => bi (f_X6_symbolOf v_33 q_5) (fun r_35 S_36 => j_X6_readTree_50 kb S_36 x1 x2 x3 r_35))))
def l_X6_readTree_8 : Nat → St → Nat → Int32 → Int32 → Option (Int32 × St)
  | 0 => fun _ _ _ _ => none
  | n + 1 => b_X6_readTree_8 (l_X6_readTree_8 n)
def f_X6_readTree (a0 : Nat) (S : St) : Option (Int32 × St) :=
  bv (f_X0_clearTree a0 S) (fun q_1 => l_X6_readTree_8 5000 q_1 a0 1 0)
-- CellCover$Tape.readEnd()Z
def j_X6_readEnd_32 (S : St) (y0 : Int32) : Option (Int32 × St) :=
  gd (bz y0) (some (y0, S))
def j_X6_readEnd_27 (S : St) : Option (Int32 × St) :=
  j_X6_readEnd_32 S 1
def f_X6_readEnd (S : St) : Option (Int32 × St) :=
  bv (f_X6_skipBlanks S) (fun q_1 => if (q_1 3 0 1) ≤ (q_1 3 0 2) then j_X6_readEnd_27 q_1 else bi (f_X6_failAt (q_1 3 0 2) 1 q_1) (fun r_6 S_7 => if r_6 = 0 then j_X6_readEnd_32 S_7 0 else j_X6_readEnd_27 S_7))
-- CellCover$Tape.readInto(LCellCover$Cell;)Z
def j_X6_readInto_56 (S : St) : Option (Int32 × St) :=
  bi (f_X6_failAt (S 3 0 2) 1 S) (fun r_10 S_11 => gd (bz r_10) (some (r_10, S_11)))
def j_X6_readInto_104 (S : St) (y0 : Int32) : Option (Int32 × St) :=
  gd (bz y0) (some (y0, S))
def j_X6_readInto_103 (S : St) : Option (Int32 × St) :=
  j_X6_readInto_104 S 0
def f_X6_readInto (a0 : Nat) (S : St) : Option (Int32 × St) :=
  lt_ (put S 3 0 3 0) (fun S_1 => lt_ (put S_1 3 0 2 0) (fun S_2 => bi (f_X6_readNumber 1 999 S_2) (fun r_4 S_5 => lt_ (put S_5 8 a0 4 r_4) (fun S_6 => if (S_6 3 0 3) = 0 then if (S_6 3 0 1) ≤ (S_6 3 0 2) then j_X6_readInto_56 S_6 else gd (ix (S_6 3 0 2) 60) (lt_ (S_6 23 0 (S_6 3 0 2).toNatClampNeg) (fun v_14 => if v_14 = 32 then bi (f_X6_readNumber 0 99 S_6) (fun r_17 S_18 => lt_ (put S_18 8 a0 5 r_17) (fun S_19 => if (S_19 3 0 3) = 0 then bi (f_X6_readTree a0 S_19) (fun r_23 S_24 => if r_23 = 0 then j_X6_readInto_103 S_24 else bi (f_X6_readEnd S_24) (fun r_27 S_28 => if r_27 = 0 then j_X6_readInto_103 S_28 else j_X6_readInto_104 S_28 1)) else j_X6_readInto_103 S_19)) else j_X6_readInto_56 S_6)) else some (0, S_6)))))
-- CellCover$Library.keepNext()I
def f_X3_keepNext (S : St) : Option (Int32 × St) :=
  lt_ (S 4 0 1) (fun v_1 => gd (ix v_1 20) (lt_ (put S 8 v_1.toNatClampNeg 6 1) (fun S_3 => lt_ (put S_3 4 0 1 ((S_3 4 0 1) + 1)) (fun S_4 => some (v_1, S_4)))))
-- CellCover.cell()I
def f_X8_cell (S : St) : Option (Int32 × St) :=
  if (S 4 0 1) < 20 then gd (ix (S 4 0 1) 20) (bi (f_X6_readInto ((S 4 0 1).toNatClampNeg) S) (fun r_4 S_5 => lt_ (put S_5 3 0 1 0) (fun S_6 => if r_4 = 0 then some (((-100)) - (S_6 3 0 2), S_6) else bv (f_X8_noteChange 2 S_6) (fun q_8 => bi (f_X3_keepNext q_8) (fun r_11 S_12 => some (r_11, S_12)))))) else some ((-3), S)
-- CellCover.fault()I
def f_X8_fault (S : St) : Option (Int32 × St) :=
  some (S 3 0 3, S)
-- CellCover$Library.has(I)Z
def j_X3_has_29 (S : St) (y0 : Int32) : Option (Int32 × St) :=
  gd (bz y0) (some (y0, S))
def j_X3_has_28 (S : St) : Option (Int32 × St) :=
  j_X3_has_29 S 0
def f_X3_has (a0 : Int32) (S : St) : Option (Int32 × St) :=
  if a0 < 0 then j_X3_has_28 S else if (S 4 0 1) ≤ a0 then j_X3_has_28 S else gd (ix a0 20) (if (S 8 a0.toNatClampNeg 6) = 0 then j_X3_has_28 S else j_X3_has_29 S 1)
-- CellCover.drop(I)I
def f_X8_drop (a0 : Int32) (S : St) : Option (Int32 × St) :=
  bi (f_X3_has a0 S) (fun r_2 S_3 => if r_2 = 0 then some ((-1), S_3) else gd (ix a0 20) (lt_ (put S_3 8 a0.toNatClampNeg 6 0) (fun S_6 => bv (f_X8_noteChange (3 + a0) S_6) (fun q_7 => some (1, q_7)))))
-- CellCover$History.takeLatest()I
def f_X2_takeLatest (S : St) : Option (Int32 × St) :=
  lt_ (put S 7 0 1 ((S 7 0 1) - 1)) (fun S_1 => gd (ix (S_1 7 0 1) 88) (lt_ (S_1 35 0 (S_1 7 0 1).toNatClampNeg) (fun v_3 => some (v_3, S_1))))
-- CellCover$Net.removeNode()I
def j_X5_removeNode_34 (S : St) : Option (Int32 × St) :=
  gd (ix (S 2 0 8) 40) (lt_ (S 21 0 (S 2 0 8).toNatClampNeg) (fun v_6 => some (v_6, S)))
def f_X5_removeNode (S : St) : Option (Int32 × St) :=
  lt_ (put S 2 0 8 ((S 2 0 8) - 1)) (fun S_1 => gd (ix (S_1 2 0 8) 40) (lt_ (S_1 15 0 (S_1 2 0 8).toNatClampNeg) (fun v_3 => if v_3 = 7 then lt_ (put S_1 2 0 9 ((S_1 2 0 9) - 1)) (fun S_7 => j_X5_removeNode_34 S_7) else j_X5_removeNode_34 S_1)))
-- CellCover$Library.forgetLatest()V
def j_X3_forgetLatest_30 (S : St) : Option (St) :=
  some S
def f_X3_forgetLatest (S : St) : Option (St) :=
  if (S 4 0 1) ≤ 0 then j_X3_forgetLatest_30 S else lt_ (put S 4 0 1 ((S 4 0 1) - 1)) (fun S_2 => gd (ix (S_2 4 0 1) 20) (lt_ (put S_2 8 ((S_2 4 0 1).toNatClampNeg) 6 0) (fun S_4 => j_X3_forgetLatest_30 S_4)))
-- CellCover$Library.bringBack(I)V
def j_X3_bringBack_22 (S : St) : Option (St) :=
  some S
def f_X3_bringBack (a0 : Int32) (S : St) : Option (St) :=
  if a0 < 0 then j_X3_bringBack_22 S else if (S 4 0 1) ≤ a0 then j_X3_bringBack_22 S else gd (ix a0 20) (lt_ (put S 8 a0.toNatClampNeg 6 1) (fun S_4 => j_X3_bringBack_22 S_4))
-- CellCover.takeBack(I)V
def j_X8_takeBack_103 (S : St) : Option (St) :=
  some S
def f_X8_takeBack (a0 : Int32) (S : St) : Option (St) :=
  if a0 = 0 then bi (f_X5_removeNode S) (fun r_3 S_4 => lt_ (put S_4 1 0 6 r_3) (fun S_5 => bv (f_X7_mark S_5) (fun q_6 => j_X8_takeBack_103 q_6))) else if a0 = 1 then lt_ (put S 2 0 10 ((S 2 0 10) - 1)) (fun S_9 => bv (f_X7_mark S_9) (fun q_10 => j_X8_takeBack_103 q_10)) else if a0 = 2 then bv (f_X3_forgetLatest S) (fun q_13 => j_X8_takeBack_103 q_13) else bv (f_X3_bringBack (a0 - 3) S) (fun q_15 => j_X8_takeBack_103 q_15)
-- CellCover.undo()I
def f_X8_undo (S : St) : Option (Int32 × St) :=
  if 0 < (S 7 0 1) then bi (f_X2_takeLatest S) (fun r_3 S_4 => bv (f_X8_takeBack r_3 S_4) (fun q_5 => lt_ (put q_5 0 0 8 0) (fun S_7 => some (S_7 7 0 1, S_7)))) else some ((-2), S)
-- CellCover.vertexOf(I)I
def j_X8_vertexOf_24 (S : St) (y0 : Int32) : Option (Int32 × St) :=
  some (y0, S)
def f_X8_vertexOf (a0 : Int32) (S : St) : Option (Int32 × St) :=
  bi (f_X5_hasNode a0 S) (fun r_2 S_3 => if r_2 = 0 then j_X8_vertexOf_24 S_3 ((-1)) else gd (ix a0 40) (lt_ (S_3 22 0 a0.toNatClampNeg) (fun v_6 => j_X8_vertexOf_24 S_3 v_6)))
-- CellCover$Vertices.has(I)Z
def j_X7_has_17 (S : St) (y0 : Int32) : Option (Int32 × St) :=
  gd (bz y0) (some (y0, S))
def j_X7_has_16 (S : St) : Option (Int32 × St) :=
  j_X7_has_17 S 0
def f_X7_has (a0 : Int32) (S : St) : Option (Int32 × St) :=
  if a0 < 0 then j_X7_has_16 S else if (S 1 0 6) ≤ a0 then j_X7_has_16 S else j_X7_has_17 S 1
-- CellCover.vertex(II)I
def j_X8_vertex_109 (S : St) (y0 : Int32) : Option (Int32 × St) :=
  some (y0, S)
def j_X8_vertex_127 (S : St) (y0 : Int32) : Option (Int32 × St) :=
  some (y0, S)
def f_X8_vertex (a0 : Int32) (a1 : Int32) (S : St) : Option (Int32 × St) :=
  bi (f_X7_has a0 S) (fun r_2 S_3 => if r_2 = 0 then some ((-1), S_3) else if a1 = 0 then gd (ix a0 160) (lt_ (S_3 9 0 a0.toNatClampNeg) (fun v_7 => some (v_7, S_3))) else if a1 = 1 then gd (ix a0 160) (lt_ (S_3 10 0 a0.toNatClampNeg) (fun v_10 => some (v_10, S_3))) else if a1 = 2 then gd (ix a0 160) (lt_ (S_3 11 0 a0.toNatClampNeg) (fun v_13 => some (v_13, S_3))) else if a1 = 3 then gd (ix a0 160) (lt_ (S_3 12 0 a0.toNatClampNeg) (fun v_16 => some (v_16, S_3))) else if a1 = 4 then gd (ix a0 160) (lt_ (S_3 14 0 a0.toNatClampNeg) (fun v_19 => if v_19 = 0 then j_X8_vertex_109 S_3 0 else j_X8_vertex_109 S_3 1)) else if a1 = 5 then gd (ix a0 160) (lt_ (S_3 13 0 a0.toNatClampNeg) (fun v_23 => if v_23 = 0 then j_X8_vertex_127 S_3 0 else j_X8_vertex_127 S_3 1)) else some ((-1), S_3))
-- CellCover$Vertices.isAlive(I)Z
def j_X7_isAlive_22 (S : St) (y0 : Int32) : Option (Int32 × St) :=
  gd (bz y0) (some (y0, S))
def j_X7_isAlive_21 (S : St) : Option (Int32 × St) :=
  j_X7_isAlive_22 S 0
def f_X7_isAlive (a0 : Int32) (S : St) : Option (Int32 × St) :=
  bi (f_X7_has a0 S) (fun r_2 S_3 => if r_2 = 0 then j_X7_isAlive_21 S_3 else gd (ix a0 160) (lt_ (S_3 13 0 a0.toNatClampNeg) (fun v_7 => if v_7 = 0 then j_X7_isAlive_21 S_3 else j_X7_isAlive_22 S_3 1)))
-- CellCover$Matcher.begin(LCellCover$Cell;I)V
def f_X4_begin (a0 : Nat) (a1 : Int32) (S : St) : Option (St) :=
  lt_ (put S 5 0 3 (nI a0)) (fun S_1 => lt_ (put S_1 5 0 4 a1) (fun S_2 => lt_ (put S_2 5 0 5 0) (fun S_3 => some S_3)))
-- CellCover$Matcher.fits(IIZ)Z
def j_X4_fits_81 (S : St) (y0 : Int32) : Option (Int32 × St) :=
  gd (bz y0) (some (y0, S))
def j_X4_fits_80 (S : St) : Option (Int32 × St) :=
  j_X4_fits_81 S 0
def j_X4_fits_76 (S : St) : Option (Int32 × St) :=
  j_X4_fits_81 S 1
def j_X4_fits_44 (S : St) (x2 : Int32) (x3 : Int32) (y0 : Int32) : Option (Int32 × St) :=
  gd (ix x2 160) (lt_ (S 9 0 x2.toNatClampNeg) (fun v_4 => if v_4 = y0 then if x3 = 0 then gd (ix x2 160) (lt_ (S 14 0 x2.toNatClampNeg) (fun v_9 => if v_9 = 0 then j_X4_fits_76 S else j_X4_fits_80 S)) else j_X4_fits_76 S else j_X4_fits_80 S))
def j_X4_fits_32 (S : St) (y0 : Int32) : Option (Int32 × St) :=
  gd (bz y0) (some (y0, S))
def j_X4_fits_27 (S : St) : Option (Int32 × St) :=
  j_X4_fits_32 S 1
def f_X4_fits (a0 : Int32) (a1 : Int32) (a2 : Int32) (S : St) : Option (Int32 × St) :=
  if 6 ≤ a0 then if a0 = 7 then j_X4_fits_44 S a1 a2 2 else j_X4_fits_44 S a1 a2 1 else gd (ix a0 6) (lt_ (S 26 0 a0.toNatClampNeg) (fun v_12 => if v_12 = ((-4)) then j_X4_fits_27 S else gd (ix a0 6) (lt_ (S 26 0 a0.toNatClampNeg) (fun v_16 => if v_16 = a1 then j_X4_fits_27 S else j_X4_fits_32 S 0))))
-- CellCover$Matcher.lay(I)I
def b_X4_lay_2 (kb : St → Int32 → Int32 → Option (Int32 × St)) (k22 : St → Int32 → Option (Int32 × St)) (S : St) (x1 : Int32) (x2 : Int32) : Option (Int32 × St) :=
  if 6 ≤ x2 then k22 S x1 else gd (ix x2 6) (lt_ (put S 26 0 x2.toNatClampNeg ((-4))) (fun S_3 => lt_ (x2 + 1) (fun v_4 => kb S_3 x1 v_4)))
def l_X4_lay_2 (k22 : St → Int32 → Option (Int32 × St)) : Nat → St → Int32 → Int32 → Option (Int32 × St)
  | 0 => fun _ _ _ => none
  | n + 1 => b_X4_lay_2 (l_X4_lay_2 k22 n) k22
def j_X4_lay_245 (kb : St → Int32 → Int32 → Int32 → Int32 → Option (Int32 × St)) (S : St) (x1 : Int32) (x2 : Int32) (x3 : Int32) (x4 : Int32) : Option (Int32 × St) :=
  lt_ (x4 + 1) (fun v_26 => kb S x1 x2 x3 v_26)
def j_X4_lay_200 (kb : St → Int32 → Int32 → Int32 → Int32 → Option (Int32 × St)) (S : St) (x1 : Int32) (x2 : Int32) (x3 : Int32) (x4 : Int32) (y1 : Int32) (y2 : Int32) : Option (Int32 × St) :=
  gd (ix y1 13) (lt_ (put S 25 0 y1.toNatClampNeg y2) (fun S_45 => lt_ (x2 + 2) (fun v_46 => j_X4_lay_245 kb S_45 x1 v_46 x3 x4)))
def j_X4_lay_164 (kb : St → Int32 → Int32 → Int32 → Int32 → Option (Int32 × St)) (S : St) (x1 : Int32) (x2 : Int32) (x3 : Int32) (x4 : Int32) (x6 : Int32) (x7 : Int32) (y1 : Int32) (y2 : Int32) : Option (Int32 × St) :=
  gd (ix y1 13) (lt_ (put S 25 0 y1.toNatClampNeg y2) (fun S_40 => if x7 = 0 then gd (ix x6 160) (lt_ (S_40 10 0 x6.toNatClampNeg) (fun v_43 => j_X4_lay_200 kb S_40 x1 x2 x3 x4 (x2 + 1) v_43)) else gd (ix x6 160) (lt_ (S_40 11 0 x6.toNatClampNeg) (fun v_48 => j_X4_lay_200 kb S_40 x1 x2 x3 x4 (x2 + 1) v_48))))
def j_X4_lay_129 (kb : St → Int32 → Int32 → Int32 → Int32 → Option (Int32 × St)) (S : St) (x1 : Int32) (x2 : Int32) (x3 : Int32) (x4 : Int32) (x6 : Int32) (y0 : Int32) : Option (Int32 × St) :=
  if y0 = 0 then gd (ix x6 160) (lt_ (S 11 0 x6.toNatClampNeg) (fun v_38 => j_X4_lay_164 kb S x1 x2 x3 x4 x6 y0 x2 v_38)) else gd (ix x6 160) (lt_ (S 10 0 x6.toNatClampNeg) (fun v_50 => j_X4_lay_164 kb S x1 x2 x3 x4 x6 y0 x2 v_50))
def j_X4_lay_89 (kb : St → Int32 → Int32 → Int32 → Int32 → Option (Int32 × St)) (S : St) (x1 : Int32) (x2 : Int32) (x3 : Int32) (x4 : Int32) (x5 : Int32) (x6 : Int32) (y1 : Int32) (y2 : Int32) (y3 : Int32) : Option (Int32 × St) :=
  bi (f_X4_fits y1 y2 y3 S) (fun r_19 S_20 => if r_19 = 0 then some (x3, S_20) else if x5 = 7 then lt_ (x3 + 1) (fun v_32 => if S_20 5 0 3 < 0 then none else gd (ix (S_20 5 0 3) 20) (if ((x1 >>> (((S_20 8 ((S_20 5 0 3).toNatClampNeg) 2) - v_32) &&& 31)) &&& 1) = 1 then j_X4_lay_129 kb S_20 x1 x2 v_32 x4 x6 1 else j_X4_lay_129 kb S_20 x1 x2 v_32 x4 x6 0)) else if x5 = 6 then gd (ix x6 160) (lt_ (S_20 10 0 x6.toNatClampNeg) (fun v_28 => gd (ix x2 13) (lt_ (put S_20 25 0 x2.toNatClampNeg v_28) (fun S_30 => lt_ (x2 + 1) (fun v_31 => j_X4_lay_245 kb S_30 x1 v_31 x3 x4))))) else gd (ix x5 6) (lt_ (put S_20 26 0 x5.toNatClampNeg x6) (fun S_25 => j_X4_lay_245 kb S_25 x1 x2 x3 x4)))
def b_X4_lay_39 (kb : St → Int32 → Int32 → Int32 → Int32 → Option (Int32 × St)) (S : St) (x1 : Int32) (x2 : Int32) (x3 : Int32) (x4 : Int32) : Option (Int32 × St) :=
  if S 5 0 3 < 0 then none else gd (ix (S 5 0 3) 20) (if (S 8 ((S 5 0 3).toNatClampNeg) 1) ≤ x4 then some ((-1), S) else if S 5 0 3 < 0 then none else gd (ix (S 5 0 3) 20) (gd (ix x4 12) (lt_ (S 36 ((S 5 0 3).toNatClampNeg) x4.toNatClampNeg) (fun v_13 => lt_ (x2 + (-1)) (fun v_14 => gd (ix v_14 13) (lt_ (S 25 0 v_14.toNatClampNeg) (fun v_16 => if x4 = 0 then j_X4_lay_89 kb S x1 v_14 x3 x4 v_13 v_16 v_13 v_16 1 else j_X4_lay_89 kb S x1 v_14 x3 x4 v_13 v_16 v_13 v_16 0)))))))
def l_X4_lay_39 : Nat → St → Int32 → Int32 → Int32 → Int32 → Option (Int32 × St)
  | 0 => fun _ _ _ _ _ => none
  | n + 1 => b_X4_lay_39 (l_X4_lay_39 n)
def f_X4_lay (a0 : Int32) (S : St) : Option (Int32 × St) :=
  l_X4_lay_2 (fun S x1 => gd (ix 0 13) (lt_ (put S 25 0 (0 : Int32).toNatClampNeg (S 5 0 4)) (fun S_6 => l_X4_lay_39 5000 S_6 x1 1 0 0))) 5000 S a0 0
-- CellCover$Matcher.next()Z
def b_X4_next_24 (kb : St → Int32 → Int32 → Option (Int32 × St)) (S : St) (x1 : Int32) (x2 : Int32) : Option (Int32 × St) :=
  if x1 ≤ x2 then lt_ (put S 5 0 5 x1) (fun S_8 => some (0, S_8)) else bi (f_X4_lay x2 S) (fun r_10 S_11 => if r_10 = ((-1)) then lt_ (put S_11 5 0 5 (x2 + 1)) (fun S_17 => some (1, S_17)) else if S_11 5 0 3 < 0 then none else gd (ix (S_11 5 0 3) 20) (lt_ (x2 ||| (((1 : Int32) <<< (((S_11 8 ((S_11 5 0 3).toNatClampNeg) 2) - r_10) &&& 31)) - 1)) (fun v_15 => lt_ (v_15 + 1) (fun v_16 => kb S_11 x1 v_16))))
def l_X4_next_24 : Nat → St → Int32 → Int32 → Option (Int32 × St)
  | 0 => fun _ _ _ => none
  | n + 1 => b_X4_next_24 (l_X4_next_24 n)
def f_X4_next (S : St) : Option (Int32 × St) :=
  if S 5 0 3 < 0 then some (0, S) else gd (ix (S 5 0 3) 20) (if S 5 0 3 < 0 then none else gd (ix (S 5 0 3) 20) (lt_ ((1 : Int32) <<< ((S 8 ((S 5 0 3).toNatClampNeg) 2) &&& 31)) (fun v_5 => lt_ (S 5 0 5) (fun v_6 => l_X4_next_24 5000 S v_5 v_6))))
-- CellCover$Matcher.countRest()I
def b_X4_countRest_2 (kb : St → Int32 → Option (Int32 × St)) (S : St) (x1 : Int32) : Option (Int32 × St) :=
  if 4096 ≤ x1 then some (x1, S) else bi (f_X4_next S) (fun r_3 S_4 => if r_3 = 0 then some (x1, S_4) else lt_ (x1 + 1) (fun v_6 => kb S_4 v_6))
def l_X4_countRest_2 : Nat → St → Int32 → Option (Int32 × St)
  | 0 => fun _ _ => none
  | n + 1 => b_X4_countRest_2 (l_X4_countRest_2 n)
def f_X4_countRest (S : St) : Option (Int32 × St) :=
  l_X4_countRest_2 5000 S 0
-- CellCover.matches(II)I
def j_X8_matches_22 (S : St) : Option (Int32 × St) :=
  some ((-1), S)
def f_X8_matches (a0 : Int32) (a1 : Int32) (S : St) : Option (Int32 × St) :=
  bi (f_X3_has a0 S) (fun r_2 S_3 => if r_2 = 0 then j_X8_matches_22 S_3 else bi (f_X7_isAlive a1 S_3) (fun r_6 S_7 => if r_6 = 0 then j_X8_matches_22 S_7 else gd (ix a0 20) (bv (f_X4_begin a0.toNatClampNeg a1 S_7) (fun q_10 => bi (f_X4_countRest q_10) (fun r_13 S_14 => some (r_13, S_14))))))
-- CellCover$Matcher.skipTo(I)Z
def b_X4_skipTo_19 (kb : St → Int32 → Int32 → Int32 → Option (Int32 × St)) (S : St) (x1 : Int32) (x2 : Int32) (x3 : Int32) : Option (Int32 × St) :=
  if x1 < x3 then gd (bz x2) (some (x2, S)) else if x2 = 0 then gd (bz x2) (some (x2, S)) else bi (f_X4_next S) (fun r_7 S_8 => lt_ (x3 + 1) (fun v_9 => kb S_8 x1 r_7 v_9))
def l_X4_skipTo_19 : Nat → St → Int32 → Int32 → Int32 → Option (Int32 × St)
  | 0 => fun _ _ _ _ => none
  | n + 1 => b_X4_skipTo_19 (l_X4_skipTo_19 n)
def j_X4_skipTo_16 (S : St) (x1 : Int32) (y0 : Int32) : Option (Int32 × St) :=
  l_X4_skipTo_19 5000 S x1 y0 0
def j_X4_skipTo_15 (S : St) (x1 : Int32) : Option (Int32 × St) :=
  j_X4_skipTo_16 S x1 0
def f_X4_skipTo (a0 : Int32) (S : St) : Option (Int32 × St) :=
  if a0 < 0 then j_X4_skipTo_15 S a0 else if 4096 ≤ a0 then j_X4_skipTo_15 S a0 else j_X4_skipTo_16 S a0 1
-- CellCover.match(IIII)I
def j_X8_match_34 (S : St) : Option (Int32 × St) :=
  some ((-1), S)
def j_X8_match_79 (S : St) (y0 : Int32) : Option (Int32 × St) :=
  some (y0, S)
def f_X8_match (a0 : Int32) (a1 : Int32) (a2 : Int32) (a3 : Int32) (S : St) : Option (Int32 × St) :=
  bi (f_X3_has a0 S) (fun r_2 S_3 => if r_2 = 0 then j_X8_match_34 S_3 else bi (f_X7_isAlive a1 S_3) (fun r_6 S_7 => if r_6 = 0 then j_X8_match_34 S_7 else if a3 < 0 then j_X8_match_34 S_7 else if a3 < 6 then gd (ix a0 20) (bv (f_X4_begin a0.toNatClampNeg a1 S_7) (fun q_12 => bi (f_X4_skipTo a2 q_12) (fun r_15 S_16 => if r_15 = 0 then j_X8_match_79 S_16 ((-4)) else gd (ix a3 6) (lt_ (S_16 26 0 a3.toNatClampNeg) (fun v_19 => j_X8_match_79 S_16 v_19))))) else j_X8_match_34 S_7))
-- CellCover$Cover.hasOne(I)Z
def j_X1_hasOne_28 (t : Nat) (S : St) (y0 : Int32) : Option (Int32 × St) :=
  gd (bz y0) (some (y0, S))
def j_X1_hasOne_23 (t : Nat) (S : St) : Option (Int32 × St) :=
  j_X1_hasOne_28 t S 1
def f_X1_hasOne (t : Nat) (a0 : Int32) (S : St) : Option (Int32 × St) :=
  gd (ix a0 160) (lt_ (S 9 0 a0.toNatClampNeg) (fun v_2 => if v_2 = 0 then j_X1_hasOne_23 t S else gd (ix a0 160) (lt_ (S 29 t a0.toNatClampNeg) (fun v_6 => if v_6 = ((-4)) then j_X1_hasOne_28 t S 0 else j_X1_hasOne_23 t S))))
-- java/lang/Integer.compare(II)I
def j_J6_compare_7cf53_19 (S : St) (y0 : Int32) : Option (Int32 × St) :=
  some (y0, S)
def f_J6_compare_7cf53 (a0 : Int32) (a1 : Int32) (S : St) : Option (Int32 × St) :=
  if a1 ≤ a0 then if a0 = a1 then j_J6_compare_7cf53_19 S 0 else j_J6_compare_7cf53_19 S 1 else j_J6_compare_7cf53_19 S ((-1))
-- CellCover$Cover.isBetter(III)Z
def j_X1_isBetter_76 (t : Nat) (S : St) (y0 : Int32) : Option (Int32 × St) :=
  gd (bz y0) (some (y0, S))
def j_X1_isBetter_71 (t : Nat) (S : St) : Option (Int32 × St) :=
  j_X1_isBetter_76 t S 1
def j_X1_isBetter_75 (t : Nat) (S : St) : Option (Int32 × St) :=
  j_X1_isBetter_76 t S 0
def j_X1_isBetter_54 (t : Nat) (S : St) (x6 : Int32) (y0 : Int32) : Option (Int32 × St) :=
  if x6 < 0 then j_X1_isBetter_71 t S else if x6 = 0 then if 0 ≤ y0 then j_X1_isBetter_75 t S else j_X1_isBetter_71 t S else j_X1_isBetter_75 t S
def j_X1_isBetter_38 (t : Nat) (S : St) (x4 : Int32) (x5 : Int32) (y0 : Int32) : Option (Int32 × St) :=
  if (S 6 t 13) = 0 then j_X1_isBetter_54 t S y0 x5 else j_X1_isBetter_54 t S y0 x4
def f_X1_isBetter (t : Nat) (a0 : Int32) (a1 : Int32) (a2 : Int32) (S : St) : Option (Int32 × St) :=
  gd (ix a0 160) (lt_ (S 27 t a0.toNatClampNeg) (fun v_2 => bi (f_J6_compare_7cf53 a1 v_2 S) (fun r_4 S_5 => gd (ix a0 160) (lt_ (S_5 28 t a0.toNatClampNeg) (fun v_7 => bi (f_J6_compare_7cf53 a2 v_7 S_5) (fun r_9 S_10 => if (S_10 6 t 13) = 0 then j_X1_isBetter_38 t S_10 r_4 r_9 r_4 else j_X1_isBetter_38 t S_10 r_4 r_9 r_9))))))
-- CellCover$Cover.keep(IIII)V
def b_X1_keep_25 (t : Nat) (kb : St → Int32 → Int32 → Option (St)) (S : St) (x1 : Int32) (x5 : Int32) : Option (St) :=
  if 6 ≤ x5 then some S else gd (ix x5 6) (lt_ (S 26 0 x5.toNatClampNeg) (fun v_9 => gd (ix ((x1 * 6) + x5) 960) (lt_ (put S 30 t ((x1 * 6) + x5).toNatClampNeg v_9) (fun S_11 => lt_ (x5 + 1) (fun v_12 => kb S_11 x1 v_12)))))
def l_X1_keep_25 (t : Nat) : Nat → St → Int32 → Int32 → Option (St)
  | 0 => fun _ _ _ => none
  | n + 1 => b_X1_keep_25 t (l_X1_keep_25 t n)
def f_X1_keep (t : Nat) (a0 : Int32) (a1 : Int32) (a2 : Int32) (a3 : Int32) (S : St) : Option (St) :=
  gd (ix a0 160) (lt_ (put S 29 t a0.toNatClampNeg a1) (fun S_2 => gd (ix a0 160) (lt_ (put S_2 27 t a0.toNatClampNeg a2) (fun S_4 => gd (ix a0 160) (lt_ (put S_4 28 t a0.toNatClampNeg a3) (fun S_6 => l_X1_keep_25 t 5000 S_6 a0 0))))))
-- CellCover$Cover.weigh(II)V
def j_X1_weigh_95 (t : Nat) (kb : St → Int32 → Int32 → Int32 → Int32 → Int32 → Option (St)) (k101 : St → Int32 → Int32 → Int32 → Int32 → Option (St)) (S : St) (x1 : Int32) (x2 : Int32) (x3 : Int32) (x4 : Int32) (x5 : Int32) : Option (St) :=
  lt_ (x5 + 1) (fun v_17 => kb S x1 x2 x3 x4 v_17)
def j_X1_weigh_81 (t : Nat) (kb : St → Int32 → Int32 → Int32 → Int32 → Int32 → Option (St)) (k101 : St → Int32 → Int32 → Int32 → Int32 → Option (St)) (S : St) (x1 : Int32) (x2 : Int32) (x3 : Int32) (x4 : Int32) (x5 : Int32) (x6 : Int32) : Option (St) :=
  gd (ix x6 160) (lt_ (S 28 t x6.toNatClampNeg) (fun v_15 => lt_ (if x4 < v_15 then v_15 else x4) (fun v_16 => j_X1_weigh_95 t kb k101 S x1 x2 x3 v_16 x5)))
def b_X1_weigh_19 (t : Nat) (kb : St → Int32 → Int32 → Int32 → Int32 → Int32 → Option (St)) (k101 : St → Int32 → Int32 → Int32 → Int32 → Option (St)) (S : St) (x1 : Int32) (x2 : Int32) (x3 : Int32) (x4 : Int32) (x5 : Int32) : Option (St) :=
  if 6 ≤ x5 then k101 S x1 x2 x3 x4 else gd (ix x5 6) (lt_ (S 26 0 x5.toNatClampNeg) (fun v_5 => if v_5 = ((-4)) then j_X1_weigh_95 t kb k101 S x1 x2 x3 x4 x5 else bi (f_X1_hasOne t v_5 S) (fun r_8 S_9 => if r_8 = 0 then some S_9 else gd (ix v_5 160) (lt_ (S_9 14 0 v_5.toNatClampNeg) (fun v_12 => if v_12 = 0 then gd (ix v_5 160) (lt_ (S_9 27 t v_5.toNatClampNeg) (fun v_19 => lt_ (x3 + v_19) (fun v_20 => j_X1_weigh_81 t kb k101 S_9 x1 x2 v_20 x4 x5 v_5))) else j_X1_weigh_81 t kb k101 S_9 x1 x2 x3 x4 x5 v_5)))))
def l_X1_weigh_19 (t : Nat) (k101 : St → Int32 → Int32 → Int32 → Int32 → Option (St)) : Nat → St → Int32 → Int32 → Int32 → Int32 → Int32 → Option (St)
  | 0 => fun _ _ _ _ _ _ => none
  | n + 1 => b_X1_weigh_19 t (l_X1_weigh_19 t k101 n) k101
def j_X1_weigh_149 (t : Nat) (S : St) : Option (St) :=
  some S
def j_X1_weigh_140 (t : Nat) (S : St) (x1 : Int32) (x2 : Int32) (x3 : Int32) (x5 : Int32) : Option (St) :=
  bv (f_X1_keep t x1 x2 x3 x5 S) (fun q_26 => j_X1_weigh_149 t q_26)
def f_X1_weigh (t : Nat) (a0 : Int32) (a1 : Int32) (S : St) : Option (St) :=
  gd (ix a1 20) (lt_ (S 8 a1.toNatClampNeg 4) (fun v_2 => l_X1_weigh_19 t (fun S x1 x2 x3 x4 => gd (ix x2 20) (lt_ ((S 8 x2.toNatClampNeg 5) + x4) (fun v_22 => gd (ix x1 160) (lt_ (S 29 t x1.toNatClampNeg) (fun v_24 => if v_24 = ((-4)) then j_X1_weigh_140 t S x1 x2 x3 v_22 else bi (f_X1_isBetter t x1 x3 v_22 S) (fun r_29 S_30 => if r_29 = 0 then j_X1_weigh_149 t S_30 else j_X1_weigh_140 t S_30 x1 x2 x3 v_22)))))) 5000 S a0 a1 v_2 0 0))
-- CellCover$Cover.choose(II)V
def j_X1_choose_82 (t : Nat) (kb : St → Int32 → Int32 → Int32 → Option (St)) (S : St) (x1 : Int32) (x2 : Int32) (x3 : Int32) : Option (St) :=
  lt_ (x3 + 1) (fun v_3 => kb S x1 x2 v_3)
def b_X1_choose_52 (t : Nat) (kb : St → Int32 → Int32 → Int32 → Int32 → Option (St)) (k82 : St → Int32 → Int32 → Int32 → Option (St)) (S : St) (x1 : Int32) (x2 : Int32) (x3 : Int32) (x4 : Int32) : Option (St) :=
  if 4096 ≤ x4 then k82 S x1 x2 x3 else bi (f_X4_next S) (fun r_13 S_14 => if r_13 = 0 then k82 S_14 x1 x2 x3 else bv (f_X1_weigh t x1 x3 S_14) (fun q_16 => lt_ (x4 + 1) (fun v_18 => kb q_16 x1 x2 x3 v_18)))
def l_X1_choose_52 (t : Nat) (k82 : St → Int32 → Int32 → Int32 → Option (St)) : Nat → St → Int32 → Int32 → Int32 → Int32 → Option (St)
  | 0 => fun _ _ _ _ _ => none
  | n + 1 => b_X1_choose_52 t (l_X1_choose_52 t k82 n) k82
def b_X1_choose_2 (t : Nat) (kb : St → Int32 → Int32 → Int32 → Option (St)) (S : St) (x1 : Int32) (x2 : Int32) (x3 : Int32) : Option (St) :=
  if (S 4 0 1) ≤ x3 then some S else if x3 = x2 then j_X1_choose_82 t kb S x1 x2 x3 else bi (f_X3_has x3 S) (fun r_5 S_6 => if r_5 = 0 then j_X1_choose_82 t kb S_6 x1 x2 x3 else gd (ix x3 20) (bv (f_X4_begin x3.toNatClampNeg x1 S_6) (fun q_9 => l_X1_choose_52 t (fun S x1 x2 x3 => j_X1_choose_82 t kb S x1 x2 x3) 5000 q_9 x1 x2 x3 0)))
def l_X1_choose_2 (t : Nat) : Nat → St → Int32 → Int32 → Int32 → Option (St)
  | 0 => fun _ _ _ _ => none
  | n + 1 => b_X1_choose_2 t (l_X1_choose_2 t n)
def f_X1_choose (t : Nat) (a0 : Int32) (a1 : Int32) (S : St) : Option (St) :=
  l_X1_choose_2 t 5000 S a0 a1 0
-- CellCover$Cover.addInstance(I)V
def j_X1_addInstance_35 (t : Nat) (S : St) : Option (St) :=
  some S
def f_X1_addInstance (t : Nat) (a0 : Int32) (S : St) : Option (St) :=
  gd (ix a0 160) (lt_ (S 32 t a0.toNatClampNeg) (fun v_2 => if v_2 = 0 then if 160 ≤ (S 6 t 11) then j_X1_addInstance_35 t S else gd (ix a0 160) (lt_ (S 29 t a0.toNatClampNeg) (fun v_6 => bi (f_X3_has v_6 S) (fun r_8 S_9 => if r_8 = 0 then j_X1_addInstance_35 t S_9 else gd (ix a0 160) (lt_ (put S_9 32 t a0.toNatClampNeg (nz 1)) (fun S_12 => gd (ix (S_12 6 t 11) 160) (lt_ (put S_12 31 t (S_12 6 t 11).toNatClampNeg a0) (fun S_14 => lt_ (put S_14 6 t 11 ((S_14 6 t 11) + 1)) (fun S_15 => gd (ix a0 160) (lt_ (S_15 29 t a0.toNatClampNeg) (fun v_17 => gd (ix v_17 20) (lt_ (put S_15 6 t 12 ((S_15 6 t 12) + (S_15 8 v_17.toNatClampNeg 4))) (fun S_19 => some S_19)))))))))))) else j_X1_addInstance_35 t S))
-- CellCover$Cover.pinOf(II)I
def j_X1_pinOf_27 (t : Nat) (S : St) (y0 : Int32) : Option (Int32 × St) :=
  some (y0, S)
def f_X1_pinOf (t : Nat) (a0 : Int32) (a1 : Int32) (S : St) : Option (Int32 × St) :=
  gd (ix a0 160) (lt_ (S 29 t a0.toNatClampNeg) (fun v_2 => if v_2 = ((-4)) then j_X1_pinOf_27 t S ((-4)) else gd (ix ((a0 * 6) + a1) 960) (lt_ (S 30 t ((a0 * 6) + a1).toNatClampNeg) (fun v_5 => j_X1_pinOf_27 t S v_5))))
-- CellCover$Cover.isInside(I)Z
def j_X1_isInside_38 (t : Nat) (S : St) (y0 : Int32) : Option (Int32 × St) :=
  gd (bz y0) (some (y0, S))
def j_X1_isInside_37 (t : Nat) (S : St) : Option (Int32 × St) :=
  j_X1_isInside_38 t S 0
def f_X1_isInside (t : Nat) (a0 : Int32) (S : St) : Option (Int32 × St) :=
  gd (ix a0 160) (lt_ (S 9 0 a0.toNatClampNeg) (fun v_2 => if v_2 = 0 then j_X1_isInside_37 t S else gd (ix a0 160) (lt_ (S 14 0 a0.toNatClampNeg) (fun v_6 => if v_6 = 0 then gd (ix a0 160) (lt_ (S 32 t a0.toNatClampNeg) (fun v_9 => if v_9 = 0 then j_X1_isInside_38 t S 1 else j_X1_isInside_37 t S)) else j_X1_isInside_37 t S))))
-- CellCover$Cover.listBeneath(I)V
def j_X1_listBeneath_91 (t : Nat) (kb : St → Int32 → Int32 → Int32 → Int32 → Option (St)) (k97 : St → Int32 → Int32 → Option (St)) (S : St) (x2 : Int32) (x3 : Int32) (x4 : Int32) (x5 : Int32) : Option (St) :=
  lt_ (x5 + (-1)) (fun v_15 => kb S x2 x3 x4 v_15)
def b_X1_listBeneath_42 (t : Nat) (kb : St → Int32 → Int32 → Int32 → Int32 → Option (St)) (k97 : St → Int32 → Int32 → Option (St)) (S : St) (x2 : Int32) (x3 : Int32) (x4 : Int32) (x5 : Int32) : Option (St) :=
  if x5 < 0 then k97 S x2 x3 else bi (f_X1_pinOf t x4 x5 S) (fun r_12 S_13 => if r_12 = ((-4)) then j_X1_listBeneath_91 t kb k97 S_13 x2 x3 x4 x5 else bi (f_X1_isInside t r_12 S_13) (fun r_17 S_18 => if r_17 = 0 then j_X1_listBeneath_91 t kb k97 S_18 x2 x3 x4 x5 else if 160 ≤ x2 then j_X1_listBeneath_91 t kb k97 S_18 x2 x3 x4 x5 else gd (ix x2 160) (lt_ (put S_18 33 t x2.toNatClampNeg r_12) (fun S_22 => lt_ (x2 + 1) (fun v_23 => j_X1_listBeneath_91 t kb k97 S_22 v_23 x3 x4 x5)))))
def l_X1_listBeneath_42 (t : Nat) (k97 : St → Int32 → Int32 → Option (St)) : Nat → St → Int32 → Int32 → Int32 → Int32 → Option (St)
  | 0 => fun _ _ _ _ _ => none
  | n + 1 => b_X1_listBeneath_42 t (l_X1_listBeneath_42 t k97 n) k97
def b_X1_listBeneath_11 (t : Nat) (kb : St → Int32 → Int32 → Option (St)) (S : St) (x2 : Int32) (x3 : Int32) : Option (St) :=
  if 160 ≤ x3 then some S else if x2 ≤ 0 then some S else lt_ (x2 + (-1)) (fun v_5 => gd (ix v_5 160) (lt_ (S 33 t v_5.toNatClampNeg) (fun v_7 => bv (f_X1_addInstance t v_7 S) (fun q_8 => l_X1_listBeneath_42 t (fun S x2 x3 => lt_ (x3 + 1) (fun v_24 => kb S x2 v_24)) 5000 q_8 v_5 x3 v_7 5))))
def l_X1_listBeneath_11 (t : Nat) : Nat → St → Int32 → Int32 → Option (St)
  | 0 => fun _ _ _ => none
  | n + 1 => b_X1_listBeneath_11 t (l_X1_listBeneath_11 t n)
def f_X1_listBeneath (t : Nat) (a0 : Int32) (S : St) : Option (St) :=
  gd (ix 0 160) (lt_ (put S 33 t (0 : Int32).toNatClampNeg a0) (fun S_2 => l_X1_listBeneath_11 t 5000 S_2 1 0))
-- CellCover$Cover.listInstances()V
def b_X1_listInstances_12 (t : Nat) (kb : St → Int32 → Option (St)) (k36 : St → Option (St)) (S : St) (x1 : Int32) : Option (St) :=
  if (S 1 0 6) ≤ x1 then k36 S else gd (ix x1 160) (lt_ (put S 32 t x1.toNatClampNeg (nz 0)) (fun S_5 => lt_ (x1 + 1) (fun v_6 => kb S_5 v_6)))
def l_X1_listInstances_12 (t : Nat) (k36 : St → Option (St)) : Nat → St → Int32 → Option (St)
  | 0 => fun _ _ => none
  | n + 1 => b_X1_listInstances_12 t (l_X1_listInstances_12 t k36 n) k36
def j_X1_listInstances_66 (t : Nat) (kb : St → Int32 → Option (St)) (S : St) (x1 : Int32) : Option (St) :=
  lt_ (x1 + 1) (fun v_11 => kb S v_11)
def b_X1_listInstances_38 (t : Nat) (kb : St → Int32 → Option (St)) (S : St) (x1 : Int32) : Option (St) :=
  if (S 1 0 6) ≤ x1 then some S else gd (ix x1 160) (lt_ (S 14 0 x1.toNatClampNeg) (fun v_9 => if v_9 = 0 then j_X1_listInstances_66 t kb S x1 else bv (f_X1_listBeneath t x1 S) (fun q_12 => j_X1_listInstances_66 t kb q_12 x1)))
def l_X1_listInstances_38 (t : Nat) : Nat → St → Int32 → Option (St)
  | 0 => fun _ _ => none
  | n + 1 => b_X1_listInstances_38 t (l_X1_listInstances_38 t n)
def f_X1_listInstances (t : Nat) (S : St) : Option (St) :=
  lt_ (put S 6 t 11 0) (fun S_1 => lt_ (put S_1 6 t 12 0) (fun S_2 => l_X1_listInstances_12 t (fun S => l_X1_listInstances_38 t 5000 S 0) 5000 S_2 0))
-- CellCover$Cover.make(II)I
def j_X1_make_95 (t : Nat) (kb : St → Int32 → Int32 → Option (Int32 × St)) (S : St) (x2 : Int32) (x3 : Int32) : Option (Int32 × St) :=
  lt_ (x3 + 1) (fun v_17 => kb S x2 v_17)
def j_X1_make_70 (t : Nat) (kb : St → Int32 → Int32 → Option (Int32 × St)) (S : St) (x2 : Int32) (x3 : Int32) : Option (Int32 × St) :=
  gd (ix x3 160) (lt_ (S 14 0 x3.toNatClampNeg) (fun v_15 => if v_15 = 0 then j_X1_make_95 t kb S x2 x3 else gd (ix x3 160) (lt_ (S 29 t x3.toNatClampNeg) (fun v_19 => if v_19 = ((-4)) then some (x3, S) else j_X1_make_95 t kb S x2 x3))))
def b_X1_make_7 (t : Nat) (kb : St → Int32 → Int32 → Option (Int32 × St)) (S : St) (x2 : Int32) (x3 : Int32) : Option (Int32 × St) :=
  if (S 1 0 6) ≤ x3 then bv (f_X1_listInstances t S) (fun q_3 => some ((-4), q_3)) else gd (ix x3 160) (lt_ (put S 29 t x3.toNatClampNeg ((-4))) (fun S_6 => gd (ix x3 160) (lt_ (put S_6 27 t x3.toNatClampNeg 0) (fun S_8 => gd (ix x3 160) (lt_ (put S_8 28 t x3.toNatClampNeg 0) (fun S_10 => gd (ix x3 160) (lt_ (S_10 13 0 x3.toNatClampNeg) (fun v_12 => if v_12 = 0 then j_X1_make_70 t kb S_10 x2 x3 else gd (ix x3 160) (lt_ (S_10 9 0 x3.toNatClampNeg) (fun v_22 => if v_22 = 0 then j_X1_make_70 t kb S_10 x2 x3 else bv (f_X1_choose t x3 x2 S_10) (fun q_24 => j_X1_make_70 t kb q_24 x2 x3)))))))))))
def l_X1_make_7 (t : Nat) : Nat → St → Int32 → Int32 → Option (Int32 × St)
  | 0 => fun _ _ _ => none
  | n + 1 => b_X1_make_7 t (l_X1_make_7 t n)
def f_X1_make (t : Nat) (a0 : Int32) (a1 : Int32) (S : St) : Option (Int32 × St) :=
  lt_ (put S 6 t 13 a0) (fun S_1 => l_X1_make_7 t 5000 S_1 a1 0)
-- CellCover.cover(I)I
def j_X8_cover_52 (S : St) (y0 : Int32) : Option (Int32 × St) :=
  some (y0, S)
def j_X8_cover_34 (S : St) (x2 : Int32) (y1 : Int32) : Option (Int32 × St) :=
  gd (bz (y1)) (lt_ (put S 0 0 8 y1) (fun S_6 => if (S_6 0 0 8) = 0 then j_X8_cover_52 S_6 (((-100)) - x2) else j_X8_cover_52 S_6 0))
def j_X8_cover_11 (S : St) (x1 : Int32) : Option (Int32 × St) :=
  bi (f_X1_make 0 x1 ((-4)) S) (fun r_3 S_4 => if r_3 = ((-4)) then j_X8_cover_34 S_4 r_3 1 else j_X8_cover_34 S_4 r_3 0)
def f_X8_cover (a0 : Int32) (S : St) : Option (Int32 × St) :=
  if a0 = 0 then j_X8_cover_11 S a0 else if a0 = 1 then j_X8_cover_11 S a0 else some ((-1), S)
-- CellCover.best(II)I
def j_X8_best_21 (S : St) : Option (Int32 × St) :=
  some ((-1), S)
def j_X8_best_55 (S : St) : Option (Int32 × St) :=
  some ((-4), S)
def f_X8_best (a0 : Int32) (a1 : Int32) (S : St) : Option (Int32 × St) :=
  bi (f_X7_has a0 S) (fun r_2 S_3 => if r_2 = 0 then j_X8_best_21 S_3 else if a1 < 0 then j_X8_best_21 S_3 else if a1 ≤ 8 then if (S_3 0 0 8) = 0 then some ((-2), S_3) else bi (f_X7_isAlive a0 S_3) (fun r_9 S_10 => if r_9 = 0 then j_X8_best_55 S_10 else bi (f_X1_hasOne 0 a0 S_10) (fun r_13 S_14 => if r_13 = 0 then j_X8_best_55 S_14 else if a1 = 0 then gd (ix a0 160) (lt_ (S_14 27 0 a0.toNatClampNeg) (fun v_18 => some (v_18, S_14))) else if a1 = 1 then gd (ix a0 160) (lt_ (S_14 28 0 a0.toNatClampNeg) (fun v_21 => some (v_21, S_14))) else if a1 = 2 then gd (ix a0 160) (lt_ (S_14 29 0 a0.toNatClampNeg) (fun v_24 => some (v_24, S_14))) else bi (f_X1_pinOf 0 a0 (a1 - 3) S_14) (fun r_26 S_27 => some (r_26, S_27)))) else j_X8_best_21 S_3)
-- CellCover.instance(II)I
def j_X8_instance_10 (S : St) : Option (Int32 × St) :=
  some ((-1), S)
def j_X8_instance_37 (S : St) : Option (Int32 × St) :=
  some ((-4), S)
def f_X8_instance (a0 : Int32) (a1 : Int32) (S : St) : Option (Int32 × St) :=
  if a1 < 0 then j_X8_instance_10 S else if a1 ≤ 7 then if (S 0 0 8) = 0 then some ((-2), S) else if a0 < 0 then j_X8_instance_37 S else if a0 < (S 6 0 11) then gd (ix a0 160) (lt_ (S 31 0 a0.toNatClampNeg) (fun v_7 => if a1 = 0 then gd (ix v_7 160) (lt_ (S 29 0 v_7.toNatClampNeg) (fun v_10 => some (v_10, S))) else if a1 = 1 then some (v_7, S) else bi (f_X1_pinOf 0 v_7 (a1 - 2) S) (fun r_13 S_14 => some (r_13, S_14)))) else j_X8_instance_37 S else j_X8_instance_10 S
-- CellCover.area()I
def j_X8_area_19 (S : St) (y0 : Int32) : Option (Int32 × St) :=
  some (y0, S)
def f_X8_area (S : St) : Option (Int32 × St) :=
  if (S 0 0 8) = 0 then j_X8_area_19 S ((-2)) else j_X8_area_19 S (S 6 0 12)
-- CellCover.arrival(I)I
def j_X8_arrival_15 (S : St) : Option (Int32 × St) :=
  some ((-1), S)
def j_X8_arrival_45 (S : St) (y0 : Int32) : Option (Int32 × St) :=
  some (y0, S)
def f_X8_arrival (a0 : Int32) (S : St) : Option (Int32 × St) :=
  if a0 < 0 then j_X8_arrival_15 S else if a0 < (S 2 0 10) then if (S 0 0 8) = 0 then j_X8_arrival_45 S ((-2)) else bi (f_X5_outputVertex a0 S) (fun r_5 S_6 => gd (ix r_5 160) (lt_ (S_6 28 0 r_5.toNatClampNeg) (fun v_8 => j_X8_arrival_45 S_6 v_8))) else j_X8_arrival_15 S
-- CellCover.worth(I)I
def f_X8_worth (a0 : Int32) (S : St) : Option (Int32 × St) :=
  bi (f_X3_has a0 S) (fun r_2 S_3 => if r_2 = 0 then some ((-1), S_3) else if (S_3 0 0 8) = 0 then some ((-2), S_3) else bi (f_X1_make 1 (S_3 6 0 13) a0 S_3) (fun r_7 S_8 => if r_7 = ((-4)) then some ((S_8 6 1 12) - (S_8 6 0 12), S_8) else some ((-4), S_8)))
-- CellCover$Net.gateValue(IIII)I
def j_X5_gateValue_78 (S : St) (y0 : Int32) : Option (Int32 × St) :=
  some (y0, S)
def f_X5_gateValue (a0 : Int32) (a1 : Int32) (a2 : Int32) (a3 : Int32) (S : St) : Option (Int32 × St) :=
  if a0 = 0 then some (1 - a1, S) else if a0 = 1 then some (a1 &&& a2, S) else if a0 = 2 then some (a1 ||| a2, S) else if a0 = 3 then some (a1 ^^^ a2, S) else if a0 = 4 then some (1 - (a1 &&& a2), S) else if a0 = 5 then some (1 - (a1 ||| a2), S) else if a1 = 1 then j_X5_gateValue_78 S a2 else j_X5_gateValue_78 S a3
-- CellCover$Net.outputsFor(J)I
def j_X5_outputsFor_97 (kb : St → Int64 → Int32 → Option (Int32 × St)) (k103 : St → Option (Int32 × St)) (S : St) (x3 : Int64) (x5 : Int32) : Option (Int32 × St) :=
  lt_ (x5 + 1) (fun v_24 => kb S x3 v_24)
def b_X5_outputsFor_5 (kb : St → Int64 → Int32 → Option (Int32 × St)) (k103 : St → Option (Int32 × St)) (S : St) (x3 : Int64) (x5 : Int32) : Option (Int32 × St) :=
  if (S 2 0 8) ≤ x5 then k103 S else gd (ix x5 40) (lt_ (S 15 0 x5.toNatClampNeg) (fun v_3 => if v_3 = 7 then gd (ix x5 40) (lt_ (put S 19 0 x5.toNatClampNeg ((x3 &&& 1).toInt32)) (fun S_26 => lt_ ((x3.toUInt64 >>> ((1 : Int32).toInt64.toUInt64 &&& Int64.toUInt64 63)).toInt64) (fun v_27 => j_X5_outputsFor_97 kb k103 S_26 v_27 x5))) else gd (ix x5 40) (lt_ (S 15 0 x5.toNatClampNeg) (fun v_6 => gd (ix x5 40) (lt_ (S 16 0 x5.toNatClampNeg) (fun v_8 => gd (ix v_8 40) (lt_ (S 19 0 v_8.toNatClampNeg) (fun v_10 => gd (ix x5 40) (lt_ (S 17 0 x5.toNatClampNeg) (fun v_12 => gd (ix v_12 40) (lt_ (S 19 0 v_12.toNatClampNeg) (fun v_14 => gd (ix x5 40) (lt_ (S 18 0 x5.toNatClampNeg) (fun v_16 => gd (ix v_16 40) (lt_ (S 19 0 v_16.toNatClampNeg) (fun v_18 => bi (f_X5_gateValue v_6 v_10 v_14 v_18 S) (fun r_20 S_21 => gd (ix x5 40) (lt_ (put S_21 19 0 x5.toNatClampNeg r_20) (fun S_23 => j_X5_outputsFor_97 kb k103 S_23 x3 x5)))))))))))))))))))
def l_X5_outputsFor_5 (k103 : St → Option (Int32 × St)) : Nat → St → Int64 → Int32 → Option (Int32 × St)
  | 0 => fun _ _ _ => none
  | n + 1 => b_X5_outputsFor_5 (l_X5_outputsFor_5 k103 n) k103
def b_X5_outputsFor_109 (kb : St → Int32 → Int32 → Option (Int32 × St)) (S : St) (x5 : Int32) (x6 : Int32) : Option (Int32 × St) :=
  if (S 2 0 10) ≤ x6 then some (x5, S) else gd (ix x6 8) (lt_ (S 20 0 x6.toNatClampNeg) (fun v_30 => gd (ix v_30 40) (lt_ (S 19 0 v_30.toNatClampNeg) (fun v_32 => lt_ (x5 ||| (v_32 <<< (x6 &&& 31))) (fun v_33 => lt_ (x6 + 1) (fun v_34 => kb S v_33 v_34))))))
def l_X5_outputsFor_109 : Nat → St → Int32 → Int32 → Option (Int32 × St)
  | 0 => fun _ _ _ => none
  | n + 1 => b_X5_outputsFor_109 (l_X5_outputsFor_109 n)
def f_X5_outputsFor (a0 : Int64) (S : St) : Option (Int32 × St) :=
  l_X5_outputsFor_5 (fun S => l_X5_outputsFor_109 5000 S 0 0) 5000 S a0 0
-- CellCover.run(J)I
def f_X8_run (a0 : Int64) (S : St) : Option (Int32 × St) :=
  bi (f_X5_outputsFor a0 S) (fun r_2 S_3 => some (r_2, S_3))
-- CellCover$Cover.pinValues(I)I
def j_X1_pinValues_37 (t : Nat) (kb : St → Int32 → Int32 → Int32 → Option (Int32 × St)) (S : St) (x1 : Int32) (x2 : Int32) (x3 : Int32) : Option (Int32 × St) :=
  lt_ (x3 + 1) (fun v_6 => kb S x1 x2 v_6)
def b_X1_pinValues_4 (t : Nat) (kb : St → Int32 → Int32 → Int32 → Option (Int32 × St)) (S : St) (x1 : Int32) (x2 : Int32) (x3 : Int32) : Option (Int32 × St) :=
  if 6 ≤ x3 then some (x2, S) else bi (f_X1_pinOf t x1 x3 S) (fun r_3 S_4 => if r_3 = ((-4)) then j_X1_pinValues_37 t kb S_4 x1 x2 x3 else gd (ix r_3 160) (lt_ (S_4 34 t r_3.toNatClampNeg) (fun v_8 => lt_ (x2 ||| (v_8 <<< (x3 &&& 31))) (fun v_9 => j_X1_pinValues_37 t kb S_4 x1 v_9 x3))))
def l_X1_pinValues_4 (t : Nat) : Nat → St → Int32 → Int32 → Int32 → Option (Int32 × St)
  | 0 => fun _ _ _ _ => none
  | n + 1 => b_X1_pinValues_4 t (l_X1_pinValues_4 t n)
def f_X1_pinValues (t : Nat) (a0 : Int32) (S : St) : Option (Int32 × St) :=
  l_X1_pinValues_4 t 5000 S a0 0 0
-- CellCover$Cell.valueFor(I)I
def j_X0_valueFor_79 (t : Nat) (kb : St → Int32 → Int32 → Int32 → Option (Int32 × St)) (S : St) (x1 : Int32) (x2 : Int32) (x3 : Int32) : Option (Int32 × St) :=
  lt_ (x3 + (-1)) (fun v_8 => kb S x1 x2 v_8)
def j_X0_valueFor_40 (t : Nat) (kb : St → Int32 → Int32 → Int32 → Option (Int32 × St)) (S : St) (x1 : Int32) (x2 : Int32) (x3 : Int32) (y0 : Int32) : Option (Int32 × St) :=
  lt_ (((x2 >>> ((2 : Int32) &&& 31)) <<< ((1 : Int32) &&& 31)) ||| y0) (fun v_11 => j_X0_valueFor_79 t kb S x1 v_11 x3)
def b_X0_valueFor_9 (t : Nat) (kb : St → Int32 → Int32 → Int32 → Option (Int32 × St)) (S : St) (x1 : Int32) (x2 : Int32) (x3 : Int32) : Option (Int32 × St) :=
  if x3 < 0 then some (x2 &&& 1, S) else gd (ix x3 12) (lt_ (S 36 t x3.toNatClampNeg) (fun v_4 => if v_4 = 7 then if (x2 &&& 3) = 3 then j_X0_valueFor_40 t kb S x1 x2 x3 0 else j_X0_valueFor_40 t kb S x1 x2 x3 1 else if v_4 = 6 then lt_ (x2 ^^^ 1) (fun v_9 => j_X0_valueFor_79 t kb S x1 v_9 x3) else lt_ ((x2 <<< ((1 : Int32) &&& 31)) ||| ((x1 >>> (v_4 &&& 31)) &&& 1)) (fun v_7 => j_X0_valueFor_79 t kb S x1 v_7 x3)))
def l_X0_valueFor_9 (t : Nat) : Nat → St → Int32 → Int32 → Int32 → Option (Int32 × St)
  | 0 => fun _ _ _ _ => none
  | n + 1 => b_X0_valueFor_9 t (l_X0_valueFor_9 t n)
def f_X0_valueFor (t : Nat) (a0 : Int32) (S : St) : Option (Int32 × St) :=
  lt_ ((S 8 t 1) - 1) (fun v_1 => l_X0_valueFor_9 t 5000 S a0 0 v_1)
-- CellCover$Cover.work(J)V
def j_X1_work_106 (t : Nat) (kb : St → Int64 → Int32 → Option (St)) (S : St) (x3 : Int64) (x5 : Int32) : Option (St) :=
  lt_ (x5 + 1) (fun v_8 => kb S x3 v_8)
def b_X1_work_5 (t : Nat) (kb : St → Int64 → Int32 → Option (St)) (S : St) (x3 : Int64) (x5 : Int32) : Option (St) :=
  if (S 1 0 6) ≤ x5 then some S else gd (ix x5 160) (lt_ (S 9 0 x5.toNatClampNeg) (fun v_3 => if v_3 = 0 then gd (ix x5 160) (lt_ (put S 34 t x5.toNatClampNeg ((x3 &&& 1).toInt32)) (fun S_27 => lt_ ((x3.toUInt64 >>> ((1 : Int32).toInt64.toUInt64 &&& Int64.toUInt64 63)).toInt64) (fun v_28 => j_X1_work_106 t kb S_27 v_28 x5))) else gd (ix x5 160) (lt_ (S 32 t x5.toNatClampNeg) (fun v_6 => if v_6 = 0 then j_X1_work_106 t kb S x3 x5 else gd (ix x5 160) (lt_ (S 29 t x5.toNatClampNeg) (fun v_10 => bi (f_X3_has v_10 S) (fun r_12 S_13 => if r_12 = 0 then j_X1_work_106 t kb S_13 x3 x5 else gd (ix x5 160) (lt_ (S_13 29 t x5.toNatClampNeg) (fun v_16 => gd (ix v_16 20) (bi (f_X1_pinValues t x5 S_13) (fun r_19 S_20 => bi (f_X0_valueFor v_16.toNatClampNeg r_19 S_20) (fun r_22 S_23 => gd (ix x5 160) (lt_ (put S_23 34 t x5.toNatClampNeg r_22) (fun S_25 => j_X1_work_106 t kb S_25 x3 x5))))))))))))))
def l_X1_work_5 (t : Nat) : Nat → St → Int64 → Int32 → Option (St)
  | 0 => fun _ _ _ => none
  | n + 1 => b_X1_work_5 t (l_X1_work_5 t n)
def f_X1_work (t : Nat) (a0 : Int64) (S : St) : Option (St) :=
  l_X1_work_5 t 5000 S a0 0
-- CellCover.mapped(J)I
def b_X8_mapped_23 (kb : St → Int32 → Int32 → Option (Int32 × St)) (S : St) (x3 : Int32) (x4 : Int32) : Option (Int32 × St) :=
  if (S 2 0 10) ≤ x4 then some (x3, S) else bi (f_X5_outputVertex x4 S) (fun r_6 S_7 => gd (ix r_6 160) (lt_ (S_7 34 0 r_6.toNatClampNeg) (fun v_9 => lt_ (x3 ||| (v_9 <<< (x4 &&& 31))) (fun v_10 => lt_ (x4 + 1) (fun v_11 => kb S_7 v_10 v_11)))))
def l_X8_mapped_23 : Nat → St → Int32 → Int32 → Option (Int32 × St)
  | 0 => fun _ _ _ => none
  | n + 1 => b_X8_mapped_23 (l_X8_mapped_23 n)
def f_X8_mapped (a0 : Int64) (S : St) : Option (Int32 × St) :=
  if (S 0 0 8) = 0 then some ((-2), S) else bv (f_X1_work 0 a0 S) (fun q_2 => l_X8_mapped_23 5000 q_2 0 0)
-- CellCover.about(III)I
def j_X8_about_104 (S : St) (y0 : Int32) : Option (Int32 × St) :=
  some (y0, S)
def j_X8_about_94 (S : St) : Option (Int32 × St) :=
  j_X8_about_104 S ((-1))
def f_X8_about (a0 : Int32) (a1 : Int32) (a2 : Int32) (S : St) : Option (Int32 × St) :=
  bi (f_X3_has a0 S) (fun r_2 S_3 => if r_2 = 0 then some ((-1), S_3) else gd (ix a0 20) (if a1 = 0 then some (S_3 8 a0.toNatClampNeg 4, S_3) else if a1 = 1 then some (S_3 8 a0.toNatClampNeg 5, S_3) else if a1 = 2 then some (S_3 8 a0.toNatClampNeg 1, S_3) else if a1 = 3 then some (S_3 8 a0.toNatClampNeg 3, S_3) else if a1 = 4 then if a2 < 0 then j_X8_about_94 S_3 else if a2 < 64 then bi (f_X0_valueFor a0.toNatClampNeg a2 S_3) (fun r_14 S_15 => j_X8_about_104 S_15 r_14) else j_X8_about_94 S_3 else some ((-1), S_3)))
-- CellCover$Library.countThere()I
def j_X3_countThere_27 (kb : St → Int32 → Int32 → Option (Int32 × St)) (S : St) (x1 : Int32) (x2 : Int32) : Option (Int32 × St) :=
  lt_ (x2 + 1) (fun v_4 => kb S x1 v_4)
def b_X3_countThere_4 (kb : St → Int32 → Int32 → Option (Int32 × St)) (S : St) (x1 : Int32) (x2 : Int32) : Option (Int32 × St) :=
  if (S 4 0 1) ≤ x2 then some (x1, S) else gd (ix x2 20) (if (S 8 x2.toNatClampNeg 6) = 0 then j_X3_countThere_27 kb S x1 x2 else lt_ (x1 + 1) (fun v_5 => j_X3_countThere_27 kb S v_5 x2))
def l_X3_countThere_4 : Nat → St → Int32 → Int32 → Option (Int32 × St)
  | 0 => fun _ _ _ => none
  | n + 1 => b_X3_countThere_4 (l_X3_countThere_4 n)
def f_X3_countThere (S : St) : Option (Int32 × St) :=
  l_X3_countThere_4 5000 S 0 0
-- CellCover.count(I)I
def j_X8_count_135 (S : St) (y0 : Int32) : Option (Int32 × St) :=
  some (y0, S)
def f_X8_count (a0 : Int32) (S : St) : Option (Int32 × St) :=
  if a0 = 0 then some (S 2 0 8, S) else if a0 = 1 then some (S 2 0 9, S) else if a0 = 2 then some (S 2 0 10, S) else if a0 = 3 then some (S 1 0 6, S) else if a0 = 4 then some (S 1 0 7, S) else if a0 = 5 then some (S 1 0 8, S) else if a0 = 6 then bi (f_X3_countThere S) (fun r_9 S_10 => some (r_9, S_10)) else if a0 = 7 then some (S 3 0 1, S) else if a0 = 8 then if (S 0 0 8) = 0 then j_X8_count_135 S ((-2)) else j_X8_count_135 S (S 6 0 11) else some ((-1), S)
-- CellCover.digest()J
def b_X8_digest_20 (kb : St → Int64 → Int32 → Int32 → Option (Int64 × St)) (k47 : St → Int64 → Int32 → Option (Int64 × St)) (S : St) (x1 : Int64) (x3 : Int32) (x4 : Int32) : Option (Int64 × St) :=
  if 5 < x4 then k47 S x1 x3 else bi (f_X8_vertex x3 x4 S) (fun r_4 S_5 => lt_ ((31 * x1) + r_4.toInt64) (fun v_6 => lt_ (x4 + 1) (fun v_7 => kb S_5 v_6 x3 v_7)))
def l_X8_digest_20 (k47 : St → Int64 → Int32 → Option (Int64 × St)) : Nat → St → Int64 → Int32 → Int32 → Option (Int64 × St)
  | 0 => fun _ _ _ _ => none
  | n + 1 => b_X8_digest_20 (l_X8_digest_20 k47 n) k47
def b_X8_digest_6 (kb : St → Int64 → Int32 → Option (Int64 × St)) (k53 : St → Int64 → Option (Int64 × St)) (S : St) (x1 : Int64) (x3 : Int32) : Option (Int64 × St) :=
  if (S 1 0 6) ≤ x3 then k53 S x1 else l_X8_digest_20 (fun S x1 x3 => lt_ (x3 + 1) (fun v_8 => kb S x1 v_8)) 5000 S x1 x3 0
def l_X8_digest_6 (k53 : St → Int64 → Option (Int64 × St)) : Nat → St → Int64 → Int32 → Option (Int64 × St)
  | 0 => fun _ _ _ => none
  | n + 1 => b_X8_digest_6 (l_X8_digest_6 k53 n) k53
def b_X8_digest_55 (kb : St → Int64 → Int32 → Option (Int64 × St)) (k88 : St → Int64 → Option (Int64 × St)) (S : St) (x1 : Int64) (x3 : Int32) : Option (Int64 × St) :=
  if (S 2 0 10) ≤ x3 then k88 S x1 else bi (f_X5_outputVertex x3 S) (fun r_11 S_12 => lt_ ((31 * x1) + r_11.toInt64) (fun v_13 => lt_ (x3 + 1) (fun v_14 => kb S_12 v_13 v_14)))
def l_X8_digest_55 (k88 : St → Int64 → Option (Int64 × St)) : Nat → St → Int64 → Int32 → Option (Int64 × St)
  | 0 => fun _ _ _ => none
  | n + 1 => b_X8_digest_55 (l_X8_digest_55 k88 n) k88
def j_X8_digest_130 (kb : St → Int64 → Int32 → Option (Int64 × St)) (S : St) (x3 : Int32) (x4 : Nat) (y0 : Int64) (y1 : Int32) : Option (Int64 × St) :=
  lt_ (y0 + y1.toInt64) (fun v_18 => lt_ ((31 * v_18) + ((S 8 x4 4).toInt64)) (fun v_19 => lt_ ((31 * v_19) + ((S 8 x4 5).toInt64)) (fun v_20 => lt_ (x3 + 1) (fun v_21 => kb S v_20 v_21))))
def b_X8_digest_90 (kb : St → Int64 → Int32 → Option (Int64 × St)) (S : St) (x1 : Int64) (x3 : Int32) : Option (Int64 × St) :=
  if (S 4 0 1) ≤ x3 then some (x1, S) else gd (ix x3 20) (if (S 8 x3.toNatClampNeg 6) = 0 then j_X8_digest_130 kb S x3 x3.toNatClampNeg (31 * x1) 0 else j_X8_digest_130 kb S x3 x3.toNatClampNeg (31 * x1) 1)
def l_X8_digest_90 : Nat → St → Int64 → Int32 → Option (Int64 × St)
  | 0 => fun _ _ _ => none
  | n + 1 => b_X8_digest_90 (l_X8_digest_90 n)
def f_X8_digest (S : St) : Option (Int64 × St) :=
  l_X8_digest_6 (fun S x1 => l_X8_digest_55 (fun S x1 => l_X8_digest_90 5000 S x1 0) 5000 S x1 0) 5000 S 13 0
-- CellCoverModel.in(JJJ)Z
def j_X9_in_18 (S : St) (y0 : Int32) : Option (Int32 × St) :=
  gd (bz y0) (some (y0, S))
def j_X9_in_17 (S : St) : Option (Int32 × St) :=
  j_X9_in_18 S 0
def f_X9_in (a0 : Int64) (a1 : Int64) (a2 : Int64) (S : St) : Option (Int32 × St) :=
  if (lg_cmp a0 a1) < 0 then j_X9_in_17 S else if 0 < (lg_cmp a0 a2) then j_X9_in_17 S else j_X9_in_18 S 1
-- CellCoverModel.did(II)V
def f_X9_did (a0 : Int32) (a1 : Int32) (S : St) : Option (St) :=
  gd (ix (S 0 0 7) 4200) (lt_ (put S 6 0 (S 0 0 7).toNatClampNeg a0) (fun S_2 => gd (ix (S_2 0 0 7) 4200) (lt_ (put S_2 7 0 (S_2 0 0 7).toNatClampNeg a1) (fun S_4 => lt_ (put S_4 0 0 7 ((S_4 0 0 7) + 1)) (fun S_5 => lt_ (put S_5 0 0 10 0) (fun S_6 => some S_6))))))
-- CellCoverModel.isNode(I)Z
def f_X9_isNode (a0 : Int32) (S : St) : Option (Int32 × St) :=
  bi (f_X9_in a0.toInt64 0 (((S 0 0 0) - 1).toInt64) S) (fun r_2 S_3 => gd (bz r_2) (some (r_2, S_3)))
-- CellCoverModel.vertexAt(III)I
def j_X9_vertexAt_91 (kb : St → Int32 → Int32 → Int32 → Int32 → Option (Int32 × St)) (k97 : St → Int32 → Int32 → Int32 → Option (Int32 × St)) (S : St) (x1 : Int32) (x2 : Int32) (x3 : Int32) (x4 : Int32) : Option (Int32 × St) :=
  lt_ (x4 + 1) (fun v_10 => kb S x1 x2 x3 v_10)
def j_X9_vertexAt_70 (kb : St → Int32 → Int32 → Int32 → Int32 → Option (Int32 × St)) (k97 : St → Int32 → Int32 → Int32 → Option (Int32 × St)) (S : St) (x1 : Int32) (x2 : Int32) (x3 : Int32) (x4 : Int32) (y0 : Int32) : Option (Int32 × St) :=
  gd (ix x4 200) (lt_ (S 8 0 x4.toNatClampNeg) (fun v_8 => if v_8 = x1 then if y0 = 0 then j_X9_vertexAt_91 kb k97 S x1 x2 x3 x4 else some (x4, S) else j_X9_vertexAt_91 kb k97 S x1 x2 x3 x4))
def j_X9_vertexAt_69 (kb : St → Int32 → Int32 → Int32 → Int32 → Option (Int32 × St)) (k97 : St → Int32 → Int32 → Int32 → Option (Int32 × St)) (S : St) (x1 : Int32) (x2 : Int32) (x3 : Int32) (x4 : Int32) : Option (Int32 × St) :=
  j_X9_vertexAt_70 kb k97 S x1 x2 x3 x4 0
def j_X9_vertexAt_65 (kb : St → Int32 → Int32 → Int32 → Int32 → Option (Int32 × St)) (k97 : St → Int32 → Int32 → Int32 → Option (Int32 × St)) (S : St) (x1 : Int32) (x2 : Int32) (x3 : Int32) (x4 : Int32) : Option (Int32 × St) :=
  j_X9_vertexAt_70 kb k97 S x1 x2 x3 x4 1
def j_X9_vertexAt_38 (kb : St → Int32 → Int32 → Int32 → Int32 → Option (Int32 × St)) (k97 : St → Int32 → Int32 → Int32 → Option (Int32 × St)) (S : St) (x1 : Int32) (x2 : Int32) (x3 : Int32) (x4 : Int32) : Option (Int32 × St) :=
  if x1 = 2 then gd (ix x4 200) (lt_ (S 9 0 x4.toNatClampNeg) (fun v_13 => if v_13 = x3 then gd (ix x4 200) (lt_ (S 10 0 x4.toNatClampNeg) (fun v_16 => if v_16 = x2 then j_X9_vertexAt_65 kb k97 S x1 x2 x3 x4 else j_X9_vertexAt_69 kb k97 S x1 x2 x3 x4)) else j_X9_vertexAt_69 kb k97 S x1 x2 x3 x4)) else j_X9_vertexAt_69 kb k97 S x1 x2 x3 x4
def b_X9_vertexAt_3 (kb : St → Int32 → Int32 → Int32 → Int32 → Option (Int32 × St)) (k97 : St → Int32 → Int32 → Int32 → Option (Int32 × St)) (S : St) (x1 : Int32) (x2 : Int32) (x3 : Int32) (x4 : Int32) : Option (Int32 × St) :=
  if (S 0 0 11) ≤ x4 then k97 S x1 x2 x3 else if x1 ≤ 0 then k97 S x1 x2 x3 else gd (ix x4 200) (lt_ (S 9 0 x4.toNatClampNeg) (fun v_4 => if v_4 = x2 then gd (ix x4 200) (lt_ (S 10 0 x4.toNatClampNeg) (fun v_19 => if v_19 = x3 then j_X9_vertexAt_65 kb k97 S x1 x2 x3 x4 else j_X9_vertexAt_38 kb k97 S x1 x2 x3 x4)) else j_X9_vertexAt_38 kb k97 S x1 x2 x3 x4))
def l_X9_vertexAt_3 (k97 : St → Int32 → Int32 → Int32 → Option (Int32 × St)) : Nat → St → Int32 → Int32 → Int32 → Int32 → Option (Int32 × St)
  | 0 => fun _ _ _ _ _ => none
  | n + 1 => b_X9_vertexAt_3 (l_X9_vertexAt_3 k97 n) k97
def j_X9_vertexAt_97 (S : St) (x1 : Int32) (x2 : Int32) (x3 : Int32) : Option (Int32 × St) :=
  gd (ix (S 0 0 11) 200) (lt_ (put S 8 0 (S 0 0 11).toNatClampNeg x1) (fun S_22 => gd (ix (S_22 0 0 11) 200) (lt_ (put S_22 9 0 (S_22 0 0 11).toNatClampNeg x2) (fun S_24 => gd (ix (S_24 0 0 11) 200) (lt_ (put S_24 10 0 (S_24 0 0 11).toNatClampNeg x3) (fun S_26 => lt_ (put S_26 0 0 11 ((S_26 0 0 11) + 1)) (fun S_27 => some ((S_27 0 0 11) - 1, S_27))))))))
def f_X9_vertexAt (a0 : Int32) (a1 : Int32) (a2 : Int32) (S : St) : Option (Int32 × St) :=
  l_X9_vertexAt_3 (fun S x1 x2 x3 => j_X9_vertexAt_97 S x1 x2 x3) 5000 S a0 a1 a2 0
-- CellCoverModel.inverse(I)I
def j_X9_inverse_27 (S : St) (y0 : Int32) : Option (Int32 × St) :=
  some (y0, S)
def f_X9_inverse (a0 : Int32) (S : St) : Option (Int32 × St) :=
  gd (ix a0 200) (lt_ (S 8 0 a0.toNatClampNeg) (fun v_2 => if v_2 = 1 then gd (ix a0 200) (lt_ (S 9 0 a0.toNatClampNeg) (fun v_8 => j_X9_inverse_27 S v_8)) else bi (f_X9_vertexAt 1 a0 ((-4)) S) (fun r_5 S_6 => j_X9_inverse_27 S_6 r_5)))
-- CellCoverModel.nand(II)I
def f_X9_nand (a0 : Int32) (a1 : Int32) (S : St) : Option (Int32 × St) :=
  bi (f_X9_vertexAt 2 a0 a1 S) (fun r_2 S_3 => some (r_2, S_3))
-- CellCoverModel.gateOf(IIII)I
def j_X9_gateOf_97 (S : St) (y0 : Int32) : Option (Int32 × St) :=
  some (y0, S)
def f_X9_gateOf (a0 : Int32) (a1 : Int32) (a2 : Int32) (a3 : Int32) (S : St) : Option (Int32 × St) :=
  if a0 = 0 then bi (f_X9_inverse a1 S) (fun r_3 S_4 => some (r_3, S_4)) else if a0 = 1 then bi (f_X9_nand a1 a2 S) (fun r_7 S_8 => bi (f_X9_inverse r_7 S_8) (fun r_10 S_11 => some (r_10, S_11))) else if a0 = 2 then bi (f_X9_inverse a1 S) (fun r_14 S_15 => bi (f_X9_inverse a2 S_15) (fun r_17 S_18 => bi (f_X9_nand r_14 r_17 S_18) (fun r_20 S_21 => if a0 = 2 then j_X9_gateOf_97 S_21 r_20 else bi (f_X9_inverse r_20 S_21) (fun r_24 S_25 => j_X9_gateOf_97 S_25 r_24)))) else if a0 = 3 then bi (f_X9_nand a1 a2 S) (fun r_28 S_29 => bi (f_X9_nand a1 r_28 S_29) (fun r_31 S_32 => bi (f_X9_nand a2 r_28 S_32) (fun r_34 S_35 => bi (f_X9_nand r_31 r_34 S_35) (fun r_37 S_38 => some (r_37, S_38))))) else if a0 = 4 then bi (f_X9_nand a1 a2 S) (fun r_41 S_42 => some (r_41, S_42)) else if a0 = 5 then bi (f_X9_inverse a1 S) (fun r_45 S_46 => bi (f_X9_inverse a2 S_46) (fun r_48 S_49 => bi (f_X9_nand r_45 r_48 S_49) (fun r_51 S_52 => if a0 = 2 then j_X9_gateOf_97 S_52 r_51 else bi (f_X9_inverse r_51 S_52) (fun r_55 S_56 => j_X9_gateOf_97 S_56 r_55)))) else bi (f_X9_nand a1 a2 S) (fun r_58 S_59 => bi (f_X9_inverse a1 S_59) (fun r_61 S_62 => bi (f_X9_nand r_61 a3 S_62) (fun r_64 S_65 => bi (f_X9_nand r_58 r_64 S_65) (fun r_67 S_68 => some (r_67, S_68)))))
-- CellCoverModel.make()V
def j_X9_make_112 (kb : St → Int32 → Option (St)) (k119 : St → Option (St)) (S : St) (x1 : Int32) (y1 : Int32) (y2 : Int32) : Option (St) :=
  gd (ix y1 40) (lt_ (put S 11 0 y1.toNatClampNeg y2) (fun S_30 => lt_ (x1 + 1) (fun v_31 => kb S_30 v_31)))
def j_X9_make_109 (kb : St → Int32 → Option (St)) (k119 : St → Option (St)) (S : St) (x1 : Int32) (y1 : Int32) (y3 : Int32) (y4 : Int32) (y5 : Int32) (y6 : Int32) : Option (St) :=
  bi (f_X9_gateOf y3 y4 y5 y6 S) (fun r_27 S_28 => j_X9_make_112 kb k119 S_28 x1 y1 r_27)
def j_X9_make_83 (kb : St → Int32 → Option (St)) (k119 : St → Option (St)) (S : St) (x1 : Int32) (y1 : Int32) (y3 : Int32) (y4 : Int32) (y5 : Int32) : Option (St) :=
  gd (ix x1 40) (lt_ (S 1 0 x1.toNatClampNeg) (fun v_20 => if 6 ≤ v_20 then gd (ix x1 40) (lt_ (S 4 0 x1.toNatClampNeg) (fun v_23 => gd (ix v_23 40) (lt_ (S 11 0 v_23.toNatClampNeg) (fun v_25 => j_X9_make_109 kb k119 S x1 y1 y3 y4 y5 v_25)))) else j_X9_make_109 kb k119 S x1 y1 y3 y4 y5 0))
def b_X9_make_7 (kb : St → Int32 → Option (St)) (k119 : St → Option (St)) (S : St) (x1 : Int32) : Option (St) :=
  if (S 0 0 0) ≤ x1 then k119 S else gd (ix x1 40) (lt_ (S 1 0 x1.toNatClampNeg) (fun v_4 => if 0 ≤ v_4 then gd (ix x1 40) (lt_ (S 1 0 x1.toNatClampNeg) (fun v_7 => gd (ix x1 40) (lt_ (S 2 0 x1.toNatClampNeg) (fun v_9 => gd (ix v_9 40) (lt_ (S 11 0 v_9.toNatClampNeg) (fun v_11 => gd (ix x1 40) (lt_ (S 1 0 x1.toNatClampNeg) (fun v_13 => if v_13 = 0 then j_X9_make_83 kb k119 S x1 x1 v_7 v_11 0 else gd (ix x1 40) (lt_ (S 3 0 x1.toNatClampNeg) (fun v_16 => gd (ix v_16 40) (lt_ (S 11 0 v_16.toNatClampNeg) (fun v_18 => j_X9_make_83 kb k119 S x1 x1 v_7 v_11 v_18)))))))))))) else bi (f_X9_vertexAt 0 ((-4)) ((-4)) S) (fun r_33 S_34 => j_X9_make_112 kb k119 S_34 x1 x1 r_33)))
def l_X9_make_7 (k119 : St → Option (St)) : Nat → St → Int32 → Option (St)
  | 0 => fun _ _ => none
  | n + 1 => b_X9_make_7 (l_X9_make_7 k119 n) k119
def b_X9_make_121 (kb : St → Int32 → Option (St)) (k156 : St → Option (St)) (S : St) (x1 : Int32) : Option (St) :=
  if (S 0 0 11) ≤ x1 then k156 S else gd (ix x1 200) (lt_ (put S 12 0 x1.toNatClampNeg 0) (fun S_37 => gd (ix x1 200) (lt_ (put S_37 13 0 x1.toNatClampNeg (nz 0)) (fun S_39 => gd (ix x1 200) (lt_ (put S_39 14 0 x1.toNatClampNeg (nz 0)) (fun S_41 => lt_ (x1 + 1) (fun v_42 => kb S_41 v_42)))))))
def l_X9_make_121 (k156 : St → Option (St)) : Nat → St → Int32 → Option (St)
  | 0 => fun _ _ => none
  | n + 1 => b_X9_make_121 (l_X9_make_121 k156 n) k156
def b_X9_make_158 (kb : St → Int32 → Option (St)) (k208 : St → Option (St)) (S : St) (x1 : Int32) : Option (St) :=
  if (S 0 0 5) ≤ x1 then k208 S else gd (ix x1 8) (lt_ (S 5 0 x1.toNatClampNeg) (fun v_45 => gd (ix v_45 40) (lt_ (S 11 0 v_45.toNatClampNeg) (fun v_47 => gd (ix v_47 200) (lt_ (S 12 0 v_47.toNatClampNeg) (fun v_49 => gd (ix v_47 200) (lt_ (put S 12 0 v_47.toNatClampNeg (v_49 + 1)) (fun S_51 => gd (ix v_47 200) (lt_ (put S_51 13 0 v_47.toNatClampNeg (nz 1)) (fun S_53 => gd (ix v_47 200) (lt_ (put S_53 14 0 v_47.toNatClampNeg (nz 1)) (fun S_55 => lt_ (x1 + 1) (fun v_56 => kb S_55 v_56)))))))))))))
def l_X9_make_158 (k208 : St → Option (St)) : Nat → St → Int32 → Option (St)
  | 0 => fun _ _ => none
  | n + 1 => b_X9_make_158 (l_X9_make_158 k208 n) k208
def j_X9_make_301 (kb : St → Int32 → Option (St)) (k307 : St → Option (St)) (S : St) (x1 : Int32) : Option (St) :=
  lt_ (x1 + (-1)) (fun v_62 => kb S v_62)
def b_X9_make_215 (kb : St → Int32 → Option (St)) (k307 : St → Option (St)) (S : St) (x1 : Int32) : Option (St) :=
  if x1 < 0 then k307 S else gd (ix x1 200) (lt_ (S 13 0 x1.toNatClampNeg) (fun v_60 => if v_60 = 0 then j_X9_make_301 kb k307 S x1 else gd (ix x1 200) (lt_ (S 8 0 x1.toNatClampNeg) (fun v_64 => if v_64 = 0 then j_X9_make_301 kb k307 S x1 else gd (ix x1 200) (lt_ (S 9 0 x1.toNatClampNeg) (fun v_67 => gd (ix v_67 200) (lt_ (S 12 0 v_67.toNatClampNeg) (fun v_69 => gd (ix v_67 200) (lt_ (put S 12 0 v_67.toNatClampNeg (v_69 + 1)) (fun S_71 => gd (ix x1 200) (lt_ (S_71 9 0 x1.toNatClampNeg) (fun v_73 => gd (ix v_73 200) (lt_ (put S_71 13 0 v_73.toNatClampNeg (nz 1)) (fun S_75 => gd (ix x1 200) (lt_ (S_75 8 0 x1.toNatClampNeg) (fun v_77 => if v_77 = 2 then gd (ix x1 200) (lt_ (S_75 10 0 x1.toNatClampNeg) (fun v_80 => gd (ix v_80 200) (lt_ (S_75 12 0 v_80.toNatClampNeg) (fun v_82 => gd (ix v_80 200) (lt_ (put S_75 12 0 v_80.toNatClampNeg (v_82 + 1)) (fun S_84 => gd (ix x1 200) (lt_ (S_84 10 0 x1.toNatClampNeg) (fun v_86 => gd (ix v_86 200) (lt_ (put S_84 13 0 v_86.toNatClampNeg (nz 1)) (fun S_88 => j_X9_make_301 kb k307 S_88 x1)))))))))) else j_X9_make_301 kb k307 S_75 x1))))))))))))))))
def l_X9_make_215 (k307 : St → Option (St)) : Nat → St → Int32 → Option (St)
  | 0 => fun _ _ => none
  | n + 1 => b_X9_make_215 (l_X9_make_215 k307 n) k307
def j_X9_make_364 (kb : St → Int32 → Option (St)) (S : St) (x1 : Int32) (y1 : Int32) (y2 : Int32) : Option (St) :=
  gd (ix y1 200) (lt_ (put S 14 0 y1.toNatClampNeg (nz y2)) (fun S_94 => lt_ (x1 + 1) (fun v_95 => kb S_94 v_95)))
def j_X9_make_363 (kb : St → Int32 → Option (St)) (S : St) (x1 : Int32) (y1 : Int32) : Option (St) :=
  j_X9_make_364 kb S x1 y1 0
def j_X9_make_359 (kb : St → Int32 → Option (St)) (S : St) (x1 : Int32) (y1 : Int32) : Option (St) :=
  j_X9_make_364 kb S x1 y1 1
def b_X9_make_309 (kb : St → Int32 → Option (St)) (S : St) (x1 : Int32) : Option (St) :=
  if (S 0 0 11) ≤ x1 then some S else gd (ix x1 200) (lt_ (S 13 0 x1.toNatClampNeg) (fun v_91 => if v_91 = 0 then j_X9_make_363 kb S x1 x1 else gd (ix x1 200) (lt_ (S 8 0 x1.toNatClampNeg) (fun v_97 => if v_97 = 0 then j_X9_make_363 kb S x1 x1 else gd (ix x1 200) (lt_ (S 14 0 x1.toNatClampNeg) (fun v_100 => if v_100 = 0 then gd (ix x1 200) (lt_ (S 12 0 x1.toNatClampNeg) (fun v_103 => if v_103 = 1 then j_X9_make_363 kb S x1 x1 else j_X9_make_359 kb S x1 x1)) else j_X9_make_359 kb S x1 x1))))))
def l_X9_make_309 : Nat → St → Int32 → Option (St)
  | 0 => fun _ _ => none
  | n + 1 => b_X9_make_309 (l_X9_make_309 n)
def f_X9_make (S : St) : Option (St) :=
  lt_ (put S 0 0 11 0) (fun S_1 => l_X9_make_7 (fun S => l_X9_make_121 (fun S => l_X9_make_158 (fun S => lt_ ((S 0 0 11) - 1) (fun v_57 => l_X9_make_215 (fun S => l_X9_make_309 5000 S 0) 5000 S v_57)) 5000 S 0) 5000 S 0) 5000 S_1 0)
-- CellCoverModel.newNode(IIII)I
def f_X9_newNode (a0 : Int32) (a1 : Int32) (a2 : Int32) (a3 : Int32) (S : St) : Option (Int32 × St) :=
  if (S 0 0 0) = 40 then some ((-3), S) else gd (ix (S 0 0 0) 40) (lt_ (put S 1 0 (S 0 0 0).toNatClampNeg a0) (fun S_3 => gd (ix (S_3 0 0 0) 40) (lt_ (put S_3 2 0 (S_3 0 0 0).toNatClampNeg a1) (fun S_5 => gd (ix (S_5 0 0 0) 40) (lt_ (put S_5 3 0 (S_5 0 0 0).toNatClampNeg a2) (fun S_7 => gd (ix (S_7 0 0 0) 40) (lt_ (put S_7 4 0 (S_7 0 0 0).toNatClampNeg a3) (fun S_9 => lt_ (put S_9 0 0 0 ((S_9 0 0 0) + 1)) (fun S_10 => bv (f_X9_did 0 0 S_10) (fun q_11 => bv (f_X9_make q_11) (fun q_13 => some ((q_13 0 0 0) - 1, q_13))))))))))))
-- CellCoverModel.input()I
def f_X9_input (S : St) : Option (Int32 × St) :=
  bi (f_X9_newNode ((-1)) 0 0 0 S) (fun r_2 S_3 => some (r_2, S_3))
-- CellCoverModel.gate(IIII)I
def j_X9_gate_72 (S : St) (y0 : Int32) : Option (Int32 × St) :=
  some (y0, S)
def j_X9_gate_52 (S : St) (x1 : Int32) (x2 : Int32) (x3 : Int32) (x4 : Int32) (y0 : Int32) : Option (Int32 × St) :=
  if y0 = 0 then j_X9_gate_72 S ((-1)) else bi (f_X9_newNode x1 x2 x3 x4 S) (fun r_7 S_8 => j_X9_gate_72 S_8 r_7)
def j_X9_gate_51 (S : St) (x1 : Int32) (x2 : Int32) (x3 : Int32) (x4 : Int32) : Option (Int32 × St) :=
  j_X9_gate_52 S x1 x2 x3 x4 0
def j_X9_gate_47 (S : St) (x1 : Int32) (x2 : Int32) (x3 : Int32) (x4 : Int32) : Option (Int32 × St) :=
  j_X9_gate_52 S x1 x2 x3 x4 1
def j_X9_gate_32 (S : St) (x1 : Int32) (x2 : Int32) (x3 : Int32) (x4 : Int32) : Option (Int32 × St) :=
  if x1 < 6 then j_X9_gate_47 S x1 x2 x3 x4 else bi (f_X9_isNode x4 S) (fun r_16 S_17 => if r_16 = 0 then j_X9_gate_51 S_17 x1 x2 x3 x4 else j_X9_gate_47 S_17 x1 x2 x3 x4)
def f_X9_gate (a0 : Int32) (a1 : Int32) (a2 : Int32) (a3 : Int32) (S : St) : Option (Int32 × St) :=
  bi (f_X9_in a0.toInt64 0 6 S) (fun r_2 S_3 => if r_2 = 0 then j_X9_gate_51 S_3 a0 a1 a2 a3 else bi (f_X9_isNode a1 S_3) (fun r_10 S_11 => if r_10 = 0 then j_X9_gate_51 S_11 a0 a1 a2 a3 else if a0 = 0 then j_X9_gate_32 S_11 a0 a1 a2 a3 else bi (f_X9_isNode a2 S_11) (fun r_20 S_21 => if r_20 = 0 then j_X9_gate_51 S_21 a0 a1 a2 a3 else j_X9_gate_32 S_21 a0 a1 a2 a3)))
-- CellCoverModel.output(I)I
def f_X9_output (a0 : Int32) (S : St) : Option (Int32 × St) :=
  bi (f_X9_isNode a0 S) (fun r_2 S_3 => if r_2 = 0 then some ((-1), S_3) else if (S_3 0 0 5) = 8 then some ((-3), S_3) else gd (ix (S_3 0 0 5) 8) (lt_ (put S_3 5 0 (S_3 0 0 5).toNatClampNeg a0) (fun S_7 => lt_ (put S_7 0 0 5 ((S_7 0 0 5) + 1)) (fun S_8 => bv (f_X9_did 1 0 S_8) (fun q_9 => bv (f_X9_make q_9) (fun q_11 => some ((q_11 0 0 5) - 1, q_11)))))))
-- CellCoverModel.isVertex(I)Z
def f_X9_isVertex (a0 : Int32) (S : St) : Option (Int32 × St) :=
  bi (f_X9_in a0.toInt64 0 (((S 0 0 11) - 1).toInt64) S) (fun r_2 S_3 => gd (bz r_2) (some (r_2, S_3)))
-- CellCoverModel.vertexOf(I)I
def j_X9_vertexOf_18 (S : St) (y0 : Int32) : Option (Int32 × St) :=
  some (y0, S)
def f_X9_vertexOf (a0 : Int32) (S : St) : Option (Int32 × St) :=
  bi (f_X9_isNode a0 S) (fun r_2 S_3 => if r_2 = 0 then j_X9_vertexOf_18 S_3 ((-1)) else gd (ix a0 40) (lt_ (S_3 11 0 a0.toNatClampNeg) (fun v_6 => j_X9_vertexOf_18 S_3 v_6)))
-- CellCoverModel.told(II)I
def j_X9_told_78 (S : St) (y0 : Int32) : Option (Int32 × St) :=
  some (y0, S)
def j_X9_told_93 (S : St) (y0 : Int32) : Option (Int32 × St) :=
  some (y0, S)
def f_X9_told (a0 : Int32) (a1 : Int32) (S : St) : Option (Int32 × St) :=
  if a1 = 0 then gd (ix a0 200) (lt_ (S 8 0 a0.toNatClampNeg) (fun v_3 => some (v_3, S))) else if a1 = 1 then gd (ix a0 200) (lt_ (S 9 0 a0.toNatClampNeg) (fun v_6 => some (v_6, S))) else if a1 = 2 then gd (ix a0 200) (lt_ (S 10 0 a0.toNatClampNeg) (fun v_9 => some (v_9, S))) else if a1 = 3 then gd (ix a0 200) (lt_ (S 12 0 a0.toNatClampNeg) (fun v_12 => some (v_12, S))) else if a1 = 4 then gd (ix a0 200) (lt_ (S 14 0 a0.toNatClampNeg) (fun v_15 => if v_15 = 0 then j_X9_told_78 S 0 else j_X9_told_78 S 1)) else gd (ix a0 200) (lt_ (S 13 0 a0.toNatClampNeg) (fun v_18 => if v_18 = 0 then j_X9_told_93 S 0 else j_X9_told_93 S 1))
-- CellCoverModel.vertex(II)I
def j_X9_vertex_30 (S : St) (y0 : Int32) : Option (Int32 × St) :=
  some (y0, S)
def j_X9_vertex_29 (S : St) : Option (Int32 × St) :=
  j_X9_vertex_30 S ((-1))
def f_X9_vertex (a0 : Int32) (a1 : Int32) (S : St) : Option (Int32 × St) :=
  bi (f_X9_isVertex a0 S) (fun r_2 S_3 => if r_2 = 0 then j_X9_vertex_29 S_3 else bi (f_X9_in a1.toInt64 0 5 S_3) (fun r_6 S_7 => if r_6 = 0 then j_X9_vertex_29 S_7 else bi (f_X9_told a0 a1 S_7) (fun r_10 S_11 => j_X9_vertex_30 S_11 r_10)))
-- CellCoverModel.type(JI)I
def b_X9_type_33 (kb : St → Int64 → Int32 → Option (Int32 × St)) (S : St) (x1 : Int64) (x4 : Int32) : Option (Int32 × St) :=
  if x4 < 0 then some (S 0 0 20, S) else gd (ix (S 0 0 20) 60) (lt_ (put S 15 0 (S 0 0 20).toNatClampNeg (((x1 >>> ((8 * x4).toInt64 &&& 63)) &&& 255).toInt32)) (fun S_9 => lt_ (put S_9 0 0 20 ((S_9 0 0 20) + 1)) (fun S_10 => lt_ (x4 + (-1)) (fun v_11 => kb S_10 x1 v_11))))
def l_X9_type_33 : Nat → St → Int64 → Int32 → Option (Int32 × St)
  | 0 => fun _ _ _ => none
  | n + 1 => b_X9_type_33 (l_X9_type_33 n)
def f_X9_type (a0 : Int64) (a1 : Int32) (S : St) : Option (Int32 × St) :=
  bi (f_X9_in a1.toInt64 1 8 S) (fun r_2 S_3 => if r_2 = 0 then some ((-1), S_3) else if ((S_3 0 0 20) + a1) ≤ 60 then lt_ (a1 - 1) (fun v_6 => l_X9_type_33 5000 S_3 a0 v_6) else some ((-3), S_3))
-- CellCoverModel.byteAt(I)I
def j_X9_byteAt_18 (S : St) (y0 : Int32) : Option (Int32 × St) :=
  some (y0, S)
def f_X9_byteAt (a0 : Int32) (S : St) : Option (Int32 × St) :=
  if (S 0 0 20) ≤ a0 then j_X9_byteAt_18 S ((-1)) else gd (ix a0 60) (lt_ (S 15 0 a0.toNatClampNeg) (fun v_3 => j_X9_byteAt_18 S v_3))
-- CellCoverModel.wrong(II)V
def j_X9_wrong_17 (S : St) : Option (St) :=
  some S
def f_X9_wrong (a0 : Int32) (a1 : Int32) (S : St) : Option (St) :=
  if (S 0 0 34) = 0 then lt_ (put S 0 0 34 a0) (fun S_2 => lt_ (put S_2 0 0 35 a1) (fun S_3 => j_X9_wrong_17 S_3)) else j_X9_wrong_17 S
-- CellCoverModel.blanks()V
def b_X9_blanks_0 (kb : St → Option (St)) (S : St) : Option (St) :=
  bi (f_X9_byteAt (S 0 0 33) S) (fun r_2 S_3 => if r_2 = 32 then lt_ (put S_3 0 0 33 ((S_3 0 0 33) + 1)) (fun S_5 => kb S_5) else some S_3)
def l_X9_blanks_0 : Nat → St → Option (St)
  | 0 => fun _ => none
  | n + 1 => b_X9_blanks_0 (l_X9_blanks_0 n)
def f_X9_blanks (S : St) : Option (St) :=
  l_X9_blanks_0 5000 S
-- CellCoverModel.number(II)I
def b_X9_number_12 (kb : St → Int32 → Int32 → Int32 → Int32 → Option (Int32 × St)) (k76 : St → Int32 → Int32 → Int32 → Int32 → Option (Int32 × St)) (S : St) (x1 : Int32) (x2 : Int32) (x3 : Int32) (x4 : Int32) : Option (Int32 × St) :=
  if 3 ≤ ((S 0 0 33) - x3) then k76 S x1 x2 x3 x4 else bi (f_X9_byteAt (S 0 0 33) S) (fun r_6 S_7 => bi (f_X9_in r_6.toInt64 48 57 S_7) (fun r_9 S_10 => if r_9 = 0 then k76 S_10 x1 x2 x3 x4 else gd (ix (S_10 0 0 33) 60) (lt_ (S_10 15 0 (S_10 0 0 33).toNatClampNeg) (fun v_13 => lt_ (((10 * x4) + v_13) - 48) (fun v_14 => lt_ (put S_10 0 0 33 ((S_10 0 0 33) + 1)) (fun S_15 => kb S_15 x1 x2 x3 v_14))))))
def l_X9_number_12 (k76 : St → Int32 → Int32 → Int32 → Int32 → Option (Int32 × St)) : Nat → St → Int32 → Int32 → Int32 → Int32 → Option (Int32 × St)
  | 0 => fun _ _ _ _ _ => none
  | n + 1 => b_X9_number_12 (l_X9_number_12 k76 n) k76
def j_X9_number_145 (S : St) (x4 : Int32) : Option (Int32 × St) :=
  some (x4, S)
def j_X9_number_76 (S : St) (x1 : Int32) (x2 : Int32) (x3 : Int32) (x4 : Int32) : Option (Int32 × St) :=
  if (S 0 0 33) = x3 then bv (f_X9_wrong 1 x3 S) (fun q_32 => j_X9_number_145 q_32 x4) else bi (f_X9_in x4.toInt64 x1.toInt64 x2.toInt64 S) (fun r_18 S_19 => if r_18 = 0 then bv (f_X9_wrong 2 x3 S_19) (fun q_30 => j_X9_number_145 q_30 x4) else bi (f_X9_byteAt (S_19 0 0 33) S_19) (fun r_22 S_23 => bi (f_X9_in r_22.toInt64 48 57 S_23) (fun r_25 S_26 => if r_25 = 0 then j_X9_number_145 S_26 x4 else bv (f_X9_wrong 1 (S_26 0 0 33) S_26) (fun q_28 => j_X9_number_145 q_28 x4))))
def f_X9_number (a0 : Int32) (a1 : Int32) (S : St) : Option (Int32 × St) :=
  bv (f_X9_blanks S) (fun q_1 => lt_ (q_1 0 0 33) (fun v_3 => l_X9_number_12 (fun S x1 x2 x3 x4 => j_X9_number_76 S x1 x2 x3 x4) 5000 q_1 a0 a1 v_3 0))
-- CellCoverModel.tree(I)V
def j_X9_tree_325 (kb : St → Int32 → Int32 → Int32 → Int32 → Option (St)) (k328 : St → Int32 → Int32 → Option (St)) (S : St) (x1 : Int32) (x2 : Int32) (x3 : Int32) (x4 : Int32) : Option (St) :=
  kb S x1 x2 x3 x4
def j_X9_tree_312 (kb : St → Int32 → Int32 → Int32 → Int32 → Option (St)) (k328 : St → Int32 → Int32 → Option (St)) (S : St) (x1 : Int32) (x2 : Int32) (x3 : Int32) (x4 : Int32) : Option (St) :=
  lt_ (x3 + 1) (fun v_38 => lt_ (put S 0 0 33 ((S 0 0 33) + 1)) (fun S_39 => j_X9_tree_325 kb k328 S_39 x1 x2 v_38 x4))
def j_X9_tree_288 (kb : St → Int32 → Int32 → Int32 → Int32 → Option (St)) (k328 : St → Int32 → Int32 → Option (St)) (S : St) (x1 : Int32) (x2 : Int32) (x3 : Int32) (x4 : Int32) (x6 : Int32) : Option (St) :=
  if x6 = 0 then gd (ix x4 16) (lt_ (put S 26 0 x4.toNatClampNeg x3) (fun S_41 => gd (ix x4 16) (lt_ (put S_41 27 0 x4.toNatClampNeg (nz 0)) (fun S_43 => lt_ (x4 + 1) (fun v_44 => j_X9_tree_312 kb k328 S_43 x1 x2 x3 v_44))))) else j_X9_tree_312 kb k328 S x1 x2 x3 x4
def j_X9_tree_250 (kb : St → Int32 → Int32 → Int32 → Int32 → Option (St)) (k328 : St → Int32 → Int32 → Option (St)) (S : St) (x1 : Int32) (x2 : Int32) (x3 : Int32) (x4 : Int32) (x5 : Int32) (x6 : Int32) (y1 : Int32) (y2 : Int32) (y3 : Int32) : Option (St) :=
  gd (ix y1 20) (lt_ (put S 21 0 y1.toNatClampNeg (y2 ||| y3)) (fun S_35 => if x5 = 78 then gd (ix x1 20) (lt_ (S_35 20 0 x1.toNatClampNeg) (fun v_46 => gd (ix x1 20) (lt_ (put S_35 20 0 x1.toNatClampNeg (v_46 + 1)) (fun S_48 => gd (ix x4 16) (lt_ (put S_48 26 0 x4.toNatClampNeg x3) (fun S_50 => gd (ix x4 16) (lt_ (put S_50 27 0 x4.toNatClampNeg (nz 1)) (fun S_52 => lt_ (x4 + 1) (fun v_53 => j_X9_tree_288 kb k328 S_52 x1 x2 x3 v_53 x6))))))))) else j_X9_tree_288 kb k328 S_35 x1 x2 x3 x4 x6))
def j_X9_tree_226 (kb : St → Int32 → Int32 → Int32 → Int32 → Option (St)) (k328 : St → Int32 → Int32 → Option (St)) (S : St) (x1 : Int32) (x2 : Int32) (x3 : Int32) (x4 : Int32) (x5 : Int32) (x6 : Int32) (y1 : Int32) (y2 : Int32) : Option (St) :=
  gd (ix y1 240) (lt_ (put S 23 0 y1.toNatClampNeg y2) (fun S_30 => gd (ix x1 20) (lt_ (S_30 21 0 x1.toNatClampNeg) (fun v_32 => if x6 = 0 then j_X9_tree_250 kb k328 S_30 x1 x2 x3 x4 x5 x6 x1 v_32 0 else j_X9_tree_250 kb k328 S_30 x1 x2 x3 x4 x5 x6 x1 v_32 ((1 : Int32) <<< ((x5 - 97) &&& 31))))))
def j_X9_tree_204 (kb : St → Int32 → Int32 → Int32 → Int32 → Option (St)) (k328 : St → Int32 → Int32 → Option (St)) (S : St) (x1 : Int32) (x2 : Int32) (x3 : Int32) (x4 : Int32) (x5 : Int32) (x6 : Int32) (y1 : Int32) (y2 : Int32) : Option (St) :=
  gd (ix y1 240) (lt_ (put S 22 0 y1.toNatClampNeg y2) (fun S_27 => if x6 = 0 then j_X9_tree_226 kb k328 S_27 x1 x2 x3 x4 x5 x6 (x2 + x3) 0 else j_X9_tree_226 kb k328 S_27 x1 x2 x3 x4 x5 x6 (x2 + x3) (x5 - 97)))
def j_X9_tree_174 (kb : St → Int32 → Int32 → Int32 → Int32 → Option (St)) (k328 : St → Int32 → Int32 → Option (St)) (S : St) (x1 : Int32) (x2 : Int32) (x3 : Int32) (x4 : Int32) (x5 : Int32) (x6 : Int32) : Option (St) :=
  if x5 = 78 then j_X9_tree_204 kb k328 S x1 x2 x3 x4 x5 x6 (x2 + x3) 2 else if x5 = 73 then j_X9_tree_204 kb k328 S x1 x2 x3 x4 x5 x6 (x2 + x3) 1 else j_X9_tree_204 kb k328 S x1 x2 x3 x4 x5 x6 (x2 + x3) 3
def j_X9_tree_106 (kb : St → Int32 → Int32 → Int32 → Int32 → Option (St)) (k328 : St → Int32 → Int32 → Option (St)) (S : St) (x1 : Int32) (x2 : Int32) (x3 : Int32) (x4 : Int32) (x5 : Int32) (x6 : Int32) : Option (St) :=
  if x3 = 12 then bv (f_X9_wrong 3 (S 0 0 33) S) (fun q_61 => j_X9_tree_325 kb k328 q_61 x1 x2 x3 x4) else lt_ (x4 + (-1)) (fun v_20 => gd (ix v_20 16) (lt_ (S 26 0 v_20.toNatClampNeg) (fun v_22 => if v_22 < 0 then j_X9_tree_174 kb k328 S x1 x2 x3 v_20 x5 x6 else gd (ix v_20 16) (lt_ (S 27 0 v_20.toNatClampNeg) (fun v_55 => if v_55 = 0 then gd (ix (x2 + v_22) 240) (lt_ (put S 24 0 (x2 + v_22).toNatClampNeg x3) (fun S_58 => j_X9_tree_174 kb k328 S_58 x1 x2 x3 v_20 x5 x6)) else gd (ix (x2 + v_22) 240) (lt_ (put S 25 0 (x2 + v_22).toNatClampNeg x3) (fun S_60 => j_X9_tree_174 kb k328 S_60 x1 x2 x3 v_20 x5 x6)))))))
def j_X9_tree_94 (kb : St → Int32 → Int32 → Int32 → Int32 → Option (St)) (k328 : St → Int32 → Int32 → Option (St)) (S : St) (x1 : Int32) (x2 : Int32) (x3 : Int32) (x4 : Int32) : Option (St) :=
  bv (f_X9_wrong 1 (S 0 0 33) S) (fun q_65 => j_X9_tree_325 kb k328 q_65 x1 x2 x3 x4)
def b_X9_tree_31 (kb : St → Int32 → Int32 → Int32 → Int32 → Option (St)) (k328 : St → Int32 → Int32 → Option (St)) (S : St) (x1 : Int32) (x2 : Int32) (x3 : Int32) (x4 : Int32) : Option (St) :=
  if x4 ≤ 0 then k328 S x1 x3 else if (S 0 0 34) = 0 then bv (f_X9_blanks S) (fun q_10 => bi (f_X9_byteAt (q_10 0 0 33) q_10) (fun r_13 S_14 => bi (f_X9_in r_13.toInt64 97 102 S_14) (fun r_16 S_17 => if r_13 = 78 then j_X9_tree_106 kb k328 S_17 x1 x2 x3 x4 r_13 r_16 else if r_13 = 73 then j_X9_tree_106 kb k328 S_17 x1 x2 x3 x4 r_13 r_16 else if r_16 = 0 then j_X9_tree_94 kb k328 S_17 x1 x2 x3 x4 else if x3 = 0 then j_X9_tree_94 kb k328 S_17 x1 x2 x3 x4 else j_X9_tree_106 kb k328 S_17 x1 x2 x3 x4 r_13 r_16))) else k328 S x1 x3
def l_X9_tree_31 (k328 : St → Int32 → Int32 → Option (St)) : Nat → St → Int32 → Int32 → Int32 → Int32 → Option (St)
  | 0 => fun _ _ _ _ _ => none
  | n + 1 => b_X9_tree_31 (l_X9_tree_31 k328 n) k328
def j_X9_tree_359 (S : St) : Option (St) :=
  some S
def j_X9_tree_328 (S : St) (x1 : Int32) (x3 : Int32) : Option (St) :=
  gd (ix x1 20) (lt_ (put S 19 0 x1.toNatClampNeg x3) (fun S_69 => bv (f_X9_blanks S_69) (fun q_70 => if (q_70 0 0 20) ≤ (q_70 0 0 33) then j_X9_tree_359 q_70 else bv (f_X9_wrong 1 (q_70 0 0 33) q_70) (fun q_73 => j_X9_tree_359 q_73))))
def f_X9_tree (a0 : Int32) (S : St) : Option (St) :=
  lt_ (12 * a0) (fun v_1 => gd (ix 0 16) (lt_ (put S 26 0 (0 : Int32).toNatClampNeg ((-1))) (fun S_3 => gd (ix a0 20) (lt_ (put S_3 20 0 a0.toNatClampNeg 0) (fun S_5 => gd (ix a0 20) (lt_ (put S_5 21 0 a0.toNatClampNeg 0) (fun S_7 => l_X9_tree_31 (fun S x1 x3 => j_X9_tree_328 S x1 x3) 5000 S_7 a0 v_1 0 1)))))))
-- CellCoverModel.cell()I
def j_X9_cell_82 (S : St) : Option (Int32 × St) :=
  lt_ (put S 0 0 20 0) (fun S_12 => lt_ (put S_12 0 0 21 (S_12 0 0 34)) (fun S_13 => if (S_13 0 0 34) ≤ 0 then gd (ix (S_13 0 0 22) 20) (lt_ (put S_13 16 0 (S_13 0 0 22).toNatClampNeg (nz 1)) (fun S_16 => lt_ (put S_16 0 0 22 ((S_16 0 0 22) + 1)) (fun S_17 => bv (f_X9_did 2 0 S_17) (fun q_18 => some ((q_18 0 0 22) - 1, q_18))))) else some (((-100)) - (S_13 0 0 35), S_13)))
def j_X9_cell_67 (S : St) : Option (Int32 × St) :=
  if (S 0 0 34) = 0 then bv (f_X9_tree (S 0 0 22) S) (fun q_20 => j_X9_cell_82 q_20) else j_X9_cell_82 S
def f_X9_cell (S : St) : Option (Int32 × St) :=
  if (S 0 0 22) = 20 then some ((-3), S) else lt_ (put S 0 0 33 0) (fun S_2 => lt_ (put S_2 0 0 34 0) (fun S_3 => lt_ (put S_3 0 0 35 0) (fun S_4 => bi (f_X9_number 1 999 S_4) (fun r_6 S_7 => gd (ix (S_4 0 0 22) 20) (lt_ (put S_7 17 0 (S_4 0 0 22).toNatClampNeg r_6) (fun S_9 => if (S_9 0 0 34) = 0 then bi (f_X9_number 0 99 S_9) (fun r_23 S_24 => gd (ix (S_9 0 0 22) 20) (lt_ (put S_24 18 0 (S_9 0 0 22).toNatClampNeg r_23) (fun S_26 => j_X9_cell_67 S_26))) else j_X9_cell_67 S_9))))))
-- CellCoverModel.fault()I
def f_X9_fault (S : St) : Option (Int32 × St) :=
  some (S 0 0 21, S)
-- CellCoverModel.isCell(I)Z
def j_X9_isCell_30 (S : St) (y0 : Int32) : Option (Int32 × St) :=
  gd (bz y0) (some (y0, S))
def j_X9_isCell_29 (S : St) : Option (Int32 × St) :=
  j_X9_isCell_30 S 0
def f_X9_isCell (a0 : Int32) (S : St) : Option (Int32 × St) :=
  bi (f_X9_in a0.toInt64 0 (((S 0 0 22) - 1).toInt64) S) (fun r_2 S_3 => if r_2 = 0 then j_X9_isCell_29 S_3 else gd (ix a0 20) (lt_ (S_3 16 0 a0.toNatClampNeg) (fun v_7 => if v_7 = 0 then j_X9_isCell_29 S_3 else j_X9_isCell_30 S_3 1)))
-- CellCoverModel.drop(I)I
def f_X9_drop (a0 : Int32) (S : St) : Option (Int32 × St) :=
  bi (f_X9_isCell a0 S) (fun r_2 S_3 => if r_2 = 0 then some ((-1), S_3) else gd (ix a0 20) (lt_ (put S_3 16 0 a0.toNatClampNeg (nz 0)) (fun S_6 => bv (f_X9_did 3 a0 S_6) (fun q_7 => some (1, q_7)))))
-- CellCoverModel.undo()I
def j_X9_undo_110 (S : St) : Option (Int32 × St) :=
  lt_ (put S 0 0 10 0) (fun S_7 => bv (f_X9_make S_7) (fun q_8 => some (q_8 0 0 7, q_8)))
def f_X9_undo (S : St) : Option (Int32 × St) :=
  if (S 0 0 7) = 0 then some ((-2), S) else lt_ (put S 0 0 7 ((S 0 0 7) - 1)) (fun S_2 => gd (ix (S_2 0 0 7) 4200) (lt_ (S_2 6 0 (S_2 0 0 7).toNatClampNeg) (fun v_4 => if v_4 = 0 then lt_ (put S_2 0 0 0 ((S_2 0 0 0) - 1)) (fun S_6 => j_X9_undo_110 S_6) else if v_4 = 1 then lt_ (put S_2 0 0 5 ((S_2 0 0 5) - 1)) (fun S_11 => j_X9_undo_110 S_11) else if v_4 = 2 then lt_ (put S_2 0 0 22 ((S_2 0 0 22) - 1)) (fun S_13 => j_X9_undo_110 S_13) else gd (ix (S_2 0 0 7) 4200) (lt_ (S_2 7 0 (S_2 0 0 7).toNatClampNeg) (fun v_15 => gd (ix v_15 20) (lt_ (put S_2 16 0 v_15.toNatClampNeg (nz 1)) (fun S_17 => j_X9_undo_110 S_17)))))))
-- CellCoverModel.fits(III)Z
def b_X9_fits_17 (kb : St → Int32 → Int32 → Int32 → Int32 → Int32 → Int32 → Option (Int32 × St)) (k39 : St → Int32 → Int32 → Int32 → Int32 → Int32 → Option (Int32 × St)) (S : St) (x1 : Int32) (x2 : Int32) (x3 : Int32) (x4 : Int32) (x5 : Int32) (x6 : Int32) : Option (Int32 × St) :=
  if 6 ≤ x6 then k39 S x1 x2 x3 x4 x5 else gd (ix x6 6) (lt_ (put S 29 0 x6.toNatClampNeg ((-4))) (fun S_6 => lt_ (x6 + 1) (fun v_7 => kb S_6 x1 x2 x3 x4 x5 v_7)))
def l_X9_fits_17 (k39 : St → Int32 → Int32 → Int32 → Int32 → Int32 → Option (Int32 × St)) : Nat → St → Int32 → Int32 → Int32 → Int32 → Int32 → Int32 → Option (Int32 × St)
  | 0 => fun _ _ _ _ _ _ _ => none
  | n + 1 => b_X9_fits_17 (l_X9_fits_17 k39 n) k39
def j_X9_fits_291 (kb : St → Int32 → Int32 → Int32 → Int32 → Int32 → Option (Int32 × St)) (S : St) (x1 : Int32) (x3 : Int32) (x4 : Int32) (x5 : Int32) (x6 : Int32) : Option (Int32 × St) :=
  lt_ (x6 + 1) (fun v_39 => kb S x1 x3 x4 x5 v_39)
def j_X9_fits_290 (kb : St → Int32 → Int32 → Int32 → Int32 → Int32 → Option (Int32 × St)) (S : St) (x1 : Int32) (x3 : Int32) (x4 : Int32) (x5 : Int32) (x6 : Int32) (y1 : Int32) (y2 : Int32) : Option (Int32 × St) :=
  gd (ix y1 12) (lt_ (put S 28 0 y1.toNatClampNeg y2) (fun S_38 => j_X9_fits_291 kb S_38 x1 x3 x4 x5 x6))
def j_X9_fits_253 (kb : St → Int32 → Int32 → Int32 → Int32 → Int32 → Option (Int32 × St)) (S : St) (x1 : Int32) (x3 : Int32) (x4 : Int32) (x5 : Int32) (x6 : Int32) (x7 : Int32) (x9 : Int32) (y1 : Int32) (y2 : Int32) : Option (Int32 × St) :=
  gd (ix y1 12) (lt_ (put S 28 0 y1.toNatClampNeg y2) (fun S_31 => gd (ix (x4 + x6) 240) (lt_ (S_31 25 0 (x4 + x6).toNatClampNeg) (fun v_33 => if x9 = 0 then gd (ix x7 200) (lt_ (S_31 10 0 x7.toNatClampNeg) (fun v_36 => j_X9_fits_290 kb S_31 x1 x3 x4 x5 x6 v_33 v_36)) else gd (ix x7 200) (lt_ (S_31 9 0 x7.toNatClampNeg) (fun v_41 => j_X9_fits_290 kb S_31 x1 x3 x4 x5 x6 v_33 v_41))))))
def j_X9_fits_215 (kb : St → Int32 → Int32 → Int32 → Int32 → Int32 → Option (Int32 × St)) (S : St) (x1 : Int32) (x3 : Int32) (x4 : Int32) (x5 : Int32) (x6 : Int32) (x7 : Int32) (y0 : Int32) : Option (Int32 × St) :=
  gd (ix (x4 + x6) 240) (lt_ (S 24 0 (x4 + x6).toNatClampNeg) (fun v_26 => if y0 = 0 then gd (ix x7 200) (lt_ (S 9 0 x7.toNatClampNeg) (fun v_29 => j_X9_fits_253 kb S x1 x3 x4 x5 x6 x7 y0 v_26 v_29)) else gd (ix x7 200) (lt_ (S 10 0 x7.toNatClampNeg) (fun v_43 => j_X9_fits_253 kb S x1 x3 x4 x5 x6 x7 y0 v_26 v_43))))
def j_X9_fits_166 (kb : St → Int32 → Int32 → Int32 → Int32 → Int32 → Option (Int32 × St)) (S : St) (x1 : Int32) (x3 : Int32) (x4 : Int32) (x5 : Int32) (x6 : Int32) (x7 : Int32) (x8 : Int32) : Option (Int32 × St) :=
  if x8 = 1 then gd (ix (x4 + x6) 240) (lt_ (S 24 0 (x4 + x6).toNatClampNeg) (fun v_45 => gd (ix x7 200) (lt_ (S 9 0 x7.toNatClampNeg) (fun v_47 => gd (ix v_45 12) (lt_ (put S 28 0 v_45.toNatClampNeg v_47) (fun S_49 => j_X9_fits_291 kb S_49 x1 x3 x4 x5 x6)))))) else lt_ (x5 + (-1)) (fun v_23 => if ((x3 >>> (v_23 &&& 31)) &&& 1) = 1 then j_X9_fits_215 kb S x1 x3 x4 v_23 x6 x7 1 else j_X9_fits_215 kb S x1 x3 x4 v_23 x6 x7 0)
def j_X9_fits_125 (kb : St → Int32 → Int32 → Int32 → Int32 → Int32 → Option (Int32 × St)) (S : St) (x1 : Int32) (x3 : Int32) (x4 : Int32) (x5 : Int32) (x6 : Int32) (x7 : Int32) (x9 : Int32) : Option (Int32 × St) :=
  gd (ix x9 6) (lt_ (put S 29 0 x9.toNatClampNeg x7) (fun S_59 => j_X9_fits_291 kb S_59 x1 x3 x4 x5 x6))
def b_X9_fits_49 (kb : St → Int32 → Int32 → Int32 → Int32 → Int32 → Option (Int32 × St)) (S : St) (x1 : Int32) (x3 : Int32) (x4 : Int32) (x5 : Int32) (x6 : Int32) : Option (Int32 × St) :=
  gd (ix x1 20) (lt_ (S 19 0 x1.toNatClampNeg) (fun v_11 => if v_11 ≤ x6 then some (1, S) else gd (ix x6 12) (lt_ (S 28 0 x6.toNatClampNeg) (fun v_14 => gd (ix (x4 + x6) 240) (lt_ (S 22 0 (x4 + x6).toNatClampNeg) (fun v_16 => if v_16 = 3 then gd (ix (x4 + x6) 240) (lt_ (S 23 0 (x4 + x6).toNatClampNeg) (fun v_54 => gd (ix v_54 6) (lt_ (S 29 0 v_54.toNatClampNeg) (fun v_56 => if v_56 = ((-4)) then j_X9_fits_125 kb S x1 x3 x4 x5 x6 v_14 v_54 else gd (ix v_54 6) (lt_ (S 29 0 v_54.toNatClampNeg) (fun v_61 => if v_61 = v_14 then j_X9_fits_125 kb S x1 x3 x4 x5 x6 v_14 v_54 else some (0, S))))))) else gd (ix v_14 200) (lt_ (S 8 0 v_14.toNatClampNeg) (fun v_19 => if v_19 = v_16 then if x6 ≤ 0 then j_X9_fits_166 kb S x1 x3 x4 x5 x6 v_14 v_16 else gd (ix v_14 200) (lt_ (S 14 0 v_14.toNatClampNeg) (fun v_51 => if v_51 = 0 then j_X9_fits_166 kb S x1 x3 x4 x5 x6 v_14 v_16 else some (0, S))) else some (0, S)))))))))
def l_X9_fits_49 : Nat → St → Int32 → Int32 → Int32 → Int32 → Int32 → Option (Int32 × St)
  | 0 => fun _ _ _ _ _ _ => none
  | n + 1 => b_X9_fits_49 (l_X9_fits_49 n)
def f_X9_fits (a0 : Int32) (a1 : Int32) (a2 : Int32) (S : St) : Option (Int32 × St) :=
  lt_ (12 * a0) (fun v_1 => gd (ix a0 20) (lt_ (S 20 0 a0.toNatClampNeg) (fun v_3 => l_X9_fits_17 (fun S x1 x2 x3 x4 x5 => gd (ix 0 12) (lt_ (put S 28 0 (0 : Int32).toNatClampNeg x2) (fun S_9 => l_X9_fits_49 5000 S_9 x1 x3 x4 x5 0))) 5000 S a0 a1 a2 v_1 v_3 0)))
-- CellCoverModel.canMatch(II)Z
def j_X9_canMatch_30 (S : St) (y0 : Int32) : Option (Int32 × St) :=
  gd (bz y0) (some (y0, S))
def j_X9_canMatch_29 (S : St) : Option (Int32 × St) :=
  j_X9_canMatch_30 S 0
def f_X9_canMatch (a0 : Int32) (a1 : Int32) (S : St) : Option (Int32 × St) :=
  bi (f_X9_isCell a0 S) (fun r_2 S_3 => if r_2 = 0 then j_X9_canMatch_29 S_3 else bi (f_X9_isVertex a1 S_3) (fun r_7 S_8 => if r_7 = 0 then j_X9_canMatch_29 S_8 else gd (ix a1 200) (lt_ (S_8 13 0 a1.toNatClampNeg) (fun v_11 => if v_11 = 0 then j_X9_canMatch_29 S_8 else j_X9_canMatch_30 S_8 1))))
-- CellCoverModel.matches(II)I
def j_X9_matches_46 (kb : St → Int32 → Int32 → Int32 → Int32 → Option (Int32 × St)) (S : St) (x1 : Int32) (x2 : Int32) (x4 : Int32) (y0 : Int32) (y1 : Int32) : Option (Int32 × St) :=
  lt_ (y0 + y1) (fun v_12 => lt_ (x4 + 1) (fun v_13 => kb S x1 x2 v_12 v_13))
def b_X9_matches_16 (kb : St → Int32 → Int32 → Int32 → Int32 → Option (Int32 × St)) (S : St) (x1 : Int32) (x2 : Int32) (x3 : Int32) (x4 : Int32) : Option (Int32 × St) :=
  gd (ix x1 20) (lt_ (S 20 0 x1.toNatClampNeg) (fun v_6 => if ((1 : Int32) <<< (v_6 &&& 31)) ≤ x4 then some (x3, S) else bi (f_X9_fits x1 x2 x4 S) (fun r_9 S_10 => if r_9 = 0 then j_X9_matches_46 kb S_10 x1 x2 x4 x3 0 else j_X9_matches_46 kb S_10 x1 x2 x4 x3 1)))
def l_X9_matches_16 : Nat → St → Int32 → Int32 → Int32 → Int32 → Option (Int32 × St)
  | 0 => fun _ _ _ _ _ => none
  | n + 1 => b_X9_matches_16 (l_X9_matches_16 n)
def f_X9_matches (a0 : Int32) (a1 : Int32) (S : St) : Option (Int32 × St) :=
  bi (f_X9_canMatch a0 a1 S) (fun r_2 S_3 => if r_2 = 0 then some ((-1), S_3) else l_X9_matches_16 5000 S_3 a0 a1 0 0)
-- CellCoverModel.match(IIII)I
def j_X9_match_22 (S : St) : Option (Int32 × St) :=
  some ((-1), S)
def j_X9_match_71 (kb : St → Int32 → Int32 → Int32 → Int32 → Int32 → Int32 → Option (Int32 × St)) (S : St) (x1 : Int32) (x2 : Int32) (x3 : Int32) (x4 : Int32) (x5 : Int32) (x6 : Int32) : Option (Int32 × St) :=
  lt_ (x6 + 1) (fun v_16 => kb S x1 x2 x3 x4 x5 v_16)
def b_X9_match_30 (kb : St → Int32 → Int32 → Int32 → Int32 → Int32 → Int32 → Option (Int32 × St)) (S : St) (x1 : Int32) (x2 : Int32) (x3 : Int32) (x4 : Int32) (x5 : Int32) (x6 : Int32) : Option (Int32 × St) :=
  gd (ix x1 20) (lt_ (S 20 0 x1.toNatClampNeg) (fun v_10 => if ((1 : Int32) <<< (v_10 &&& 31)) ≤ x6 then some ((-4), S) else bi (f_X9_fits x1 x2 x6 S) (fun r_13 S_14 => if r_13 = 0 then j_X9_match_71 kb S_14 x1 x2 x3 x4 x5 x6 else if x5 = x3 then gd (ix x4 6) (lt_ (S_14 29 0 x4.toNatClampNeg) (fun v_20 => some (v_20, S_14))) else lt_ (x5 + 1) (fun v_18 => j_X9_match_71 kb S_14 x1 x2 x3 x4 v_18 x6))))
def l_X9_match_30 : Nat → St → Int32 → Int32 → Int32 → Int32 → Int32 → Int32 → Option (Int32 × St)
  | 0 => fun _ _ _ _ _ _ _ => none
  | n + 1 => b_X9_match_30 (l_X9_match_30 n)
def f_X9_match (a0 : Int32) (a1 : Int32) (a2 : Int32) (a3 : Int32) (S : St) : Option (Int32 × St) :=
  bi (f_X9_canMatch a0 a1 S) (fun r_2 S_3 => if r_2 = 0 then j_X9_match_22 S_3 else bi (f_X9_in a3.toInt64 0 5 S_3) (fun r_6 S_7 => if r_6 = 0 then j_X9_match_22 S_7 else l_X9_match_30 5000 S_7 a0 a1 a2 a3 0 0))
-- CellCoverModel.tryAll(IIII)V
def j_X9_tryAll_362 (kb : St → Int32 → Int32 → Int32 → Int32 → Int32 → Option (St)) (S : St) (x1 : Int32) (x2 : Int32) (x3 : Int32) (x4 : Int32) (x5 : Int32) : Option (St) :=
  lt_ (x5 + 1) (fun v_8 => kb S x1 x2 x3 x4 v_8)
def j_X9_tryAll_153 (kb : St → Int32 → Int32 → Int32 → Int32 → Int32 → Int32 → Int32 → Int32 → Int32 → Option (St)) (k159 : St → Int32 → Int32 → Int32 → Int32 → Int32 → Int32 → Int32 → Int32 → Option (St)) (S : St) (x1 : Int32) (x2 : Int32) (x3 : Int32) (x4 : Int32) (x5 : Int32) (x6 : Int32) (x7 : Int32) (x8 : Int32) (x9 : Int32) : Option (St) :=
  lt_ (x9 + 1) (fun v_15 => kb S x1 x2 x3 x4 x5 x6 x7 x8 v_15)
def j_X9_tryAll_151 (kb : St → Int32 → Int32 → Int32 → Int32 → Int32 → Int32 → Int32 → Int32 → Int32 → Option (St)) (k159 : St → Int32 → Int32 → Int32 → Int32 → Int32 → Int32 → Int32 → Int32 → Option (St)) (S : St) (x1 : Int32) (x2 : Int32) (x3 : Int32) (x4 : Int32) (x5 : Int32) (x6 : Int32) (x7 : Int32) (x9 : Int32) (y0 : Int32) : Option (St) :=
  j_X9_tryAll_153 kb k159 S x1 x2 x3 x4 x5 x6 x7 y0 x9
def j_X9_tryAll_124 (kb : St → Int32 → Int32 → Int32 → Int32 → Int32 → Int32 → Int32 → Int32 → Int32 → Option (St)) (k159 : St → Int32 → Int32 → Int32 → Int32 → Int32 → Int32 → Int32 → Int32 → Option (St)) (S : St) (x1 : Int32) (x2 : Int32) (x3 : Int32) (x4 : Int32) (x5 : Int32) (x6 : Int32) (x8 : Int32) (x9 : Int32) (x10 : Int32) (y0 : Int32) (y1 : Int32) : Option (St) :=
  lt_ (y0 + y1) (fun v_27 => gd (ix x10 400) (lt_ (S 32 0 x10.toNatClampNeg) (fun v_29 => if v_29 ≤ x8 then j_X9_tryAll_151 kb k159 S x1 x2 x3 x4 x5 x6 v_27 x9 x8 else gd (ix x10 400) (lt_ (S 32 0 x10.toNatClampNeg) (fun v_32 => j_X9_tryAll_151 kb k159 S x1 x2 x3 x4 x5 x6 v_27 x9 v_32)))))
def j_X9_tryAll_94 (kb : St → Int32 → Int32 → Int32 → Int32 → Int32 → Int32 → Int32 → Int32 → Int32 → Option (St)) (k159 : St → Int32 → Int32 → Int32 → Int32 → Int32 → Int32 → Int32 → Int32 → Option (St)) (S : St) (x1 : Int32) (x2 : Int32) (x3 : Int32) (x4 : Int32) (x5 : Int32) (x7 : Int32) (x8 : Int32) (x9 : Int32) (x10 : Int32) (y0 : Int32) : Option (St) :=
  gd (ix x9 6) (lt_ (S 29 0 x9.toNatClampNeg) (fun v_21 => gd (ix v_21 200) (lt_ (S 14 0 v_21.toNatClampNeg) (fun v_23 => if v_23 = 0 then gd (ix x10 400) (lt_ (S 31 0 x10.toNatClampNeg) (fun v_26 => j_X9_tryAll_124 kb k159 S x1 x2 x3 x4 x5 y0 x8 x9 x10 x7 v_26)) else j_X9_tryAll_124 kb k159 S x1 x2 x3 x4 x5 y0 x8 x9 x10 x7 0))))
def j_X9_tryAll_93 (kb : St → Int32 → Int32 → Int32 → Int32 → Int32 → Int32 → Int32 → Int32 → Int32 → Option (St)) (k159 : St → Int32 → Int32 → Int32 → Int32 → Int32 → Int32 → Int32 → Int32 → Option (St)) (S : St) (x1 : Int32) (x2 : Int32) (x3 : Int32) (x4 : Int32) (x5 : Int32) (x7 : Int32) (x8 : Int32) (x9 : Int32) (x10 : Int32) : Option (St) :=
  j_X9_tryAll_94 kb k159 S x1 x2 x3 x4 x5 x7 x8 x9 x10 0
def b_X9_tryAll_44 (kb : St → Int32 → Int32 → Int32 → Int32 → Int32 → Int32 → Int32 → Int32 → Int32 → Option (St)) (k159 : St → Int32 → Int32 → Int32 → Int32 → Int32 → Int32 → Int32 → Int32 → Option (St)) (S : St) (x1 : Int32) (x2 : Int32) (x3 : Int32) (x4 : Int32) (x5 : Int32) (x6 : Int32) (x7 : Int32) (x8 : Int32) (x9 : Int32) : Option (St) :=
  if 6 ≤ x9 then k159 S x1 x2 x3 x4 x5 x6 x7 x8 else gd (ix x9 6) (lt_ (S 29 0 x9.toNatClampNeg) (fun v_13 => if v_13 = ((-4)) then j_X9_tryAll_153 kb k159 S x1 x2 x3 x4 x5 x6 x7 x8 x9 else gd (ix x9 6) (lt_ (S 29 0 x9.toNatClampNeg) (fun v_17 => lt_ (x1 + v_17) (fun v_18 => if x6 = 0 then j_X9_tryAll_93 kb k159 S x1 x2 x3 x4 x5 x7 x8 x9 v_18 else gd (ix v_18 400) (lt_ (S 30 0 v_18.toNatClampNeg) (fun v_34 => if v_34 = 0 then j_X9_tryAll_93 kb k159 S x1 x2 x3 x4 x5 x7 x8 x9 v_18 else j_X9_tryAll_94 kb k159 S x1 x2 x3 x4 x5 x7 x8 x9 v_18 1)))))))
def l_X9_tryAll_44 (k159 : St → Int32 → Int32 → Int32 → Int32 → Int32 → Int32 → Int32 → Int32 → Option (St)) : Nat → St → Int32 → Int32 → Int32 → Int32 → Int32 → Int32 → Int32 → Int32 → Int32 → Option (St)
  | 0 => fun _ _ _ _ _ _ _ _ _ _ => none
  | n + 1 => b_X9_tryAll_44 (l_X9_tryAll_44 k159 n) k159
def b_X9_tryAll_328 (kb : St → Int32 → Int32 → Int32 → Int32 → Int32 → Int32 → Option (St)) (k362 : St → Int32 → Int32 → Int32 → Int32 → Int32 → Option (St)) (S : St) (x1 : Int32) (x2 : Int32) (x3 : Int32) (x4 : Int32) (x5 : Int32) (x13 : Int32) : Option (St) :=
  if 6 ≤ x13 then k362 S x1 x2 x3 x4 x5 else gd (ix x13 6) (lt_ (S 29 0 x13.toNatClampNeg) (fun v_61 => gd (ix ((6 * (x1 + x2)) + x13) 2400) (lt_ (put S 34 0 ((6 * (x1 + x2)) + x13).toNatClampNeg v_61) (fun S_63 => lt_ (x13 + 1) (fun v_64 => kb S_63 x1 x2 x3 x4 x5 v_64)))))
def l_X9_tryAll_328 (k362 : St → Int32 → Int32 → Int32 → Int32 → Int32 → Option (St)) : Nat → St → Int32 → Int32 → Int32 → Int32 → Int32 → Int32 → Option (St)
  | 0 => fun _ _ _ _ _ _ _ => none
  | n + 1 => b_X9_tryAll_328 (l_X9_tryAll_328 k362 n) k362
def j_X9_tryAll_287 (kb : St → Int32 → Int32 → Int32 → Int32 → Int32 → Option (St)) (S : St) (x1 : Int32) (x2 : Int32) (x3 : Int32) (x4 : Int32) (x5 : Int32) (x7 : Int32) (x8 : Int32) : Option (St) :=
  gd (ix (x1 + x2) 400) (lt_ (put S 30 0 (x1 + x2).toNatClampNeg (nz 1)) (fun S_52 => gd (ix (x1 + x2) 400) (lt_ (put S_52 31 0 (x1 + x2).toNatClampNeg x7) (fun S_54 => gd (ix (x1 + x2) 400) (lt_ (put S_54 32 0 (x1 + x2).toNatClampNeg x8) (fun S_56 => gd (ix (x1 + x2) 400) (lt_ (put S_56 33 0 (x1 + x2).toNatClampNeg x3) (fun S_58 => l_X9_tryAll_328 (fun S x1 x2 x3 x4 x5 => j_X9_tryAll_362 kb S x1 x2 x3 x4 x5) 5000 S_58 x1 x2 x3 x4 x5 0))))))))
def j_X9_tryAll_248 (kb : St → Int32 → Int32 → Int32 → Int32 → Int32 → Option (St)) (S : St) (x1 : Int32) (x2 : Int32) (x3 : Int32) (x4 : Int32) (x5 : Int32) (x6 : Int32) (x7 : Int32) (x8 : Int32) (x9 : Int32) (x10 : Int32) (x11 : Int32) (y0 : Int32) : Option (St) :=
  if x6 = 0 then j_X9_tryAll_362 kb S x1 x2 x3 x4 x5 else gd (ix (x1 + x2) 400) (lt_ (S 30 0 (x1 + x2).toNatClampNeg) (fun v_49 => if v_49 = 0 then j_X9_tryAll_287 kb S x1 x2 x3 x4 x5 x7 x8 else if x9 < x11 then j_X9_tryAll_287 kb S x1 x2 x3 x4 x5 x7 x8 else if x9 = x11 then if y0 ≤ x10 then j_X9_tryAll_362 kb S x1 x2 x3 x4 x5 else j_X9_tryAll_287 kb S x1 x2 x3 x4 x5 x7 x8 else j_X9_tryAll_362 kb S x1 x2 x3 x4 x5))
def j_X9_tryAll_222 (kb : St → Int32 → Int32 → Int32 → Int32 → Int32 → Option (St)) (S : St) (x1 : Int32) (x2 : Int32) (x3 : Int32) (x4 : Int32) (x5 : Int32) (x6 : Int32) (x7 : Int32) (x8 : Int32) (x9 : Int32) (x10 : Int32) (y0 : Int32) : Option (St) :=
  if x4 = 0 then gd (ix (x1 + x2) 400) (lt_ (S 32 0 (x1 + x2).toNatClampNeg) (fun v_69 => j_X9_tryAll_248 kb S x1 x2 x3 x4 x5 x6 x7 x8 x9 x10 y0 v_69)) else gd (ix (x1 + x2) 400) (lt_ (S 31 0 (x1 + x2).toNatClampNeg) (fun v_46 => j_X9_tryAll_248 kb S x1 x2 x3 x4 x5 x6 x7 x8 x9 x10 y0 v_46))
def j_X9_tryAll_196 (kb : St → Int32 → Int32 → Int32 → Int32 → Int32 → Option (St)) (S : St) (x1 : Int32) (x2 : Int32) (x3 : Int32) (x4 : Int32) (x5 : Int32) (x6 : Int32) (x7 : Int32) (x8 : Int32) (x9 : Int32) (y0 : Int32) : Option (St) :=
  if x4 = 0 then gd (ix (x1 + x2) 400) (lt_ (S 31 0 (x1 + x2).toNatClampNeg) (fun v_71 => j_X9_tryAll_222 kb S x1 x2 x3 x4 x5 x6 x7 x8 x9 y0 v_71)) else gd (ix (x1 + x2) 400) (lt_ (S 32 0 (x1 + x2).toNatClampNeg) (fun v_43 => j_X9_tryAll_222 kb S x1 x2 x3 x4 x5 x6 x7 x8 x9 y0 v_43))
def j_X9_tryAll_182 (kb : St → Int32 → Int32 → Int32 → Int32 → Int32 → Option (St)) (S : St) (x1 : Int32) (x2 : Int32) (x3 : Int32) (x4 : Int32) (x5 : Int32) (x6 : Int32) (x7 : Int32) (x8 : Int32) (y0 : Int32) : Option (St) :=
  if x4 = 0 then j_X9_tryAll_196 kb S x1 x2 x3 x4 x5 x6 x7 x8 y0 x8 else j_X9_tryAll_196 kb S x1 x2 x3 x4 x5 x6 x7 x8 y0 x7
def b_X9_tryAll_3 (kb : St → Int32 → Int32 → Int32 → Int32 → Int32 → Option (St)) (S : St) (x1 : Int32) (x2 : Int32) (x3 : Int32) (x4 : Int32) (x5 : Int32) : Option (St) :=
  gd (ix x3 20) (lt_ (S 20 0 x3.toNatClampNeg) (fun v_2 => if ((1 : Int32) <<< (v_2 &&& 31)) ≤ x5 then some S else bi (f_X9_fits x3 x2 x5 S) (fun r_5 S_6 => if r_5 = 0 then j_X9_tryAll_362 kb S_6 x1 x2 x3 x4 x5 else gd (ix x3 20) (lt_ (S_6 17 0 x3.toNatClampNeg) (fun v_10 => l_X9_tryAll_44 (fun S x1 x2 x3 x4 x5 x6 x7 x8 => gd (ix x3 20) (lt_ (S 18 0 x3.toNatClampNeg) (fun v_37 => lt_ (x8 + v_37) (fun v_38 => if x4 = 0 then j_X9_tryAll_182 kb S x1 x2 x3 x4 x5 x6 x7 v_38 x7 else j_X9_tryAll_182 kb S x1 x2 x3 x4 x5 x6 x7 v_38 v_38)))) 5000 S_6 x1 x2 x3 x4 x5 1 v_10 0 0)))))
def l_X9_tryAll_3 : Nat → St → Int32 → Int32 → Int32 → Int32 → Int32 → Option (St)
  | 0 => fun _ _ _ _ _ _ => none
  | n + 1 => b_X9_tryAll_3 (l_X9_tryAll_3 n)
def f_X9_tryAll (a0 : Int32) (a1 : Int32) (a2 : Int32) (a3 : Int32) (S : St) : Option (St) :=
  l_X9_tryAll_3 5000 S a0 a1 a2 a3 0
-- CellCoverModel.best(III)I
def b_X9_best_95 (kb : St → Int32 → Int32 → Int32 → Int32 → Int32 → Int32 → Option (Int32 × St)) (k126 : St → Int32 → Int32 → Int32 → Int32 → Int32 → Option (Int32 × St)) (S : St) (x2 : Int32) (x3 : Int32) (x4 : Int32) (x5 : Int32) (x6 : Int32) (x7 : Int32) : Option (Int32 × St) :=
  if 6 ≤ x7 then k126 S x2 x3 x4 x5 x6 else gd (ix ((6 * (x4 + x6)) + x7) 2400) (lt_ (put S 34 0 ((6 * (x4 + x6)) + x7).toNatClampNeg ((-4))) (fun S_16 => lt_ (x7 + 1) (fun v_17 => kb S_16 x2 x3 x4 x5 x6 v_17)))
def l_X9_best_95 (k126 : St → Int32 → Int32 → Int32 → Int32 → Int32 → Option (Int32 × St)) : Nat → St → Int32 → Int32 → Int32 → Int32 → Int32 → Int32 → Option (Int32 × St)
  | 0 => fun _ _ _ _ _ _ _ => none
  | n + 1 => b_X9_best_95 (l_X9_best_95 k126 n) k126
def j_X9_best_185 (kb : St → Int32 → Int32 → Int32 → Int32 → Int32 → Int32 → Option (Int32 × St)) (k191 : St → Int32 → Int32 → Int32 → Int32 → Int32 → Option (Int32 × St)) (S : St) (x2 : Int32) (x3 : Int32) (x4 : Int32) (x5 : Int32) (x6 : Int32) (x7 : Int32) : Option (Int32 × St) :=
  lt_ (x7 + 1) (fun v_28 => kb S x2 x3 x4 x5 x6 v_28)
def b_X9_best_129 (kb : St → Int32 → Int32 → Int32 → Int32 → Int32 → Int32 → Option (Int32 × St)) (k191 : St → Int32 → Int32 → Int32 → Int32 → Int32 → Option (Int32 × St)) (S : St) (x2 : Int32) (x3 : Int32) (x4 : Int32) (x5 : Int32) (x6 : Int32) (x7 : Int32) : Option (Int32 × St) :=
  if (S 0 0 22) ≤ x7 then k191 S x2 x3 x4 x5 x6 else gd (ix x6 200) (lt_ (S 13 0 x6.toNatClampNeg) (fun v_20 => if v_20 = 0 then k191 S x2 x3 x4 x5 x6 else gd (ix x6 200) (lt_ (S 8 0 x6.toNatClampNeg) (fun v_23 => if v_23 = 0 then k191 S x2 x3 x4 x5 x6 else gd (ix x7 20) (lt_ (S 16 0 x7.toNatClampNeg) (fun v_26 => if v_26 = 0 then j_X9_best_185 kb k191 S x2 x3 x4 x5 x6 x7 else if x7 = x3 then j_X9_best_185 kb k191 S x2 x3 x4 x5 x6 x7 else bv (f_X9_tryAll x4 x6 x7 x2 S) (fun q_30 => j_X9_best_185 kb k191 q_30 x2 x3 x4 x5 x6 x7)))))))
def l_X9_best_129 (k191 : St → Int32 → Int32 → Int32 → Int32 → Int32 → Option (Int32 × St)) : Nat → St → Int32 → Int32 → Int32 → Int32 → Int32 → Int32 → Option (Int32 × St)
  | 0 => fun _ _ _ _ _ _ _ => none
  | n + 1 => b_X9_best_129 (l_X9_best_129 k191 n) k191
def j_X9_best_228 (kb : St → Int32 → Int32 → Int32 → Int32 → Int32 → Option (Int32 × St)) (S : St) (x2 : Int32) (x3 : Int32) (x4 : Int32) (x6 : Int32) (y0 : Int32) : Option (Int32 × St) :=
  lt_ (x6 + 1) (fun v_33 => kb S x2 x3 x4 y0 v_33)
def j_X9_best_226 (kb : St → Int32 → Int32 → Int32 → Int32 → Int32 → Option (Int32 × St)) (S : St) (x2 : Int32) (x3 : Int32) (x4 : Int32) (x5 : Int32) (x6 : Int32) : Option (Int32 × St) :=
  j_X9_best_228 kb S x2 x3 x4 x6 x5
def j_X9_best_191 (kb : St → Int32 → Int32 → Int32 → Int32 → Int32 → Option (Int32 × St)) (S : St) (x2 : Int32) (x3 : Int32) (x4 : Int32) (x5 : Int32) (x6 : Int32) : Option (Int32 × St) :=
  if x5 = ((-4)) then gd (ix x6 200) (lt_ (S 14 0 x6.toNatClampNeg) (fun v_35 => if v_35 = 0 then j_X9_best_226 kb S x2 x3 x4 x5 x6 else gd (ix (x4 + x6) 400) (lt_ (S 30 0 (x4 + x6).toNatClampNeg) (fun v_38 => if v_38 = 0 then j_X9_best_228 kb S x2 x3 x4 x6 x6 else j_X9_best_226 kb S x2 x3 x4 x5 x6)))) else j_X9_best_226 kb S x2 x3 x4 x5 x6
def j_X9_best_57 (kb : St → Int32 → Int32 → Int32 → Int32 → Int32 → Option (Int32 × St)) (S : St) (x2 : Int32) (x3 : Int32) (x4 : Int32) (x5 : Int32) (x6 : Int32) (y1 : Int32) (y2 : Int32) : Option (Int32 × St) :=
  gd (ix y1 400) (lt_ (put S 30 0 y1.toNatClampNeg (nz y2)) (fun S_7 => gd (ix (x4 + x6) 400) (lt_ (put S_7 31 0 (x4 + x6).toNatClampNeg 0) (fun S_9 => gd (ix (x4 + x6) 400) (lt_ (put S_9 32 0 (x4 + x6).toNatClampNeg 0) (fun S_11 => gd (ix (x4 + x6) 400) (lt_ (put S_11 33 0 (x4 + x6).toNatClampNeg ((-4))) (fun S_13 => l_X9_best_95 (fun S x2 x3 x4 x5 x6 => l_X9_best_129 (fun S x2 x3 x4 x5 x6 => j_X9_best_191 kb S x2 x3 x4 x5 x6) 5000 S x2 x3 x4 x5 x6 0) 5000 S_13 x2 x3 x4 x5 x6 0))))))))
def j_X9_best_56 (kb : St → Int32 → Int32 → Int32 → Int32 → Int32 → Option (Int32 × St)) (S : St) (x2 : Int32) (x3 : Int32) (x4 : Int32) (x5 : Int32) (x6 : Int32) (y1 : Int32) : Option (Int32 × St) :=
  j_X9_best_57 kb S x2 x3 x4 x5 x6 y1 0
def b_X9_best_14 (kb : St → Int32 → Int32 → Int32 → Int32 → Int32 → Option (Int32 × St)) (S : St) (x2 : Int32) (x3 : Int32) (x4 : Int32) (x5 : Int32) (x6 : Int32) : Option (Int32 × St) :=
  if (S 0 0 11) ≤ x6 then some (x5, S) else gd (ix x6 200) (lt_ (S 8 0 x6.toNatClampNeg) (fun v_4 => if v_4 = 0 then gd (ix x6 200) (lt_ (S 13 0 x6.toNatClampNeg) (fun v_41 => if v_41 = 0 then j_X9_best_56 kb S x2 x3 x4 x5 x6 (x4 + x6) else j_X9_best_57 kb S x2 x3 x4 x5 x6 (x4 + x6) 1)) else j_X9_best_56 kb S x2 x3 x4 x5 x6 (x4 + x6)))
def l_X9_best_14 : Nat → St → Int32 → Int32 → Int32 → Int32 → Int32 → Option (Int32 × St)
  | 0 => fun _ _ _ _ _ _ => none
  | n + 1 => b_X9_best_14 (l_X9_best_14 n)
def f_X9_best (a0 : Int32) (a1 : Int32) (a2 : Int32) (S : St) : Option (Int32 × St) :=
  lt_ (200 * a0) (fun v_1 => l_X9_best_14 5000 S a1 a2 v_1 ((-4)) 0)
-- CellCoverModel.instances(I)I
def b_X9_instances_16 (kb : St → Int32 → Int32 → Int32 → Option (Int32 × St)) (k39 : St → Int32 → Int32 → Option (Int32 × St)) (S : St) (x2 : Int32) (x3 : Int32) (x4 : Int32) : Option (Int32 × St) :=
  if (S 0 0 11) ≤ x4 then k39 S x2 x3 else gd (ix x4 200) (lt_ (put S 36 0 x4.toNatClampNeg (nz 0)) (fun S_5 => lt_ (x4 + 1) (fun v_6 => kb S_5 x2 x3 v_6)))
def l_X9_instances_16 (k39 : St → Int32 → Int32 → Option (Int32 × St)) : Nat → St → Int32 → Int32 → Int32 → Option (Int32 × St)
  | 0 => fun _ _ _ _ => none
  | n + 1 => b_X9_instances_16 (l_X9_instances_16 k39 n) k39
def j_X9_instances_218 (kb : St → Int32 → Int32 → Int32 → Int32 → Option (Int32 × St)) (k221 : St → Int32 → Int32 → Int32 → Option (Int32 × St)) (S : St) (x2 : Int32) (x3 : Int32) (x4 : Int32) (x5 : Int32) : Option (Int32 × St) :=
  kb S x2 x3 x4 x5
def j_X9_instances_212 (kb : St → Int32 → Int32 → Int32 → Int32 → Int32 → Int32 → Option (Int32 × St)) (k218 : St → Int32 → Int32 → Int32 → Int32 → Option (Int32 × St)) (S : St) (x2 : Int32) (x3 : Int32) (x4 : Int32) (x5 : Int32) (x6 : Int32) (x7 : Int32) : Option (Int32 × St) :=
  lt_ (x7 + (-1)) (fun v_32 => kb S x2 x3 x4 x5 x6 v_32)
def b_X9_instances_151 (kb : St → Int32 → Int32 → Int32 → Int32 → Int32 → Int32 → Option (Int32 × St)) (k218 : St → Int32 → Int32 → Int32 → Int32 → Option (Int32 × St)) (S : St) (x2 : Int32) (x3 : Int32) (x4 : Int32) (x5 : Int32) (x6 : Int32) (x7 : Int32) : Option (Int32 × St) :=
  if x7 < 0 then k218 S x2 x3 x4 x5 else gd (ix ((6 * (x2 + x6)) + x7) 2400) (lt_ (S 34 0 ((6 * (x2 + x6)) + x7).toNatClampNeg) (fun v_30 => if v_30 = ((-4)) then j_X9_instances_212 kb k218 S x2 x3 x4 x5 x6 x7 else gd (ix v_30 200) (lt_ (S 8 0 v_30.toNatClampNeg) (fun v_34 => if v_34 = 0 then j_X9_instances_212 kb k218 S x2 x3 x4 x5 x6 x7 else gd (ix v_30 200) (lt_ (S 14 0 v_30.toNatClampNeg) (fun v_37 => if v_37 = 0 then gd (ix x5 1400) (lt_ (put S 37 0 x5.toNatClampNeg v_30) (fun S_40 => lt_ (x5 + 1) (fun v_41 => j_X9_instances_212 kb k218 S_40 x2 x3 x4 v_41 x6 x7))) else j_X9_instances_212 kb k218 S x2 x3 x4 x5 x6 x7))))))
def l_X9_instances_151 (k218 : St → Int32 → Int32 → Int32 → Int32 → Option (Int32 × St)) : Nat → St → Int32 → Int32 → Int32 → Int32 → Int32 → Int32 → Option (Int32 × St)
  | 0 => fun _ _ _ _ _ _ _ => none
  | n + 1 => b_X9_instances_151 (l_X9_instances_151 k218 n) k218
def b_X9_instances_75 (kb : St → Int32 → Int32 → Int32 → Int32 → Option (Int32 × St)) (k221 : St → Int32 → Int32 → Int32 → Option (Int32 × St)) (S : St) (x2 : Int32) (x3 : Int32) (x4 : Int32) (x5 : Int32) : Option (Int32 × St) :=
  if x5 ≤ 0 then k221 S x2 x3 x4 else lt_ (x5 + (-1)) (fun v_12 => gd (ix v_12 1400) (lt_ (S 37 0 v_12.toNatClampNeg) (fun v_14 => gd (ix v_14 200) (lt_ (S 36 0 v_14.toNatClampNeg) (fun v_16 => if v_16 = 0 then gd (ix v_14 200) (lt_ (put S 36 0 v_14.toNatClampNeg (nz 1)) (fun S_19 => gd (ix (S_19 0 0 46) 200) (lt_ (put S_19 35 0 (S_19 0 0 46).toNatClampNeg v_14) (fun S_21 => lt_ (put S_21 0 0 46 ((S_21 0 0 46) + 1)) (fun S_22 => gd (ix (x2 + v_14) 400) (lt_ (S_22 33 0 (x2 + v_14).toNatClampNeg) (fun v_24 => gd (ix v_24 20) (lt_ (S_22 17 0 v_24.toNatClampNeg) (fun v_26 => lt_ (x3 + v_26) (fun v_27 => l_X9_instances_151 (fun S x2 x3 x4 x5 => j_X9_instances_218 kb k221 S x2 x3 x4 x5) 5000 S_22 x2 v_27 x4 v_12 v_14 5)))))))))) else j_X9_instances_218 kb k221 S x2 x3 x4 v_12)))))
def l_X9_instances_75 (k221 : St → Int32 → Int32 → Int32 → Option (Int32 × St)) : Nat → St → Int32 → Int32 → Int32 → Int32 → Option (Int32 × St)
  | 0 => fun _ _ _ _ _ => none
  | n + 1 => b_X9_instances_75 (l_X9_instances_75 k221 n) k221
def b_X9_instances_42 (kb : St → Int32 → Int32 → Int32 → Option (Int32 × St)) (S : St) (x2 : Int32) (x3 : Int32) (x4 : Int32) : Option (Int32 × St) :=
  if (S 0 0 11) ≤ x4 then some (x3, S) else gd (ix x4 200) (lt_ (S 14 0 x4.toNatClampNeg) (fun v_9 => if v_9 = 0 then l_X9_instances_75 (fun S x2 x3 x4 => lt_ (x4 + 1) (fun v_42 => kb S x2 x3 v_42)) 5000 S x2 x3 x4 0 else gd (ix 0 1400) (lt_ (put S 37 0 (0 : Int32).toNatClampNeg x4) (fun S_44 => l_X9_instances_75 (fun S x2 x3 x4 => lt_ (x4 + 1) (fun v_45 => kb S x2 x3 v_45)) 5000 S_44 x2 x3 x4 1))))
def l_X9_instances_42 : Nat → St → Int32 → Int32 → Int32 → Option (Int32 × St)
  | 0 => fun _ _ _ _ => none
  | n + 1 => b_X9_instances_42 (l_X9_instances_42 n)
def f_X9_instances (a0 : Int32) (S : St) : Option (Int32 × St) :=
  lt_ (200 * a0) (fun v_1 => lt_ (put S 0 0 46 0) (fun S_2 => l_X9_instances_16 (fun S x2 x3 => l_X9_instances_42 5000 S x2 x3 0) 5000 S_2 v_1 0 0))
-- CellCoverModel.cover(I)I
def f_X9_cover (a0 : Int32) (S : St) : Option (Int32 × St) :=
  bi (f_X9_in a0.toInt64 0 1 S) (fun r_2 S_3 => if r_2 = 0 then some ((-1), S_3) else bi (f_X9_best 0 a0 ((-4)) S_3) (fun r_6 S_7 => if r_6 = ((-4)) then lt_ (put S_7 0 0 40 a0) (fun S_9 => lt_ (put S_9 0 0 10 1) (fun S_10 => bi (f_X9_instances 0 S_10) (fun r_12 S_13 => lt_ (put S_13 0 0 50 r_12) (fun S_14 => some (0, S_14))))) else some (((-100)) - r_6, S_7)))
-- CellCoverModel.best(II)I
def j_X9_best__20 (S : St) : Option (Int32 × St) :=
  some ((-1), S)
def j_X9_best__98 (S : St) (y0 : Int32) : Option (Int32 × St) :=
  some (y0, S)
def f_X9_best_ (a0 : Int32) (a1 : Int32) (S : St) : Option (Int32 × St) :=
  bi (f_X9_isVertex a0 S) (fun r_2 S_3 => if r_2 = 0 then j_X9_best__20 S_3 else bi (f_X9_in a1.toInt64 0 8 S_3) (fun r_6 S_7 => if r_6 = 0 then j_X9_best__20 S_7 else if (S_7 0 0 10) = 0 then some ((-2), S_7) else gd (ix a0 400) (lt_ (S_7 30 0 a0.toNatClampNeg) (fun v_11 => if v_11 = 0 then some ((-4), S_7) else if a1 = 0 then gd (ix a0 400) (lt_ (S_7 31 0 a0.toNatClampNeg) (fun v_23 => j_X9_best__98 S_7 v_23)) else if a1 = 1 then gd (ix a0 400) (lt_ (S_7 32 0 a0.toNatClampNeg) (fun v_21 => j_X9_best__98 S_7 v_21)) else if a1 = 2 then gd (ix a0 400) (lt_ (S_7 33 0 a0.toNatClampNeg) (fun v_19 => j_X9_best__98 S_7 v_19)) else gd (ix (((6 * a0) + a1) - 3) 2400) (lt_ (S_7 34 0 (((6 * a0) + a1) - 3).toNatClampNeg) (fun v_17 => j_X9_best__98 S_7 v_17))))))
-- CellCoverModel.instance(II)I
def j_X9_instance_85 (S : St) (y0 : Int32) : Option (Int32 × St) :=
  some (y0, S)
def f_X9_instance (a0 : Int32) (a1 : Int32) (S : St) : Option (Int32 × St) :=
  bi (f_X9_in a1.toInt64 0 7 S) (fun r_2 S_3 => if r_2 = 0 then some ((-1), S_3) else if (S_3 0 0 10) = 0 then some ((-2), S_3) else bi (f_X9_in a0.toInt64 0 (((S_3 0 0 46) - 1).toInt64) S_3) (fun r_7 S_8 => if r_7 = 0 then some ((-4), S_8) else gd (ix a0 200) (lt_ (S_8 35 0 a0.toNatClampNeg) (fun v_11 => if a1 = 0 then gd (ix v_11 400) (lt_ (S_8 33 0 v_11.toNatClampNeg) (fun v_17 => j_X9_instance_85 S_8 v_17)) else if a1 = 1 then j_X9_instance_85 S_8 v_11 else gd (ix (((6 * v_11) + a1) - 2) 2400) (lt_ (S_8 34 0 (((6 * v_11) + a1) - 2).toNatClampNeg) (fun v_15 => j_X9_instance_85 S_8 v_15))))))
-- CellCoverModel.area()I
def j_X9_area_16 (S : St) (y0 : Int32) : Option (Int32 × St) :=
  some (y0, S)
def f_X9_area (S : St) : Option (Int32 × St) :=
  if (S 0 0 10) = 0 then j_X9_area_16 S ((-2)) else j_X9_area_16 S (S 0 0 50)
-- CellCoverModel.arrival(I)I
def j_X9_arrival_48 (S : St) (y0 : Int32) : Option (Int32 × St) :=
  some (y0, S)
def f_X9_arrival (a0 : Int32) (S : St) : Option (Int32 × St) :=
  bi (f_X9_in a0.toInt64 0 (((S 0 0 5) - 1).toInt64) S) (fun r_2 S_3 => if r_2 = 0 then j_X9_arrival_48 S_3 ((-1)) else if (S_3 0 0 10) = 0 then j_X9_arrival_48 S_3 ((-2)) else gd (ix a0 8) (lt_ (S_3 5 0 a0.toNatClampNeg) (fun v_7 => gd (ix v_7 40) (lt_ (S_3 11 0 v_7.toNatClampNeg) (fun v_9 => gd (ix v_9 400) (lt_ (S_3 32 0 v_9.toNatClampNeg) (fun v_11 => j_X9_arrival_48 S_3 v_11)))))))
-- CellCoverModel.worth(I)I
def f_X9_worth (a0 : Int32) (S : St) : Option (Int32 × St) :=
  bi (f_X9_isCell a0 S) (fun r_2 S_3 => if r_2 = 0 then some ((-1), S_3) else if (S_3 0 0 10) = 0 then some ((-2), S_3) else bi (f_X9_best 1 (S_3 0 0 40) a0 S_3) (fun r_7 S_8 => if r_7 = ((-4)) then bi (f_X9_instances 1 S_8) (fun r_11 S_12 => bi (f_X9_instances 0 S_12) (fun r_14 S_15 => some (r_11 - r_14, S_15))) else some ((-4), S_8)))
-- CellCoverModel.gateGives(IIII)I
def j_X9_gateGives_78 (S : St) (y0 : Int32) : Option (Int32 × St) :=
  some (y0, S)
def f_X9_gateGives (a0 : Int32) (a1 : Int32) (a2 : Int32) (a3 : Int32) (S : St) : Option (Int32 × St) :=
  if a0 = 0 then some (1 - a1, S) else if a0 = 1 then some (a1 &&& a2, S) else if a0 = 2 then some (a1 ||| a2, S) else if a0 = 3 then some (a1 ^^^ a2, S) else if a0 = 4 then some (1 - (a1 &&& a2), S) else if a0 = 5 then some (1 - (a1 ||| a2), S) else if a1 = 1 then j_X9_gateGives_78 S a2 else j_X9_gateGives_78 S a3
-- CellCoverModel.run(J)I
def j_X9_run_126 (kb : St → Int64 → Int32 → Int32 → Option (Int32 × St)) (k132 : St → Option (Int32 × St)) (S : St) (x1 : Int64) (x3 : Int32) (x4 : Int32) : Option (Int32 × St) :=
  lt_ (x4 + 1) (fun v_30 => kb S x1 x3 v_30)
def j_X9_run_122 (kb : St → Int64 → Int32 → Int32 → Option (Int32 × St)) (k132 : St → Option (Int32 × St)) (S : St) (x1 : Int64) (x3 : Int32) (x4 : Int32) (y1 : Int32) (y2 : Int32) (y3 : Int32) (y4 : Int32) (y5 : Int32) : Option (Int32 × St) :=
  bi (f_X9_gateGives y2 y3 y4 y5 S) (fun r_26 S_27 => gd (ix y1 200) (lt_ (put S_27 38 0 y1.toNatClampNeg r_26) (fun S_29 => j_X9_run_126 kb k132 S_29 x1 x3 x4)))
def j_X9_run_94 (kb : St → Int64 → Int32 → Int32 → Option (Int32 × St)) (k132 : St → Option (Int32 × St)) (S : St) (x1 : Int64) (x3 : Int32) (x4 : Int32) (y1 : Int32) (y2 : Int32) (y3 : Int32) (y4 : Int32) : Option (Int32 × St) :=
  gd (ix x4 40) (lt_ (S 1 0 x4.toNatClampNeg) (fun v_19 => if 6 ≤ v_19 then gd (ix x4 40) (lt_ (S 4 0 x4.toNatClampNeg) (fun v_22 => gd (ix v_22 200) (lt_ (S 38 0 v_22.toNatClampNeg) (fun v_24 => j_X9_run_122 kb k132 S x1 x3 x4 y1 y2 y3 y4 v_24)))) else j_X9_run_122 kb k132 S x1 x3 x4 y1 y2 y3 y4 0))
def b_X9_run_5 (kb : St → Int64 → Int32 → Int32 → Option (Int32 × St)) (k132 : St → Option (Int32 × St)) (S : St) (x1 : Int64) (x3 : Int32) (x4 : Int32) : Option (Int32 × St) :=
  if (S 0 0 0) ≤ x4 then k132 S else gd (ix x4 40) (lt_ (S 1 0 x4.toNatClampNeg) (fun v_3 => if 0 ≤ v_3 then gd (ix x4 40) (lt_ (S 1 0 x4.toNatClampNeg) (fun v_6 => gd (ix x4 40) (lt_ (S 2 0 x4.toNatClampNeg) (fun v_8 => gd (ix v_8 200) (lt_ (S 38 0 v_8.toNatClampNeg) (fun v_10 => gd (ix x4 40) (lt_ (S 1 0 x4.toNatClampNeg) (fun v_12 => if v_12 = 0 then j_X9_run_94 kb k132 S x1 x3 x4 x4 v_6 v_10 0 else gd (ix x4 40) (lt_ (S 3 0 x4.toNatClampNeg) (fun v_15 => gd (ix v_15 200) (lt_ (S 38 0 v_15.toNatClampNeg) (fun v_17 => j_X9_run_94 kb k132 S x1 x3 x4 x4 v_6 v_10 v_17)))))))))))) else gd (ix x4 200) (lt_ (put S 38 0 x4.toNatClampNeg (((x1 >>> (x3.toInt64 &&& 63)) &&& 1).toInt32)) (fun S_32 => lt_ (x3 + 1) (fun v_33 => j_X9_run_126 kb k132 S_32 x1 v_33 x4)))))
def l_X9_run_5 (k132 : St → Option (Int32 × St)) : Nat → St → Int64 → Int32 → Int32 → Option (Int32 × St)
  | 0 => fun _ _ _ _ => none
  | n + 1 => b_X9_run_5 (l_X9_run_5 k132 n) k132
def b_X9_run_138 (kb : St → Int32 → Int32 → Option (Int32 × St)) (S : St) (x4 : Int32) (x5 : Int32) : Option (Int32 × St) :=
  if (S 0 0 5) ≤ x5 then some (x4, S) else gd (ix x5 8) (lt_ (S 5 0 x5.toNatClampNeg) (fun v_36 => gd (ix v_36 200) (lt_ (S 38 0 v_36.toNatClampNeg) (fun v_38 => lt_ (x4 ||| (v_38 <<< (x5 &&& 31))) (fun v_39 => lt_ (x5 + 1) (fun v_40 => kb S v_39 v_40))))))
def l_X9_run_138 : Nat → St → Int32 → Int32 → Option (Int32 × St)
  | 0 => fun _ _ _ => none
  | n + 1 => b_X9_run_138 (l_X9_run_138 n)
def f_X9_run (a0 : Int64) (S : St) : Option (Int32 × St) :=
  l_X9_run_5 (fun S => l_X9_run_138 5000 S 0 0) 5000 S a0 0 0
-- CellCoverModel.cellGives(II)I
def j_X9_cellGives_115 (kb : St → Int32 → Int32 → Int32 → Option (Int32 × St)) (S : St) (x2 : Int32) (x3 : Int32) (x4 : Int32) (y1 : Int32) (y2 : Int32) : Option (Int32 × St) :=
  gd (ix y1 12) (lt_ (put S 39 0 y1.toNatClampNeg y2) (fun S_21 => lt_ (x4 + (-1)) (fun v_22 => kb S_21 x2 x3 v_22)))
def b_X9_cellGives_15 (kb : St → Int32 → Int32 → Int32 → Option (Int32 × St)) (S : St) (x2 : Int32) (x3 : Int32) (x4 : Int32) : Option (Int32 × St) :=
  if x4 < 0 then gd (ix 0 12) (lt_ (S 39 0 (0 : Int32).toNatClampNeg) (fun v_7 => some (v_7, S))) else gd (ix (x3 + x4) 240) (lt_ (S 22 0 (x3 + x4).toNatClampNeg) (fun v_9 => if v_9 = 3 then gd (ix (x3 + x4) 240) (lt_ (S 23 0 (x3 + x4).toNatClampNeg) (fun v_28 => j_X9_cellGives_115 kb S x2 x3 x4 x4 ((x2 >>> (v_28 &&& 31)) &&& 1))) else if v_9 = 1 then gd (ix (x3 + x4) 240) (lt_ (S 24 0 (x3 + x4).toNatClampNeg) (fun v_24 => gd (ix v_24 12) (lt_ (S 39 0 v_24.toNatClampNeg) (fun v_26 => j_X9_cellGives_115 kb S x2 x3 x4 x4 (1 - v_26))))) else gd (ix (x3 + x4) 240) (lt_ (S 24 0 (x3 + x4).toNatClampNeg) (fun v_13 => gd (ix v_13 12) (lt_ (S 39 0 v_13.toNatClampNeg) (fun v_15 => gd (ix (x3 + x4) 240) (lt_ (S 25 0 (x3 + x4).toNatClampNeg) (fun v_17 => gd (ix v_17 12) (lt_ (S 39 0 v_17.toNatClampNeg) (fun v_19 => j_X9_cellGives_115 kb S x2 x3 x4 x4 (1 - (v_15 &&& v_19))))))))))))
def l_X9_cellGives_15 : Nat → St → Int32 → Int32 → Int32 → Option (Int32 × St)
  | 0 => fun _ _ _ _ => none
  | n + 1 => b_X9_cellGives_15 (l_X9_cellGives_15 n)
def f_X9_cellGives (a0 : Int32) (a1 : Int32) (S : St) : Option (Int32 × St) :=
  lt_ (12 * a0) (fun v_1 => gd (ix a0 20) (lt_ (S 19 0 a0.toNatClampNeg) (fun v_3 => lt_ (v_3 - 1) (fun v_4 => l_X9_cellGives_15 5000 S a1 v_1 v_4))))
-- CellCoverModel.mapped(J)I
def j_X9_mapped_151 (kb : St → Int64 → Int32 → Int32 → Option (Int32 × St)) (k157 : St → Option (Int32 × St)) (S : St) (x1 : Int64) (x3 : Int32) (x4 : Int32) : Option (Int32 × St) :=
  lt_ (x4 + 1) (fun v_11 => kb S x1 x3 v_11)
def j_X9_mapped_122 (kb : St → Int64 → Int32 → Int32 → Int32 → Int32 → Option (Int32 × St)) (k131 : St → Int64 → Int32 → Int32 → Int32 → Option (Int32 × St)) (S : St) (x1 : Int64) (x3 : Int32) (x4 : Int32) (x6 : Int32) (y0 : Int32) (y1 : Int32) : Option (Int32 × St) :=
  lt_ (y0 ||| y1) (fun v_18 => lt_ (x6 + 1) (fun v_19 => kb S x1 x3 x4 v_18 v_19))
def b_X9_mapped_77 (kb : St → Int64 → Int32 → Int32 → Int32 → Int32 → Option (Int32 × St)) (k131 : St → Int64 → Int32 → Int32 → Int32 → Option (Int32 × St)) (S : St) (x1 : Int64) (x3 : Int32) (x4 : Int32) (x5 : Int32) (x6 : Int32) : Option (Int32 × St) :=
  if 6 ≤ x6 then k131 S x1 x3 x4 x5 else gd (ix ((6 * x4) + x6) 2400) (lt_ (S 34 0 ((6 * x4) + x6).toNatClampNeg) (fun v_14 => if v_14 = ((-4)) then j_X9_mapped_122 kb k131 S x1 x3 x4 x6 x5 0 else gd (ix v_14 200) (lt_ (S 38 0 v_14.toNatClampNeg) (fun v_17 => j_X9_mapped_122 kb k131 S x1 x3 x4 x6 x5 (v_17 <<< (x6 &&& 31))))))
def l_X9_mapped_77 (k131 : St → Int64 → Int32 → Int32 → Int32 → Option (Int32 × St)) : Nat → St → Int64 → Int32 → Int32 → Int32 → Int32 → Option (Int32 × St)
  | 0 => fun _ _ _ _ _ _ => none
  | n + 1 => b_X9_mapped_77 (l_X9_mapped_77 k131 n) k131
def b_X9_mapped_15 (kb : St → Int64 → Int32 → Int32 → Option (Int32 × St)) (k157 : St → Option (Int32 × St)) (S : St) (x1 : Int64) (x3 : Int32) (x4 : Int32) : Option (Int32 × St) :=
  if (S 0 0 11) ≤ x4 then k157 S else gd (ix x4 200) (lt_ (put S 38 0 x4.toNatClampNeg 0) (fun S_4 => gd (ix x4 200) (lt_ (S_4 8 0 x4.toNatClampNeg) (fun v_6 => if v_6 = 0 then gd (ix x4 200) (lt_ (put S_4 38 0 x4.toNatClampNeg (((x1 >>> (x3.toInt64 &&& 63)) &&& 1).toInt32)) (fun S_28 => lt_ (x3 + 1) (fun v_29 => j_X9_mapped_151 kb k157 S_28 x1 v_29 x4))) else gd (ix x4 200) (lt_ (S_4 36 0 x4.toNatClampNeg) (fun v_9 => if v_9 = 0 then j_X9_mapped_151 kb k157 S_4 x1 x3 x4 else l_X9_mapped_77 (fun S x1 x3 x4 x5 => gd (ix x4 400) (lt_ (S 33 0 x4.toNatClampNeg) (fun v_21 => bi (f_X9_cellGives v_21 x5 S) (fun r_23 S_24 => gd (ix x4 200) (lt_ (put S_24 38 0 x4.toNatClampNeg r_23) (fun S_26 => j_X9_mapped_151 kb k157 S_26 x1 x3 x4)))))) 5000 S_4 x1 x3 x4 0 0))))))
def l_X9_mapped_15 (k157 : St → Option (Int32 × St)) : Nat → St → Int64 → Int32 → Int32 → Option (Int32 × St)
  | 0 => fun _ _ _ _ => none
  | n + 1 => b_X9_mapped_15 (l_X9_mapped_15 k157 n) k157
def b_X9_mapped_163 (kb : St → Int32 → Int32 → Option (Int32 × St)) (S : St) (x4 : Int32) (x5 : Int32) : Option (Int32 × St) :=
  if (S 0 0 5) ≤ x5 then some (x4, S) else gd (ix x5 8) (lt_ (S 5 0 x5.toNatClampNeg) (fun v_32 => gd (ix v_32 40) (lt_ (S 11 0 v_32.toNatClampNeg) (fun v_34 => gd (ix v_34 200) (lt_ (S 38 0 v_34.toNatClampNeg) (fun v_36 => lt_ (x4 ||| (v_36 <<< (x5 &&& 31))) (fun v_37 => lt_ (x5 + 1) (fun v_38 => kb S v_37 v_38))))))))
def l_X9_mapped_163 : Nat → St → Int32 → Int32 → Option (Int32 × St)
  | 0 => fun _ _ _ => none
  | n + 1 => b_X9_mapped_163 (l_X9_mapped_163 n)
def f_X9_mapped (a0 : Int64) (S : St) : Option (Int32 × St) :=
  if (S 0 0 10) = 0 then some ((-2), S) else l_X9_mapped_15 (fun S => l_X9_mapped_163 5000 S 0 0) 5000 S a0 0 0
-- CellCoverModel.about(III)I
def j_X9_about_37 (S : St) : Option (Int32 × St) :=
  some ((-1), S)
def j_X9_about_39 (S : St) (x1 : Int32) (x2 : Int32) (x3 : Int32) : Option (Int32 × St) :=
  if x2 = 0 then gd (ix x1 20) (lt_ (S 17 0 x1.toNatClampNeg) (fun v_12 => some (v_12, S))) else if x2 = 1 then gd (ix x1 20) (lt_ (S 18 0 x1.toNatClampNeg) (fun v_15 => some (v_15, S))) else if x2 = 2 then gd (ix x1 20) (lt_ (S 19 0 x1.toNatClampNeg) (fun v_18 => some (v_18, S))) else if x2 = 3 then gd (ix x1 20) (lt_ (S 21 0 x1.toNatClampNeg) (fun v_21 => some (v_21, S))) else bi (f_X9_cellGives x1 x3 S) (fun r_23 S_24 => some (r_23, S_24))
def f_X9_about (a0 : Int32) (a1 : Int32) (a2 : Int32) (S : St) : Option (Int32 × St) :=
  bi (f_X9_isCell a0 S) (fun r_2 S_3 => if r_2 = 0 then j_X9_about_37 S_3 else bi (f_X9_in a1.toInt64 0 4 S_3) (fun r_6 S_7 => if r_6 = 0 then j_X9_about_37 S_7 else if a1 = 4 then bi (f_X9_in a2.toInt64 0 63 S_7) (fun r_26 S_27 => if r_26 = 0 then j_X9_about_37 S_27 else j_X9_about_39 S_27 a0 a1 a2) else j_X9_about_39 S_7 a0 a1 a2))
-- CellCoverModel.count(I)I
def j_X9_count_82 (kb : St → Int32 → Int32 → Option (Int32 × St)) (S : St) (x3 : Int32) (y0 : Int32) (y1 : Int32) : Option (Int32 × St) :=
  lt_ (y0 + y1) (fun v_7 => lt_ (x3 + 1) (fun v_8 => kb S v_7 v_8))
def b_X9_count_59 (kb : St → Int32 → Int32 → Option (Int32 × St)) (S : St) (x2 : Int32) (x3 : Int32) : Option (Int32 × St) :=
  if (S 0 0 0) ≤ x3 then some (x2, S) else gd (ix x3 40) (lt_ (S 1 0 x3.toNatClampNeg) (fun v_5 => if 0 ≤ v_5 then j_X9_count_82 kb S x3 x2 0 else j_X9_count_82 kb S x3 x2 1))
def l_X9_count_59 : Nat → St → Int32 → Int32 → Option (Int32 × St)
  | 0 => fun _ _ _ => none
  | n + 1 => b_X9_count_59 (l_X9_count_59 n)
def j_X9_count_144 (kb : St → Int32 → Int32 → Int32 → Option (Int32 × St)) (S : St) (x1 : Int32) (x3 : Int32) (y0 : Int32) (y1 : Int32) : Option (Int32 × St) :=
  lt_ (y0 + y1) (fun v_17 => lt_ (x3 + 1) (fun v_18 => kb S x1 v_17 v_18))
def j_X9_count_143 (kb : St → Int32 → Int32 → Int32 → Option (Int32 × St)) (S : St) (x1 : Int32) (x3 : Int32) (y0 : Int32) : Option (Int32 × St) :=
  j_X9_count_144 kb S x1 x3 y0 0
def j_X9_count_139 (kb : St → Int32 → Int32 → Int32 → Option (Int32 × St)) (S : St) (x1 : Int32) (x3 : Int32) (y0 : Int32) : Option (Int32 × St) :=
  j_X9_count_144 kb S x1 x3 y0 1
def b_X9_count_104 (kb : St → Int32 → Int32 → Int32 → Option (Int32 × St)) (S : St) (x1 : Int32) (x2 : Int32) (x3 : Int32) : Option (Int32 × St) :=
  if (S 0 0 11) ≤ x3 then some (x2, S) else if x1 = 4 then gd (ix x3 200) (lt_ (S 13 0 x3.toNatClampNeg) (fun v_20 => if v_20 = 0 then j_X9_count_143 kb S x1 x3 x2 else j_X9_count_139 kb S x1 x3 x2)) else gd (ix x3 200) (lt_ (S 14 0 x3.toNatClampNeg) (fun v_15 => if v_15 = 0 then j_X9_count_143 kb S x1 x3 x2 else j_X9_count_139 kb S x1 x3 x2))
def l_X9_count_104 : Nat → St → Int32 → Int32 → Int32 → Option (Int32 × St)
  | 0 => fun _ _ _ _ => none
  | n + 1 => b_X9_count_104 (l_X9_count_104 n)
def j_X9_count_179 (kb : St → Int32 → Int32 → Option (Int32 × St)) (S : St) (x3 : Int32) (y0 : Int32) (y1 : Int32) : Option (Int32 × St) :=
  lt_ (y0 + y1) (fun v_28 => lt_ (x3 + 1) (fun v_29 => kb S v_28 v_29))
def b_X9_count_156 (kb : St → Int32 → Int32 → Option (Int32 × St)) (S : St) (x2 : Int32) (x3 : Int32) : Option (Int32 × St) :=
  if (S 0 0 22) ≤ x3 then some (x2, S) else gd (ix x3 20) (lt_ (S 16 0 x3.toNatClampNeg) (fun v_26 => if v_26 = 0 then j_X9_count_179 kb S x3 x2 0 else j_X9_count_179 kb S x3 x2 1))
def l_X9_count_156 : Nat → St → Int32 → Int32 → Option (Int32 × St)
  | 0 => fun _ _ _ => none
  | n + 1 => b_X9_count_156 (l_X9_count_156 n)
def j_X9_count_210 (S : St) (y0 : Int32) : Option (Int32 × St) :=
  some (y0, S)
def f_X9_count (a0 : Int32) (S : St) : Option (Int32 × St) :=
  if a0 = 0 then some (S 0 0 0, S) else if a0 = 1 then l_X9_count_59 5000 S 0 0 else if a0 = 2 then some (S 0 0 5, S) else if a0 = 3 then some (S 0 0 11, S) else if a0 = 4 then l_X9_count_104 5000 S a0 0 0 else if a0 = 5 then l_X9_count_104 5000 S a0 0 0 else if a0 = 6 then l_X9_count_156 5000 S 0 0 else if a0 = 7 then some (S 0 0 20, S) else if a0 = 8 then if (S 0 0 10) = 0 then j_X9_count_210 S ((-2)) else j_X9_count_210 S (S 0 0 46) else some ((-1), S)
-- CellCoverModel.digest()J
def b_X9_digest_17 (kb : St → Int64 → Int32 → Int32 → Option (Int64 × St)) (k45 : St → Int64 → Int32 → Option (Int64 × St)) (S : St) (x1 : Int64) (x3 : Int32) (x4 : Int32) : Option (Int64 × St) :=
  if 6 ≤ x4 then k45 S x1 x3 else bi (f_X9_told x3 x4 S) (fun r_4 S_5 => lt_ ((31 * x1) + r_4.toInt64) (fun v_6 => lt_ (x4 + 1) (fun v_7 => kb S_5 v_6 x3 v_7)))
def l_X9_digest_17 (k45 : St → Int64 → Int32 → Option (Int64 × St)) : Nat → St → Int64 → Int32 → Int32 → Option (Int64 × St)
  | 0 => fun _ _ _ _ => none
  | n + 1 => b_X9_digest_17 (l_X9_digest_17 k45 n) k45
def b_X9_digest_6 (kb : St → Int64 → Int32 → Option (Int64 × St)) (k51 : St → Int64 → Option (Int64 × St)) (S : St) (x1 : Int64) (x3 : Int32) : Option (Int64 × St) :=
  if (S 0 0 11) ≤ x3 then k51 S x1 else l_X9_digest_17 (fun S x1 x3 => lt_ (x3 + 1) (fun v_8 => kb S x1 v_8)) 5000 S x1 x3 0
def l_X9_digest_6 (k51 : St → Int64 → Option (Int64 × St)) : Nat → St → Int64 → Int32 → Option (Int64 × St)
  | 0 => fun _ _ _ => none
  | n + 1 => b_X9_digest_6 (l_X9_digest_6 k51 n) k51
def b_X9_digest_53 (kb : St → Int64 → Int32 → Option (Int64 × St)) (k86 : St → Int64 → Option (Int64 × St)) (S : St) (x1 : Int64) (x3 : Int32) : Option (Int64 × St) :=
  if (S 0 0 5) ≤ x3 then k86 S x1 else gd (ix x3 8) (lt_ (S 5 0 x3.toNatClampNeg) (fun v_11 => gd (ix v_11 40) (lt_ (S 11 0 v_11.toNatClampNeg) (fun v_13 => lt_ ((31 * x1) + v_13.toInt64) (fun v_14 => lt_ (x3 + 1) (fun v_15 => kb S v_14 v_15))))))
def l_X9_digest_53 (k86 : St → Int64 → Option (Int64 × St)) : Nat → St → Int64 → Int32 → Option (Int64 × St)
  | 0 => fun _ _ _ => none
  | n + 1 => b_X9_digest_53 (l_X9_digest_53 k86 n) k86
def j_X9_digest_121 (kb : St → Int64 → Int32 → Option (Int64 × St)) (S : St) (x3 : Int32) (y0 : Int64) (y1 : Int64) (y2 : Int64) (y3 : Int64) : Option (Int64 × St) :=
  gd (ix x3 20) (lt_ (S 17 0 x3.toNatClampNeg) (fun v_21 => gd (ix x3 20) (lt_ (S 18 0 x3.toNatClampNeg) (fun v_23 => lt_ ((y0 * ((y1 * (y2 + y3)) + v_21.toInt64)) + v_23.toInt64) (fun v_24 => lt_ (x3 + 1) (fun v_25 => kb S v_24 v_25))))))
def b_X9_digest_88 (kb : St → Int64 → Int32 → Option (Int64 × St)) (S : St) (x1 : Int64) (x3 : Int32) : Option (Int64 × St) :=
  if (S 0 0 22) ≤ x3 then some (x1, S) else gd (ix x3 20) (lt_ (S 16 0 x3.toNatClampNeg) (fun v_18 => if v_18 = 0 then j_X9_digest_121 kb S x3 31 31 (31 * x1) 0 else j_X9_digest_121 kb S x3 31 31 (31 * x1) 1))
def l_X9_digest_88 : Nat → St → Int64 → Int32 → Option (Int64 × St)
  | 0 => fun _ _ _ => none
  | n + 1 => b_X9_digest_88 (l_X9_digest_88 n)
def f_X9_digest (S : St) : Option (Int64 × St) :=
  l_X9_digest_6 (fun S x1 => l_X9_digest_53 (fun S x1 => l_X9_digest_88 5000 S x1 0) 5000 S x1 0) 5000 S 13 0
