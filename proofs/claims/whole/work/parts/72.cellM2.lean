/-! cell() of the reference, as a whole -/
theorem M_cell {c ln : Nat} (hc : c < 20) (hl : ln ≤ 60) {tp : Nat → Int32} {lib : Nat → Cel} {th : Nat → Bool} {L : List Nat} {T : St} (hP : PlM c lib th T) (hsz : ∀ d, d < c → (lib d).2.2.1 ≤ 12) (hT : TM ln tp T) (hL : PhM L T) (hl8 : L.length < 88) : ((rdc tp ln).1 ≠ 0 → ∃ T', f_X9_cell T = some (-100 - nI (rdc tp ln).2.1, T') ∧ PlM c lib th T' ∧ T' 0 0 20 = 0 ∧ T' 0 0 21 = nI (rdc tp ln).1 ∧ PhM L T' ∧ T' 0 0 10 = T 0 0 10 ∧ Same [(0, 0), (17, 0), (18, 0), (19, 0), (20, 0), (21, 0), (22, 0), (23, 0), (24, 0), (25, 0), (26, 0), (27, 0)] T T' ∧ ∀ j, j ≠ 20 → j ≠ 21 → j ≠ 33 → j ≠ 34 → j ≠ 35 → T' 0 0 j = T 0 0 j) ∧ ((rdc tp ln).1 = 0 → ∃ T', f_X9_cell T = some (nI c, T') ∧ PlM (c + 1) (addL lib c (rdCel tp ln)) (addL th c true) T' ∧ T' 0 0 20 = 0 ∧ T' 0 0 21 = 0 ∧ PhM (2 :: L) T' ∧ T' 0 0 10 = 0 ∧ Same [(0, 0), (6, 0), (7, 0), (16, 0), (17, 0), (18, 0), (19, 0), (20, 0), (21, 0), (22, 0), (23, 0), (24, 0), (25, 0), (26, 0), (27, 0)] T T' ∧ ∀ j, j ≠ 7 → j ≠ 10 → j ≠ 22 → j ≠ 20 → j ≠ 21 → j ≠ 33 → j ≠ 34 → j ≠ 35 → T' 0 0 j = T 0 0 j) := by
  have h20 : ¬ T 0 0 22 = 20 := by rw [hP.1]; exact fun q => by have := (nI_eq (a := c) (b := 20) (by omega) (by decide)).mp q; omega
  unfold f_X9_cell
  rw [if_neg h20, lt_, lt_, lt_]
  generalize hT4 : put (put (put T 0 0 33 0) 0 0 34 0) 0 0 35 0 = T4
  have z4 : ∀ j, j ≠ 33 → j ≠ 34 → j ≠ 35 → T4 0 0 j = T 0 0 j := fun j a b d => by rw [← hT4, put_j d, put_j b, put_j a]
  have s4 : Same [(0, 0)] T T4 := by rw [← hT4]; exact ((Same.rf.put (by decide)).put (by decide)).put (by decide)
  have t4 : TM ln tp T4 := ⟨by rw [z4 20 (by decide) (by decide) (by decide)]; exact hT.1, by rw [s4 15 0 (by decide)]; exact hT.2⟩
  have p4 : T4 0 0 33 = nI 0 := by rw [← hT4, put_j (by decide), put_j (by decide), put_self]; rfl
  have f4 : T4 0 0 34 = 0 := by rw [← hT4, put_j (by decide), put_self]
  have g4 : T4 0 0 35 = 0 := by rw [← hT4, put_self]
  have c4 : T4 0 0 22 = nI c := by rw [z4 22 (by decide) (by decide) (by decide)]; exact hP.1
  have ra := rnm_le tp (ln := ln) 1 999 (p := 0) (by omega)
  have r0 := rnm_0 tp ln 1 999 0
  rw [bi_e (m_number hl 1 999 t4 p4 (by omega) f4 g4), c4, gd_t (ix_nI hc (by decide)), lt_, nI_clamp (show c < 2 ^ 31 by omega)]
  unfold rdCel rdc
  generalize rnm tp ln 1 999 0 = A at ra r0 ⊢
  generalize hT5 : put (put (put T4 0 0 33 (nI A.2.1)) 0 0 34 (nI A.2.2.1)) 0 0 35 (nI A.2.2.2) = T5
  have z5 : ∀ j, j ≠ 33 → j ≠ 34 → j ≠ 35 → T5 0 0 j = T 0 0 j := fun j a b d => by rw [← hT5, put_j d, put_j b, put_j a]; exact z4 j a b d
  have s5 : Same [(0, 0)] T T5 := s4.tr (by rw [← hT5]; exact ((Same.rf.put (by decide)).put (by decide)).put (by decide))
  have p5 : T5 0 0 33 = nI A.2.1 := by rw [← hT5, put_j (by decide), put_j (by decide), put_self]
  have f5 : T5 0 0 34 = nI A.2.2.1 := by rw [← hT5, put_j (by decide), put_self]
  have g5 : T5 0 0 35 = nI A.2.2.2 := by rw [← hT5, put_self]
  generalize hT6 : put T5 17 0 c A.1 = T6
  have s6 : Same [(0, 0), (17, 0)] T T6 := by rw [← hT6]; exact (s5.mono (by decide)).put (by decide)
  have q6 : T6 0 0 = T5 0 0 := by rw [← hT6]; exact put_o rfl
  have O6 : OthM c T T6 := ⟨fun j hj => by rw [s6 20 0 (by decide), s6 21 0 (by decide)]; exact ⟨rfl, rfl⟩, fun j hj => by rw [s6 22 0 (by decide), s6 23 0 (by decide), s6 24 0 (by decide), s6 25 0 (by decide)]; exact ⟨rfl, rfl, rfl, rfl⟩⟩
  have a6 : ∀ j, j ≠ c → T6 17 0 j = T 17 0 j := fun j hj => by rw [← hT6, put_j hj, s5 17 0 (by decide)]
  by_cases fa : A.2.2.1 ≠ 0
  · have hne : ¬ T6 0 0 34 = 0 := by rw [q6, f5]; exact nI_ne0 (by omega) (by omega)
    rw [if_neg hne]
    simp only [if_pos fa]
    have e67 : j_X9_cell_67 T6 = j_X9_cell_82 T6 := by unfold j_X9_cell_67; rw [if_neg hne]
    rw [e67]
    exact M_cellE hc (q := (0, 0, 0, fun _ => 0)) (by omega) hP hsz hL hl8 (by rw [q6]; exact f5) (fun _ => by rw [q6]; exact g5) (fun q => absurd q fa) (fun j a b d => by rw [q6]; exact z5 j a b d) (s6.mono (by decide)) O6 (fun j hj => ⟨by rw [s6 19 0 (by decide)], a6 j hj, by rw [s6 18 0 (by decide)]⟩)
  · have fa0 : A.2.2.1 = 0 := by omega
    have hz6 : T6 0 0 34 = 0 := by rw [q6, f5, fa0]; rfl
    have hz5 : T6 0 0 35 = 0 := by rw [q6, g5, r0 fa0]; rfl
    rw [if_pos hz6]
    simp only [if_neg fa]
    have t6 : TM ln tp T6 := ⟨by rw [q6, z5 20 (by decide) (by decide) (by decide)]; exact hT.1, by rw [s6 15 0 (by decide)]; exact hT.2⟩
    have c6 : T6 0 0 22 = nI c := by rw [q6, z5 22 (by decide) (by decide) (by decide)]; exact hP.1
    have rd := rnm_le tp (ln := ln) 0 99 (p := A.2.1) ra.1
    have rd0 := rnm_0 tp ln 0 99 A.2.1
    rw [bi_e (m_number hl 0 99 t6 (by rw [q6]; exact p5) ra.1 hz6 hz5), c6, gd_t (ix_nI hc (by decide)), lt_, nI_clamp (show c < 2 ^ 31 by omega)]
    unfold rdD
    generalize rnm tp ln 0 99 A.2.1 = D at rd rd0 ⊢
    generalize hT7 : put (put (put T6 0 0 33 (nI D.2.1)) 0 0 34 (nI D.2.2.1)) 0 0 35 (nI D.2.2.2) = T7
    have z7 : ∀ j, j ≠ 33 → j ≠ 34 → j ≠ 35 → T7 0 0 j = T 0 0 j := fun j a b d => by rw [← hT7, put_j d, put_j b, put_j a, q6]; exact z5 j a b d
    have s7 : Same [(0, 0), (17, 0)] T T7 := s6.tr (by rw [← hT7]; exact ((Same.rf.put (by decide)).put (by decide)).put (by decide))
    generalize hT8 : put T7 18 0 c D.1 = T8
    have s8 : Same [(0, 0), (17, 0), (18, 0)] T T8 := by rw [← hT8]; exact (s7.mono (by decide)).put (by decide)
    have q8 : T8 0 0 = T7 0 0 := by rw [← hT8]; exact put_o rfl
    have f8 : T8 0 0 34 = nI D.2.2.1 := by rw [q8, ← hT7, put_j (by decide), put_self]
    have g8 : T8 0 0 35 = nI D.2.2.2 := by rw [q8, ← hT7, put_self]
    have p8 : T8 0 0 33 = nI D.2.1 := by rw [q8, ← hT7, put_j (by decide), put_j (by decide), put_self]
    have z8 : ∀ j, j ≠ 33 → j ≠ 34 → j ≠ 35 → T8 0 0 j = T 0 0 j := fun j a b d => by rw [q8]; exact z7 j a b d
    have O8 : OthM c T T8 := ⟨fun j hj => by rw [s8 20 0 (by decide), s8 21 0 (by decide)]; exact ⟨rfl, rfl⟩, fun j hj => by rw [s8 22 0 (by decide), s8 23 0 (by decide), s8 24 0 (by decide), s8 25 0 (by decide)]; exact ⟨rfl, rfl, rfl, rfl⟩⟩
    have r17 : T8 17 0 = T6 17 0 := by rw [← hT8, put_o rfl, ← hT7, put_o rfl, put_o rfl, put_o rfl]
    have a17 : ∀ j, j ≠ c → T8 17 0 j = T 17 0 j := fun j hj => by rw [r17]; exact a6 j hj
    have a18 : ∀ j, j ≠ c → T8 18 0 j = T 18 0 j := fun j hj => by rw [← hT8, put_j hj, s7 18 0 (by decide)]
    by_cases fd : D.2.2.1 ≠ 0
    · have hne : ¬ T8 0 0 34 = 0 := by rw [f8]; exact nI_ne0 (by omega) (by omega)
      simp only [if_pos fd]
      have e67 : j_X9_cell_67 T8 = j_X9_cell_82 T8 := by unfold j_X9_cell_67; rw [if_neg hne]
      rw [e67]
      exact M_cellE hc (q := (A.1, 0, 0, fun _ => 0)) (by omega) hP hsz hL hl8 f8 (fun _ => g8) (fun q => absurd q fd) z8 (s8.mono (by decide)) O8 (fun j hj => ⟨by rw [s8 19 0 (by decide)], a17 j hj, a18 j hj⟩)
    · have fd0 : D.2.2.1 = 0 := by omega
      simp only [if_neg fd]
      have hz8 : T8 0 0 34 = 0 := by rw [f8, fd0]; rfl
      have t8 : TM ln tp T8 := ⟨by rw [z8 20 (by decide) (by decide) (by decide)]; exact hT.1, by rw [s8 15 0 (by decide)]; exact hT.2⟩
      have c8 : T8 0 0 22 = nI c := by rw [z8 22 (by decide) (by decide) (by decide)]; exact hP.1
      obtain ⟨T9, b1, b2, b3, b4, b5, b6, b7, b8⟩ := m_tree hl hc A.1 D.1 t8 p8 (by omega) hz8 (by rw [g8, rd0 fd0]; rfl)
      have e67 : j_X9_cell_67 T8 = j_X9_cell_82 T9 := by unfold j_X9_cell_67; rw [if_pos hz8, c8, bv_e b1]
      rw [e67]
      have h9 : (rdT tp ln A.1 D.1 (trs tp ln 14 0 1 D.2.1 (fun _ => 0))).1 ≤ 9 := by
        have := trs_9 tp (ln := ln) 14 0 1 D.2.1 (fun _ => 0)
        unfold rdT
        split
        · exact this
        · split <;> simp
      have hfst : ∀ U : Nat × Nat × Nat × (Nat → Nat), (rdT tp ln A.1 D.1 U).2.2 = (A.1, D.1, U.2.2) := fun U => by
        unfold rdT
        split
        · rfl
        · split <;> rfl
      refine M_cellE hc (by exact h9) hP hsz hL hl8 b2 (fun _ => b3) (fun q => ?_) (fun j a b d => by rw [b5 j a b d]; exact z8 j a b d) ((s8.mono (by decide)).tr (b6.mono (by decide))) (O8.tr b7) (fun j hj => ⟨by rw [b8 j hj, s8 19 0 (by decide)], by rw [b6 17 0 (by decide)]; exact a17 j hj, by rw [b6 18 0 (by decide)]; exact a18 j hj⟩)
      obtain ⟨x1, x2⟩ := b4 q
      rw [hfst]
      exact ⟨x1, x2, by rw [b6 17 0 (by decide), r17, ← hT6, put_self], by rw [b6 18 0 (by decide), ← hT8, put_self]⟩
