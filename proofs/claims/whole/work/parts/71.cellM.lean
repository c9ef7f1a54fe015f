/-! cell() of the reference -/
theorem trs_9 (tp : Nat → Int32) {ln : Nat} : ∀ (f k due p : Nat) (sy : Nat → Nat), (trs tp ln f k due p sy).1 ≤ 9
  | 0, k, due, p, sy => Nat.le_refl 9
  | f + 1, k, due, p, sy => by
    rw [trs]
    split
    · exact Nat.zero_le 9
    · split
      · simp
      · split
        · simp
        · split
          · simp
          · exact trs_9 tp f _ _ _ _
theorem m_tree {ln : Nat} (hl : ln ≤ 60) {tp : Nat → Int32} {c p : Nat} (hc : c < 20) {T : St} (a d : Int32) (h : TM ln tp T) (hp : T 0 0 33 = nI p) (hpl : p ≤ ln) (hf : T 0 0 34 = 0) (hf2 : T 0 0 35 = 0) : ∃ T', f_X9_tree (nI c) T = some T' ∧ T' 0 0 34 = nI (rdT tp ln a d (trs tp ln 14 0 1 p (fun _ => 0))).1 ∧ T' 0 0 35 = nI (rdT tp ln a d (trs tp ln 14 0 1 p (fun _ => 0))).2.1 ∧ ((rdT tp ln a d (trs tp ln 14 0 1 p (fun _ => 0))).1 = 0 → ML c (trs tp ln 14 0 1 p (fun _ => 0)).2.2.1 (trs tp ln 14 0 1 p (fun _ => 0)).2.2.2 T' ∧ T' 19 0 c = nI (trs tp ln 14 0 1 p (fun _ => 0)).2.2.1) ∧ (∀ j, j ≠ 33 → j ≠ 34 → j ≠ 35 → T' 0 0 j = T 0 0 j) ∧ Same ((19, 0) :: exT) T T' ∧ OthM c T T' ∧ ∀ j, j ≠ c → T' 19 0 j = T 19 0 j := by
  unfold f_X9_tree
  have e12 : (12 : Int32) * nI c = nI (12 * c) := pk_mul 12 c
  have c0 : (0 : Int32).toNatClampNeg = 0 := by decide
  have i0 : ix 0 16 = true := by decide
  rw [lt_, e12, gd_t i0, lt_, c0, gd_t (ix_nI hc (by decide)), lt_, nI_clamp (show c < 2 ^ 31 by omega), gd_t (ix_nI hc (by decide)), lt_]
  generalize hT1 : put (put (put T 26 0 0 (-1)) 20 0 c 0) 21 0 c 0 = T1
  have s1 : Same [(20, 0), (21, 0), (26, 0)] T T1 := by rw [← hT1]; exact ((Same.rf.put (by decide)).put (by decide)).put (by decide)
  have z1 : T1 0 0 = T 0 0 := s1 0 0 (by decide)
  have O1 : OthM c T T1 := ⟨fun j hj => by rw [← hT1]; simp [put_at, hj], fun j hj => by rw [s1 22 0 (by decide), s1 23 0 (by decide), s1 24 0 (by decide), s1 25 0 (by decide)]; exact ⟨rfl, rfl, rfl, rfl⟩⟩
  have M1 : ML c 0 (fun _ => 0) T1 := ⟨by rw [← hT1]; simp [put_at]; rfl, by rw [← hT1]; simp [put_at]; rfl, fun i hi => absurd hi (by omega), fun i hi => absurd hi (by omega)⟩
  have W1 : WS (pend (fun _ => 0) 0) (T1 26 0) (T1 27 0) := ⟨by rw [← hT1]; simp [put_at], fun q hq => (by cases hq), trivial⟩
  obtain ⟨T2, a1, a2, a3, a4, a5, a6, a7, a8, a9⟩ := m_treel hl hc (fun S x1 x3 => j_X9_tree_328 S x1 x3) 5000 14 0 p (fun _ => 0) T1 ⟨by rw [z1]; exact h.1, by rw [s1 15 0 (by decide)]; exact h.2⟩ (by rw [z1]; exact hp) hpl (by rw [z1]; exact hf) (by omega) (by omega) (by omega) M1 W1
  have tl := trs_le tp (ln := ln) 14 0 1 p (fun _ => 0) hpl (by omega)
  have t9 := trs_9 tp (ln := ln) 14 0 1 p (fun _ => 0)
  have a1 : l_X9_tree_31 (fun S x1 x3 => j_X9_tree_328 S x1 x3) 5000 T1 (nI c) (nI (12 * c)) 0 1 = j_X9_tree_328 T2 (nI c) (nI (trs tp ln 14 0 1 p (fun _ => 0)).2.2.1) := a1
  have a2 : T2 0 0 34 = nI (trs tp ln 14 0 1 p (fun _ => 0)).1 := a2
  have a3 : T2 0 0 33 = nI (trs tp ln 14 0 1 p (fun _ => 0)).2.1 := a3
  have a4 : (trs tp ln 14 0 1 p (fun _ => 0)).1 ≠ 0 → T2 0 0 35 = nI (trs tp ln 14 0 1 p (fun _ => 0)).2.1 := a4
  have a5 : (trs tp ln 14 0 1 p (fun _ => 0)).1 = 0 → T2 0 0 35 = T1 0 0 35 ∧ _ := a5
  have a6 : ML c (trs tp ln 14 0 1 p (fun _ => 0)).2.2.1 (trs tp ln 14 0 1 p (fun _ => 0)).2.2.2 T2 := a6
  rw [a1]
  generalize trs tp ln 14 0 1 p (fun _ => 0) = U at a2 a3 a4 a5 a6 tl t9 ⊢
  unfold j_X9_tree_328
  rw [gd_t (ix_nI hc (by decide)), lt_, nI_clamp (show c < 2 ^ 31 by omega)]
  generalize hT3 : put T2 19 0 c (nI U.2.2.1) = T3
  have s3 : Same [(19, 0)] T2 T3 := by rw [← hT3]; exact Same.rf.put (by decide)
  have z3 : T3 0 0 = T2 0 0 := s3 0 0 (by decide)
  have t3 : TM ln tp T3 := ⟨by rw [z3, a7 20 (by decide) (by decide) (by decide), z1]; exact h.1, by rw [s3 15 0 (by decide), a8 15 0 (by decide), s1 15 0 (by decide)]; exact h.2⟩
  have p3 : T3 0 0 33 = nI U.2.1 := by rw [z3]; exact a3
  have hq := skp_le tp (ln := ln) (p := U.2.1) tl.1
  rw [bv_e (m_skip hl t3 p3 tl.1)]
  generalize hT4 : put T3 0 0 33 (nI (skp tp ln U.2.1)) = T4
  have z4 : ∀ j, j ≠ 33 → T4 0 0 j = T2 0 0 j := fun j hj => by rw [← hT4, put_j hj, z3]
  have s4 : Same [(0, 0)] T3 T4 := by rw [← hT4]; exact Same.rf.put (by decide)
  have p4 : T4 0 0 33 = nI (skp tp ln U.2.1) := by rw [← hT4, put_self]
  have l4 : T4 0 0 20 = nI ln := by rw [← hT4, put_j (by decide)]; exact t3.1
  have s04 : Same ((19, 0) :: exT) T T4 := (s1.mono (by decide)).tr ((a8.mono (by decide)).tr ((s3.mono (by decide)).tr (s4.mono (by decide))))
  have O4 : OthM c T T4 := (O1.tr a9).tr ⟨fun j hj => by rw [s4 20 0 (by decide), s4 21 0 (by decide), s3 20 0 (by decide), s3 21 0 (by decide)]; exact ⟨rfl, rfl⟩, fun j hj => by rw [s4 22 0 (by decide), s4 23 0 (by decide), s4 24 0 (by decide), s4 25 0 (by decide), s3 22 0 (by decide), s3 23 0 (by decide), s3 24 0 (by decide), s3 25 0 (by decide)]; exact ⟨rfl, rfl, rfl, rfl⟩⟩
  have M4 : ML c U.2.2.1 U.2.2.2 T4 := (a6.cg (s3.keep (by decide))).cg (s4.keep (by decide))
  have e19 : ∀ j, T4 19 0 j = if j = c then nI U.2.2.1 else T 19 0 j := fun j => by
    rw [s4 19 0 (by decide), ← hT3, put_jj, a8 19 0 (by decide), s1 19 0 (by decide)]
  rw [p4, l4]
  unfold j_X9_tree_359
  have zz : ∀ j, j ≠ 33 → j ≠ 34 → j ≠ 35 → T4 0 0 j = T 0 0 j := fun j x y z => by rw [z4 j x, a7 j x y z, z1]
  unfold rdT
  by_cases fu : U.1 ≠ 0
  · simp only [if_pos fu]
    have hne : ¬ T4 0 0 34 = 0 := by
      rw [z4 34 (by decide), a2]
      exact nI_ne0 (by omega) (by omega)
    have nw : f_X9_wrong 1 (nI (skp tp ln U.2.1)) T4 = some T4 := by
      unfold f_X9_wrong j_X9_wrong_17
      rw [if_neg hne]
    have er : (if nI ln ≤ nI (skp tp ln U.2.1) then some T4 else bv (f_X9_wrong 1 (nI (skp tp ln U.2.1)) T4) (fun q_73 => some q_73)) = some T4 := by
      rw [nw]
      split <;> rfl
    exact ⟨T4, er, by rw [z4 34 (by decide)]; exact a2, by rw [z4 35 (by decide)]; exact a4 fu, fun q => absurd q fu, zz, s04, O4, fun j hj => by rw [e19 j, if_neg hj]⟩
  · simp only [if_neg fu]
    have fu0 : U.1 = 0 := by omega
    have h34 : T4 0 0 34 = 0 := by rw [z4 34 (by decide), a2, fu0]; rfl
    by_cases en : skp tp ln U.2.1 < ln
    · rw [if_neg (nI_ge en (by omega)), bv_e (m_wrong h34 _ _)]
      simp only [if_pos en]
      refine ⟨put (put T4 0 0 34 1) 0 0 35 (nI (skp tp ln U.2.1)), rfl, by rw [put_j (by decide), put_self]; rfl, put_self _ _ _ _ _, fun q => absurd q (by decide), fun j x y z => by rw [put_j z, put_j y]; exact zz j x y z, s04.tr ((Same.rf.put (by decide)).put (by decide)), (O4.tr OthM.z).tr OthM.z, fun j hj => by rw [put_o rfl, put_o rfl, e19 j, if_neg hj]⟩
    · rw [if_pos (nI_le (by omega) (by omega))]
      simp only [if_neg en]
      exact ⟨T4, rfl, h34, by rw [z4 35 (by decide), (a5 fu0).1, z1]; exact hf2, fun _ => ⟨M4, by rw [e19 c, if_pos rfl]⟩, zz, s04, O4, fun j hj => by rw [e19 j, if_neg hj]⟩
theorem rnm_0 (tp : Nat → Int32) (ln : Nat) (lo hi : Int32) (p : Nat) : (rnm tp ln lo hi p).2.2.1 = 0 → (rnm tp ln lo hi p).2.2.2 = 0 := by
  unfold rnm
  generalize nm tp ln 3 (skp tp ln p) 0 = r
  unfold rn2
  intro h
  split at h
  · cases h
  · split at h
    · cases h
    · split at h
      · cases h
      · rename_i a b d
        rw [if_neg a, if_neg b, if_neg d]
/-- behind the reading -/
theorem M_cellE {c : Nat} (hc : c < 20) {lib : Nat → Cel} {th : Nat → Bool} {L : List Nat} {T T5 : St} {F P : Nat} {q : Cel} (hF : F ≤ 9) (hP : PlM c lib th T) (hsz : ∀ d, d < c → (lib d).2.2.1 ≤ 12) (hL : PhM L T) (hl8 : L.length < 88) (e34 : T5 0 0 34 = nI F) (e35 : F ≠ 0 → T5 0 0 35 = nI P) (hM : F = 0 → ML c q.2.2.1 q.2.2.2 T5 ∧ T5 19 0 c = nI q.2.2.1 ∧ T5 17 0 c = q.1 ∧ T5 18 0 c = q.2.1) (hz : ∀ j, j ≠ 33 → j ≠ 34 → j ≠ 35 → T5 0 0 j = T 0 0 j) (hs : Same [(0, 0), (17, 0), (18, 0), (19, 0), (20, 0), (21, 0), (22, 0), (23, 0), (24, 0), (25, 0), (26, 0), (27, 0)] T T5) (hO : OthM c T T5) (h19 : ∀ j, j ≠ c → T5 19 0 j = T 19 0 j ∧ T5 17 0 j = T 17 0 j ∧ T5 18 0 j = T 18 0 j) : (F ≠ 0 → ∃ T', j_X9_cell_82 T5 = some (-100 - nI P, T') ∧ PlM c lib th T' ∧ T' 0 0 20 = 0 ∧ T' 0 0 21 = nI F ∧ PhM L T' ∧ T' 0 0 10 = T 0 0 10 ∧ Same [(0, 0), (17, 0), (18, 0), (19, 0), (20, 0), (21, 0), (22, 0), (23, 0), (24, 0), (25, 0), (26, 0), (27, 0)] T T' ∧ ∀ j, j ≠ 20 → j ≠ 21 → j ≠ 33 → j ≠ 34 → j ≠ 35 → T' 0 0 j = T 0 0 j) ∧ (F = 0 → ∃ T', j_X9_cell_82 T5 = some (nI c, T') ∧ PlM (c + 1) (addL lib c q) (addL th c true) T' ∧ T' 0 0 20 = 0 ∧ T' 0 0 21 = 0 ∧ PhM (2 :: L) T' ∧ T' 0 0 10 = 0 ∧ Same [(0, 0), (6, 0), (7, 0), (16, 0), (17, 0), (18, 0), (19, 0), (20, 0), (21, 0), (22, 0), (23, 0), (24, 0), (25, 0), (26, 0), (27, 0)] T T' ∧ ∀ j, j ≠ 7 → j ≠ 10 → j ≠ 22 → j ≠ 20 → j ≠ 21 → j ≠ 33 → j ≠ 34 → j ≠ 35 → T' 0 0 j = T 0 0 j) := by
  unfold j_X9_cell_82
  rw [lt_, put_j (show (34 : Nat) ≠ 20 by decide), e34, lt_]
  generalize hT6 : put (put T5 0 0 20 0) 0 0 21 (nI F) = T6
  have s6 : Same [(0, 0)] T5 T6 := by rw [← hT6]; exact (Same.rf.put (by decide)).put (by decide)
  have z6 : ∀ j, j ≠ 20 → j ≠ 21 → T6 0 0 j = T5 0 0 j := fun j a b => by rw [← hT6, put_j b, put_j a]
  have e6 : T6 0 0 34 = nI F := by rw [z6 34 (by decide) (by decide)]; exact e34
  have P6 : PlM c lib th T6 := hP.same (by rw [z6 22 (by decide) (by decide), hz 22 (by decide) (by decide) (by decide)]) (fun d hd => ⟨OthM.rf, by rw [s6 20 0 (by decide)]; exact (hO.1 d (by omega)).1, by rw [s6 21 0 (by decide)]; exact (hO.1 d (by omega)).2, fun j x y => by rw [s6 22 0 (by decide), s6 23 0 (by decide), s6 24 0 (by decide), s6 25 0 (by decide)]; exact hO.2 j (by omega), by rw [s6 17 0 (by decide)]; exact (h19 d (by omega)).2.1, by rw [s6 18 0 (by decide)]; exact (h19 d (by omega)).2.2, by rw [s6 19 0 (by decide)]; exact (h19 d (by omega)).1, by rw [s6 16 0 (by decide), hs 16 0 (by decide)]⟩) hsz
  have L6 : PhM L T6 := hL.keep ((hs.mono (ex' := [(0, 0), (17, 0), (18, 0), (19, 0), (20, 0), (21, 0), (22, 0), (23, 0), (24, 0), (25, 0), (26, 0), (27, 0)]) (by decide)).tr (s6.mono (by decide)) |>.keep (by decide)) (fun j hj => by rw [in1 hj, z6 7 (by decide) (by decide), hz 7 (by decide) (by decide) (by decide)])
  rw [e6]
  refine ⟨fun hf => ?_, fun hf => ?_⟩
  · rw [if_neg (nI_nle (by omega) (by omega)), z6 35 (by decide) (by decide), e35 hf]
    exact ⟨T6, rfl, P6, by rw [← hT6, put_j (by decide), put_self], by rw [← hT6, put_self], L6, by rw [z6 10 (by decide) (by decide), hz 10 (by decide) (by decide) (by decide)], hs.tr (s6.mono (by decide)), fun j a b x y z => by rw [z6 j a b, hz j x y z]⟩
  · subst hf
    obtain ⟨m1, m2, m3, m4⟩ := hM rfl
    have h22 : T6 0 0 22 = nI c := P6.1
    rw [if_pos (show nI 0 ≤ 0 from by decide), h22, gd_t (ix_nI hc (by decide)), lt_, nI_clamp (show c < 2 ^ 31 by omega), nz_1, lt_, put_o rfl, h22, nI_1]
    generalize hT7 : put (put T6 16 0 c 1) 0 0 22 (nI (c + 1)) = T7
    have s7 : Same [(0, 0), (16, 0)] T6 T7 := by rw [← hT7]; exact (Same.rf.put (by decide)).put (by decide)
    have z7 : ∀ j, j ≠ 22 → T7 0 0 j = T6 0 0 j := fun j a => by rw [← hT7, put_j a, put_o rfl]
    obtain ⟨T8, b1, b2, b3, b4, b5⟩ := m_did (x := 2) (a := 2) (b := 0) (L6.keep (s7.keep (by decide)) (fun j hj => by rw [in1 hj]; exact z7 7 (by decide))) hl8 rfl (fun h => absurd h (by decide))
    have h228 : T8 0 0 22 = nI (c + 1) := by rw [b5 22 (by decide) (by decide), ← hT7, put_self]
    rw [bv_e b1, h228, nI_pred]
    have s58 : Same [(0, 0), (6, 0), (7, 0), (16, 0)] T5 T8 := (s6.mono (by decide)).tr ((s7.mono (by decide)).tr (b4.mono (by decide)))
    have r : ∀ k, (k, 0) ∉ [(0, 0), (6, 0), (7, 0), (16, 0)] → T8 k 0 = T5 k 0 := fun k hk => s58 k 0 hk
    refine ⟨T8, rfl, ⟨h228, fun d hd => ?_⟩, ?_, ?_, b2, b3, (hs.mono (by decide)).tr (s58.mono (by decide)), fun j a b e x y z w v => by rw [b5 j a b, z7 j e, z6 j x y, hz j z w v]⟩
    · by_cases z : d = c
      · subst z
        rw [addL_at, addL_at]
        refine ⟨m1.cg (s58.keep (by decide)), by rw [r 17 (by decide)]; exact m3, by rw [r 18 (by decide)]; exact m4, by rw [r 19 (by decide)]; exact m2, ?_⟩
        rw [b4 16 0 (by decide), ← hT7, put_o rfl, put_self]; rfl
      · rw [addL_ne z, addL_ne z]
        obtain ⟨x1, x2, x3, x4, x5⟩ := P6.2 d (by omega)
        have r6 : ∀ k, (k, 0) ∉ [(0, 0), (6, 0), (7, 0), (16, 0)] → T8 k 0 = T6 k 0 := fun k hk => ((s7.mono (by decide)).tr (b4.mono (by decide))) k 0 hk
        refine ⟨x1.cg (fun q hq => by
          have : q ∈ [(20, 0), (21, 0), (22, 0), (23, 0), (24, 0), (25, 0)] := hq
          obtain ⟨a, b⟩ := q
          have hb : b = 0 := by simp at this; omega
          subst hb
          exact r6 a (by intro w; simp at w this; omega)), by rw [r6 17 (by decide)]; exact x2, by rw [r6 18 (by decide)]; exact x3, by rw [r6 19 (by decide)]; exact x4, ?_⟩
        rw [b4 16 0 (by decide), ← hT7, put_o rfl, put_j z]; exact x5
    · rw [b5 20 (by decide) (by decide), z7 20 (by decide), ← hT6, put_j (by decide), put_self]
    · rw [b5 21 (by decide) (by decide), z7 21 (by decide), ← hT6, put_self]; rfl
