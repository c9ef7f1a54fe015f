/-! The reference's loop over a tree, as a whole -/
theorem m_wrong {T : St} (h : T 0 0 34 = 0) (a b : Int32) : f_X9_wrong a b T = some (put (put T 0 0 34 a) 0 0 35 b) := by
  unfold f_X9_wrong j_X9_wrong_17
  rw [if_pos h]
  rfl
/-- with a fault the loop ends -/
theorem m_stop {K : St → Int32 → Int32 → Option St} {f : Nat} {T : St} {x1 x2 x3 x4 : Int32} (h : ¬ T 0 0 34 = 0) : l_X9_tree_31 K (f + 1) T x1 x2 x3 x4 = K T x1 x3 := by
  rw [show l_X9_tree_31 K (f + 1) = b_X9_tree_31 (l_X9_tree_31 K f) K from rfl]
  unfold b_X9_tree_31
  by_cases q : x4 ≤ 0
  · rw [if_pos q]
  · rw [if_neg q, if_neg h]
theorem m_treel {ln : Nat} (hl : ln ≤ 60) {tp : Nat → Int32} {c : Nat} (hc : c < 20) (K : St → Int32 → Int32 → Option St) : ∀ (f g k p : Nat) (sy : Nat → Nat) (T : St), TM ln tp T → T 0 0 33 = nI p → p ≤ ln → T 0 0 34 = 0 → k ≤ 12 → 14 - k < f → 13 - k < g → ML c k sy T → WS (pend sy k) (T 26 0) (T 27 0) → ∃ T', l_X9_tree_31 K f T (nI c) (nI (12 * c)) (nI k) (nI (pend sy k).length) = K T' (nI c) (nI (trs tp ln g k (pend sy k).length p sy).2.2.1) ∧ T' 0 0 34 = nI (trs tp ln g k (pend sy k).length p sy).1 ∧ T' 0 0 33 = nI (trs tp ln g k (pend sy k).length p sy).2.1 ∧ ((trs tp ln g k (pend sy k).length p sy).1 ≠ 0 → T' 0 0 35 = nI (trs tp ln g k (pend sy k).length p sy).2.1) ∧ ((trs tp ln g k (pend sy k).length p sy).1 = 0 → T' 0 0 35 = T 0 0 35 ∧ pend (trs tp ln g k (pend sy k).length p sy).2.2.2 (trs tp ln g k (pend sy k).length p sy).2.2.1 = []) ∧ ML c (trs tp ln g k (pend sy k).length p sy).2.2.1 (trs tp ln g k (pend sy k).length p sy).2.2.2 T' ∧ (∀ j, j ≠ 33 → j ≠ 34 → j ≠ 35 → T' 0 0 j = T 0 0 j) ∧ Same exT T T' ∧ OthM c T T' := by
  intro f
  induction f with
  | zero => intro g k p sy T _ _ _ _ _ h; exact absurd h (by omega)
  | succ f ih =>
    intro g k p sy T h hp hpl hf hk hf1 hg hL hWS
    rw [show l_X9_tree_31 K (f + 1) = b_X9_tree_31 (l_X9_tree_31 K f) K from rfl]
    unfold b_X9_tree_31
    match g, hg with
    | g + 1, hg =>
      rw [trs]
      have hple := pend_le sy k
      cases hpd : pend sy k with
      | nil =>
        simp only [List.length_nil, if_true]
        rw [if_pos (show nI 0 ≤ 0 from by decide)]
        exact ⟨T, rfl, hf, hp, fun q => absurd rfl q, fun _ => ⟨rfl, hpd⟩, hL, fun _ _ _ _ => rfl, Same.rf, OthM.rf⟩
      | cons q r =>
        rw [hpd] at hple hWS
        simp only [List.length_cons] at hple ⊢
        rw [if_neg (show ¬ r.length + 1 = 0 by omega), if_neg (nI_nle (by omega) (by omega)), if_pos hf, bv_e (m_skip hl h hp hpl)]
        have h1 := skp_le tp hpl
        generalize hT1 : put T 0 0 33 (nI (skp tp ln p)) = T1
        have t1 : TM ln tp T1 := by rw [← hT1]; exact h.p33
        have p1 : T1 0 0 33 = nI (skp tp ln p) := by rw [← hT1, put_self]
        have f1 : T1 0 0 34 = 0 := by rw [← hT1, put_j (by decide)]; exact hf
        have z1 : ∀ j, j ≠ 33 → T1 0 0 j = T 0 0 j := fun j hj => by rw [← hT1, put_j hj]
        have s1 : Same [(0, 0)] T T1 := by rw [← hT1]; exact Same.rf.put (by decide)
        have L1 : ML c k sy T1 := hL.cg (s1.keep (by decide))
        have W1 : WS (q :: r) (T1 26 0) (T1 27 0) := by rw [s1 26 0 (by decide), s1 27 0 (by decide)]; exact hWS
        have O1 : OthM c T T1 := by rw [← hT1]; exact OthM.z
        rw [p1, bi_e (m_byteAt hl t1 h1.2), bi_e (f_in _ _ _ _)]
        simp only [i64_of, show (97 : Int64).toInt = 97 from by decide, show (102 : Int64).toInt = 102 from by decide]
        have hk0 : (nI k = 0) = (k = 0) := nI_inj (b := 0) (by omega) (by decide)
        -- a fault: the loop's next turn ends
        have fail : ∀ e : Nat, e = 1 ∨ e = 3 → ∃ T', bv (f_X9_wrong (nI e) (T1 0 0 33) T1) (fun q_65 => j_X9_tree_325 (l_X9_tree_31 K f) K q_65 (nI c) (nI (12 * c)) (nI k) (nI (r.length + 1))) = K T' (nI c) (nI k) ∧ T' 0 0 34 = nI e ∧ T' 0 0 33 = nI (skp tp ln p) ∧ (e ≠ 0 → T' 0 0 35 = nI (skp tp ln p)) ∧ (e = 0 → T' 0 0 35 = T 0 0 35 ∧ pend sy k = []) ∧ ML c k sy T' ∧ (∀ j, j ≠ 33 → j ≠ 34 → j ≠ 35 → T' 0 0 j = T 0 0 j) ∧ Same exT T T' ∧ OthM c T T' := by
          intro e he
          have he0 : ¬ nI e = 0 := by rcases he with rfl | rfl <;> decide
          rw [bv_e (m_wrong f1 _ _)]
          unfold j_X9_tree_325
          obtain ⟨f', rfl⟩ : ∃ f', f = f' + 1 := ⟨f - 1, by omega⟩
          rw [m_stop (by rw [put_j (by decide), put_self]; exact he0)]
          refine ⟨_, rfl, by rw [put_j (by decide), put_self], by rw [put_j (by decide), put_j (by decide)]; exact p1, fun _ => by rw [put_self]; exact p1, fun y => by omega, ?_, fun j a b d => by rw [put_j d, put_j b]; exact z1 j a, (s1.mono (by decide)).tr ((Same.rf.put (by decide)).put (by decide)), (O1.tr OthM.z).tr OthM.z⟩
          exact L1.cg (((Same.rf (ex := [(0, 0)])).put (by decide)).put (by decide) |>.keep (by decide))
        cases hq : symAt tp ln p with
        | none =>
          rw [symAt_bat] at hq
          obtain ⟨n1, n2, n3⟩ := sym_none hq
          rw [if_neg n1, if_neg n2, decide_eq_false n3, if_pos (show b01 false = 0 from rfl)]
          obtain ⟨T', a⟩ := fail 1 (Or.inl rfl)
          exact ⟨T', a⟩
        | some s =>
          have hlt := (symAt_lt hq).2
          have hs := hq
          rw [symAt_bat] at hs
          obtain ⟨hb7, hb6, hbp, hbd, hs7⟩ := sym_cases hs
          rw [hbd]
          -- which way
          have way : (if bat tp ln (skp tp ln p) = 78 then j_X9_tree_106 (l_X9_tree_31 K f) K T1 (nI c) (nI (12 * c)) (nI k) (nI (r.length + 1)) (bat tp ln (skp tp ln p)) (b01 (decide (s < 6))) else if bat tp ln (skp tp ln p) = 73 then j_X9_tree_106 (l_X9_tree_31 K f) K T1 (nI c) (nI (12 * c)) (nI k) (nI (r.length + 1)) (bat tp ln (skp tp ln p)) (b01 (decide (s < 6))) else if b01 (decide (s < 6)) = 0 then j_X9_tree_94 (l_X9_tree_31 K f) K T1 (nI c) (nI (12 * c)) (nI k) (nI (r.length + 1)) else if nI k = 0 then j_X9_tree_94 (l_X9_tree_31 K f) K T1 (nI c) (nI (12 * c)) (nI k) (nI (r.length + 1)) else j_X9_tree_106 (l_X9_tree_31 K f) K T1 (nI c) (nI (12 * c)) (nI k) (nI (r.length + 1)) (bat tp ln (skp tp ln p)) (b01 (decide (s < 6)))) = if k = 0 ∧ s < 6 then j_X9_tree_94 (l_X9_tree_31 K f) K T1 (nI c) (nI (12 * c)) (nI k) (nI (r.length + 1)) else j_X9_tree_106 (l_X9_tree_31 K f) K T1 (nI c) (nI (12 * c)) (nI k) (nI (r.length + 1)) (bat tp ln (skp tp ln p)) (b01 (decide (s < 6))) := by
            by_cases u : s = 7
            · have c7 : bat tp ln (skp tp ln p) = 78 := by rw [hb7]; exact u
              rw [if_pos c7, if_neg (by omega)]
            · have c7 : ¬ bat tp ln (skp tp ln p) = 78 := by rw [hb7]; exact u
              rw [if_neg c7]
              by_cases v : s = 6
              · have c6 : bat tp ln (skp tp ln p) = 73 := by rw [hb6]; exact v
                rw [if_pos c6, if_neg (by omega)]
              · have c6 : ¬ bat tp ln (skp tp ln p) = 73 := by rw [hb6]; exact v
                rw [if_neg c6, if_neg (by rw [b01_0]; simp; omega)]
                by_cases w : k = 0
                · have ck : nI k = 0 := by rw [hk0]; exact w
                  rw [if_pos ck, if_pos ⟨w, by omega⟩]
                · have ck : ¬ nI k = 0 := by rw [hk0]; exact w
                  rw [if_neg ck, if_neg (fun y => w y.1)]
          rw [way]
          by_cases y : k = 0 ∧ s < 6
          · simp only [if_pos y]
            obtain ⟨T', a⟩ := fail 1 (Or.inl rfl)
            exact ⟨T', a⟩
          · simp only [if_neg y]
            by_cases y12 : k = 12
            · simp only [if_pos y12]
              unfold j_X9_tree_106
              rw [if_pos (show nI k = 12 by rw [y12]; rfl)]
              obtain ⟨T', a⟩ := fail 3 (Or.inr rfl)
              exact ⟨T', a⟩
            · simp only [if_neg y12]
              obtain ⟨T2, a1, a2, a3, a4, a5, a6, a7⟩ := m_take (l_X9_tree_31 K f) K hc (show k < 12 by omega) hpd hs W1 L1 p1
              rw [a1]
              have ln2 : nxd s (r.length + 1) = (pend (updN sy k s) (k + 1)).length := by
                have hcg : pend (updN sy k s) k = pend sy k := pend_cg (fun j hj => updN_lt hj)
                rw [pend_len (by rw [hcg, hpd]; simp), hcg, hpd, updN_at]
                rfl
              rw [ln2]
              obtain ⟨T', b1, b2, b3, b4, b5, b6, b7, b8, b9⟩ := ih g (k + 1) (skp tp ln p + 1) (updN sy k s) T2 ⟨by rw [a5 20 (by decide)]; exact t1.1, by rw [a6 15 0 (by decide)]; exact t1.2⟩ a4 (by omega) (by rw [a5 34 (by decide)]; exact f1) (by omega) (by omega) (by omega) a2 a3
              exact ⟨T', b1, b2, b3, b4, fun e => ⟨by rw [(b5 e).1, a5 35 (by decide), z1 35 (by decide)], (b5 e).2⟩, b6, fun j u v w => by rw [b7 j u v w, a5 j u, z1 j u], (s1.mono (by decide)).tr (a6.tr b8), O1.tr (a7.tr b9)⟩
