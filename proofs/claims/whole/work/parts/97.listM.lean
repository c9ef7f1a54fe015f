/-! The reference: the listing -/
def Cq.lsM (Q : Cq) (dn : List Nat) (T : St) : Prop := T 0 0 46 = nI dn.length ∧ HS dn (T 35 0) ∧ ∀ v, v < Q.g.1 → T 36 0 v = b01 (dn.contains v)
def exJ : List (Nat × Nat) := [(0, 0), (35, 0), (36, 0), (37, 0)]
def Cq.bM (Q : Cq) (w : Nat) (T : St) : Prop := ∀ u, u < Q.g.1 → rM Q T (200 * w + u) u (Q.bs Q.g.1 u)
theorem Cq.bM.same {Q : Cq} {w : Nat} {T T' : St} (h : Q.bM w T) (s : Same exJ T T') : Q.bM w T' := fun u hu => (h u hu).eM (eM.of (fun k hk => s k 0 (by rcases hk with rfl | rfl | rfl | rfl | rfl <;> decide)))
/-- a listing changes of the object's numbers one alone -/
def FrJ (T T' : St) : Prop := Same exJ T T' ∧ ∀ j, j ≠ 46 → T' 0 0 j = T 0 0 j
theorem FrJ.rf {T : St} : FrJ T T := ⟨Same.rf, fun _ _ => rfl⟩
theorem FrJ.tr {T T1 T2 : St} (h : FrJ T T1) (h2 : FrJ T1 T2) : FrJ T T2 := ⟨h.1.tr h2.1, fun j hj => (h2.2 j hj).trans (h.2 j hj)⟩
theorem Cq.eM.frJ {Q : Cq} {T T' : St} (h : Q.eM T) (f : FrJ T T') : Q.eM T' := EvM.keep h (fun k hk h0 => f.1 k 0 (fun hm => by
    have : ∀ q ∈ exJ, q.1 = 0 ∨ q.1 ∉ ksM := by decide
    rcases this _ hm with q | q
    · exact h0 q
    · exact q hk)) (f.2 11 (by decide)) (f.2 22 (by decide))
/-- the PINs of v are pushed -/
theorem m_pushI {Q : Cq} (h : Q.ok) {w v : Nat} (hw : w ≤ 1) (hv : v < Q.g.1) (h4 : (Q.bs Q.g.1 v).1 ≠ -4) (K : St → Int32 → Int32 → Int32 → Int32 → Option (Int32 × St)) (x3 x4 : Int32) (st : List Nat) (hroom : (Q.ch v ++ st).length ≤ 159) : ∀ (f n : Nat) (T : St), n ≤ 6 → 6 - n < f → Q.eM T → Q.bM w T → HS (Q.chs v n ++ st) (T 37 0) → ∃ T', l_X9_instances_151 K f T (nI (200 * w)) x3 x4 (nI (Q.chs v n ++ st).length) (nI v) (nI (6 - n) - 1) = K T' (nI (200 * w)) x3 x4 (nI (Q.ch v ++ st).length) ∧ Same [(37, 0)] T T' ∧ HS (Q.ch v ++ st) (T' 37 0) := by
  have hg := h.2.1
  have mono : ∀ n, n ≤ 6 → (Q.chs v n).length ≤ (Q.ch v).length := by
    intro n
    have st1 : ∀ k, (Q.chs v k).length ≤ (Q.chs v (k + 1)).length := fun k => by
      rw [Cq.chs]; split
      · simp
      · exact Nat.le_refl _
    have : ∀ j, (Q.chs v n).length ≤ (Q.chs v (n + j)).length := fun j => by
      induction j with
      | zero => exact Nat.le_refl _
      | succ j ih => exact Nat.le_trans ih (st1 (n + j))
    intro hn
    have := this (6 - n)
    rw [show n + (6 - n) = 6 from by omega] at this
    exact this
  intro f
  induction f with
  | zero => intro n T _ hf; exact absurd hf (by omega)
  | succ f ih =>
    intro n T hn hf hE hb hst
    rw [show l_X9_instances_151 K (f + 1) = b_X9_instances_151 (l_X9_instances_151 K f) K from rfl]
    unfold b_X9_instances_151
    by_cases e : n = 6
    · subst e
      rw [if_pos (show nI (6 - 6) - 1 < 0 from by decide)]
      exact ⟨T, rfl, Same.rf, hst⟩
    · have e1 : nI (6 - n) - 1 = nI (5 - n) := by rw [nI_s1 (by omega)]; congr 1; omega
      have e2 : nI (5 - n) + (-1) = nI (6 - (n + 1)) - 1 := by
        rw [show 6 - (n + 1) = 5 - n from by omega]
        rw [Int32.sub_eq_add_neg]
      rw [e1, if_neg (nI_pos (show 5 - n < 2 ^ 31 by omega)), show 6 * (nI (200 * w) + nI v) + nI (5 - n) = nI (6 * (200 * w + v) + (5 - n)) from by rw [show (6 : Int32) = nI 6 from rfl, nI_add, pk_mul, nI_add], gd_t (ix_nI (show 6 * (200 * w + v) + (5 - n) < 2400 by omega) (by decide)), lt_, nI_clamp (show 6 * (200 * w + v) + (5 - n) < 2 ^ 31 by omega), (hb v hv).2.2.2.2 (5 - n) (by omega)]
      have hPv : (Q.bs Q.g.1 v).2.2.2 (5 - n) = Q.P v (5 - n) := rfl
      rw [hPv]
      unfold j_X9_instances_212
      have go : Q.inP (Q.P v (5 - n)) = false → ∃ T', lt_ (nI (5 - n) + (-1)) (fun v_32 => l_X9_instances_151 K f T (nI (200 * w)) x3 x4 (nI (Q.chs v n ++ st).length) (nI v) v_32) = K T' (nI (200 * w)) x3 x4 (nI (Q.ch v ++ st).length) ∧ Same [(37, 0)] T T' ∧ HS (Q.ch v ++ st) (T' 37 0) := fun hz => by
        rw [lt_, e2]
        have hc : Q.chs v (n + 1) = Q.chs v n := by rw [Cq.chs, hz]; rfl
        have := ih (n + 1) T (by omega) (by omega) hE hb (by rw [hc]; exact hst)
        rw [hc] at this
        exact this
      by_cases y : Q.P v (5 - n) = -4
      · rw [if_pos y]
        exact go (by unfold Cq.inP; rw [y]; rfl)
      · rw [if_neg y]
        obtain ⟨d, tt, c1, c2, c3, c4, c5, c6, c7, c8⟩ := Q.has_m h hv h4
        rcases c8 (5 - n) (by omega) with z | ⟨u, u1, u2, u3, u4⟩
        · exact absurd z y
        · have ug : u < Q.g.1 := by omega
          have hix : ix (nI u) 200 = true := ix_nI (by omega) (by decide)
          have hcl : (nI u).toNatClampNeg = u := nI_clamp (by omega)
          have e0 : (nI (Q.g.2 u).1 = 0) ↔ ((Q.g.2 u).1 = 0) := Eq.to_iff (nI_inj (b := 0) (by have := (h.1 u ug).1; omega) (by decide))
          have r14 : T 14 0 u = b01 (Q.rt u) := (hE.2.2.2.1 u ug).2.2
          rw [u3] at go ⊢
          rw [gd_t hix, lt_, hcl, (hE.2.2.1.2 u ug).1, gd_t hix, lt_, r14]
          by_cases f0 : (Q.g.2 u).1 = 0
          · rw [if_pos (e0.mpr f0)]
            exact go (by unfold Cq.inP; rw [hcl]; simp [f0])
          · rw [if_neg (fun q => f0 (e0.mp q))]
            cases hr : Q.rt u with
            | true =>
              rw [lt_, if_neg (show ¬ b01 true = 0 from by decide)]
              exact go (by unfold Cq.inP; rw [hcl, hr]; simp)
            | false =>
              have hz : Q.inP (nI u) = true := by unfold Cq.inP; rw [m4_nI (by omega), hcl, hr]; simp [f0]
              have hc : Q.chs v (n + 1) = u :: Q.chs v n := by rw [Cq.chs, u3, hz, hcl]; rfl
              have hml := mono (n + 1) (by omega)
              have hlen : (Q.chs v n ++ st).length < 160 := by
                rw [hc] at hml
                simp only [List.length_append, List.length_cons] at hml hroom ⊢
                omega
              rw [lt_, if_pos (show b01 false = 0 from rfl), gd_t (ix_nI (show (Q.chs v n ++ st).length < 1400 by omega) (by decide)), lt_, nI_clamp (show (Q.chs v n ++ st).length < 2 ^ 31 by omega), lt_, nI_1, lt_, e2]
              have s1 : Same [(37, 0)] T (put T 37 0 (Q.chs v n ++ st).length (nI u)) := Same.rf.put (by simp)
              have f1 : FrJ T (put T 37 0 (Q.chs v n ++ st).length (nI u)) := ⟨s1.mono (by decide), fun j _ => by rw [put_o rfl]⟩
              obtain ⟨T', a1, a2, a3⟩ := ih (n + 1) (put T 37 0 (Q.chs v n ++ st).length (nI u)) (by omega) (by omega) (hE.frJ f1) (hb.same f1.1) (by
                rw [hc, List.cons_append]
                exact ⟨put_self _ _ _ _ _, hst.cg (fun j hj => put_j (by omega))⟩)
              rw [hc] at a1
              exact ⟨T', a1, s1.tr a2, a3⟩
/-- the walk below one root -/
theorem m_ins75 {Q : Cq} (h : Q.ok) {w R : Nat} (hw : w ≤ 1) (K : St → Int32 → Int32 → Int32 → Option (Int32 × St)) (x4 : Int32) : ∀ (n F : Nat) (st dn : List Nat) (T : St), 161 ≤ n + dn.length → n < F → Q.Iv R st dn → Q.eM T → Q.bM w T → Q.lsM dn T → HS st (T 37 0) → ∃ T', l_X9_instances_75 K F T (nI (200 * w)) (Q.asm dn) x4 (nI st.length) = K T' (nI (200 * w)) (Q.asm (dfs Q.ch n st dn)) x4 ∧ Q.lsM (dfs Q.ch n st dn) T' ∧ FrJ T T'
  | 0, F, st, dn, T, hn, _, hi, _, _, _, _ => by
    have := hi.len h
    omega
  | n + 1, F, [], dn, T, hn, hF, hi, hE, hb, hl, hst => by
    obtain ⟨F, rfl⟩ : ∃ F', F = F' + 1 := ⟨F - 1, by omega⟩
    rw [show l_X9_instances_75 K (F + 1) = b_X9_instances_75 (l_X9_instances_75 K F) K from rfl]
    unfold b_X9_instances_75
    rw [if_pos (show nI ([] : List Nat).length ≤ 0 from by decide)]
    exact ⟨T, rfl, hl, FrJ.rf⟩
  | n + 1, F, v :: st, dn, T, hn, hF, hi, hE, hb, hl, hst => by
    obtain ⟨F, rfl⟩ : ∃ F', F = F' + 1 := ⟨F - 1, by omega⟩
    rw [show l_X9_instances_75 K (F + 1) = b_X9_instances_75 (l_X9_instances_75 K F) K from rfl]
    unfold b_X9_instances_75
    have hg := h.2.1
    have hlen := hi.len h
    have hlen' : st.length + 1 + dn.length ≤ 160 := hlen
    obtain ⟨hs1, hs2⟩ := hi.stp h
    have hlen2 := hs1.len h
    obtain ⟨kk, hkk⟩ := (hi.2.1 v (by simp)).1
    obtain ⟨va, vb, -⟩ := Q.D_m h kk v hkk
    obtain ⟨d, tt, c1, c2, c3, c4, c5, c6, c7, c8⟩ := Q.has_m h va vb
    have hL := h.2.2.1
    have c20 : d < 20 := by have := hL.1; omega
    obtain ⟨l1, l2, l3⟩ := hl
    have hnm : dn.contains v = false := by
      have := hi.1
      rw [List.cons_append, List.nodup_cons] at this
      simp only [List.contains_eq_mem]
      simp
      exact fun q => this.1 (List.mem_append_right _ q)
    have hix : ix (nI v) 200 = true := ix_nI (by omega) (by decide)
    have hcl : (nI v).toNatClampNeg = v := nI_clamp (by omega)
    rw [if_neg (show ¬ nI (v :: st).length ≤ 0 from nI_nle (by simp) (by simp; omega)), lt_, show (v :: st).length = st.length + 1 from rfl, pk_m1, gd_t (ix_nI (show st.length < 1400 by omega) (by decide)), lt_, nI_clamp (show st.length < 2 ^ 31 by omega), hst.1, gd_t hix, lt_, hcl, l3 v va, hnm, if_pos (show b01 false = 0 from rfl), gd_t hix, lt_, nz_1]
    have p1 : put T 36 0 v 1 0 0 = T 0 0 := put_o rfl
    rw [p1, l1, gd_t (ix_nI (show dn.length < 200 by omega) (by decide)), lt_, nI_clamp (show dn.length < 2 ^ 31 by omega)]
    have p2 : put (put T 36 0 v 1) 35 0 dn.length (nI v) 0 0 = T 0 0 := by rw [put_o rfl, p1]
    rw [lt_, p2, l1, nI_1]
    generalize hT1 : put (put (put T 36 0 v 1) 35 0 dn.length (nI v)) 0 0 46 (nI (dn.length + 1)) = T1
    have f1 : FrJ T T1 := ⟨by rw [← hT1]; exact ((Same.rf.put (by decide)).put (by decide)).put (by decide), fun j hj => by rw [← hT1, put_j hj, p2]⟩
    have hE1 := hE.frJ f1
    have hb1 := hb.same f1.1
    have q33 : T1 33 0 (200 * w + v) = nI d := by rw [(hb1 v va).2.2.2.1]; exact c4
    have q17 : T1 17 0 d = (Q.lib d).1 := (hE1.2.2.2.2.2.2 d c1).2.1
    rw [nI_add, gd_t (ix_nI (show 200 * w + v < 400 by omega) (by decide)), lt_, nI_clamp (show 200 * w + v < 2 ^ 31 by omega), q33, gd_t (ix_nI c20 (by decide)), lt_, nI_clamp (show d < 2 ^ 31 by omega), q17, lt_]
    have hasm : Q.asm dn + (Q.lib d).1 = Q.asm (v :: dn) := by rw [Cq.asm, c4, nI_clamp (show d < 2 ^ 31 by omega)]
    rw [hasm]
    have r37 : T1 37 0 = T 37 0 := by rw [← hT1, put_o rfl, put_o rfl, put_o rfl]
    obtain ⟨T2, b1, b2, b3⟩ := m_pushI h hw va vb (fun S x2 x3 x4 x5 => j_X9_instances_218 (l_X9_instances_75 K F) K S x2 x3 x4 x5) (Q.asm (v :: dn)) x4 st (by simp only [List.length_cons] at hlen2; omega) 5000 0 T1 (by omega) (by omega) hE1 hb1 (by
      show HS st (T1 37 0)
      rw [r37]; exact hst.2)
    have b1 : l_X9_instances_151 (fun S x2 x3 x4 x5 => j_X9_instances_218 (l_X9_instances_75 K F) K S x2 x3 x4 x5) 5000 T1 (nI (200 * w)) (Q.asm (v :: dn)) x4 (nI st.length) (nI v) 5 = _ := b1
    rw [b1]
    unfold j_X9_instances_218
    have f2 : FrJ T1 T2 := ⟨b2.mono (by decide), fun j _ => by rw [b2 0 0 (by decide)]⟩
    obtain ⟨T', d1, d2, d3⟩ := m_ins75 h hw K x4 n F (Q.ch v ++ st) (v :: dn) T2 (by simp; omega) (by omega) hs1 (hE1.frJ f2) (hb1.same f2.1) (by
      refine ⟨by rw [b2 0 0 (by decide), ← hT1, put_self]; rfl, ⟨?_, ?_⟩, fun u hu => ?_⟩
      · rw [b2 35 0 (by decide), ← hT1, put_o rfl, put_self]
      · refine l2.cg (fun j hj => ?_)
        rw [b2 35 0 (by decide), ← hT1, put_o rfl, put_j (by omega), put_o rfl]
      · rw [b2 36 0 (by decide), ← hT1, put_o rfl, put_o rfl, put_jj]
        by_cases e : u = v
        · rw [if_pos e, e]; simp [b01]
        · rw [if_neg e, l3 u hu]
          simp [e]) b3
    exact ⟨T', d1, d2, (f1.tr f2).tr d3⟩
theorem m_ins16 {n : Nat} (hn : n ≤ 160) (K : St → Int32 → Int32 → Option (Int32 × St)) (x2 x3 : Int32) : ∀ (f x : Nat) (T : St), T 0 0 11 = nI n → x ≤ n → n - x < f → (∀ v, v < x → T 36 0 v = 0) → ∃ T', l_X9_instances_16 K f T x2 x3 (nI x) = K T' x2 x3 ∧ Same [(36, 0)] T T' ∧ ∀ v, v < n → T' 36 0 v = 0 := by
  intro f
  induction f with
  | zero => intro x T _ _ h; exact absurd h (by omega)
  | succ f ih =>
    intro x T h1 hx hf h
    rw [show l_X9_instances_16 K (f + 1) = b_X9_instances_16 (l_X9_instances_16 K f) K from rfl]
    unfold b_X9_instances_16
    rw [h1]
    by_cases e : x = n
    · subst e
      rw [if_pos (nI_le (Nat.le_refl _) (by omega))]
      exact ⟨T, rfl, Same.rf, h⟩
    · rw [if_neg (nI_ge (show x < n by omega) (by omega)), gd_t (ix_nI (show x < 200 by omega) (by decide)), lt_, lt_, nI_clamp (show x < 2 ^ 31 by omega), nI_1, nz_0]
      obtain ⟨T', a1, a2, a3⟩ := ih (x + 1) (put T 36 0 x 0) (by rw [put_o rfl]; exact h1) (by omega) (by omega) (fun j hj => by
        rw [put_jj]
        by_cases z : j = x
        · rw [if_pos z]
        · rw [if_neg z]; exact h j (by omega))
      exact ⟨T', a1, (Same.rf.put (by simp)).tr a2, a3⟩
theorem m_ins42 {Q : Cq} (h : Q.ok) {w : Nat} (hw : w ≤ 1) : ∀ (f r : Nat) (T : St), r ≤ Q.g.1 → Q.g.1 - r < f → Q.eM T → Q.bM w T → Q.lsM (Q.dal r) T → ∃ T', l_X9_instances_42 f T (nI (200 * w)) (Q.asm (Q.dal r)) (nI r) = some (Q.asm (Q.dal Q.g.1), T') ∧ Q.lsM (Q.dal Q.g.1) T' ∧ FrJ T T' := by
  have hg := h.2.1
  intro f
  induction f with
  | zero => intro r T _ hf; exact absurd hf (by omega)
  | succ f ih =>
    intro r T hr hf hE hb hl
    rw [show l_X9_instances_42 (f + 1) = b_X9_instances_42 (l_X9_instances_42 f) from rfl]
    unfold b_X9_instances_42
    rw [hE.2.2.1.1]
    by_cases e : r = Q.g.1
    · rw [e, if_pos (nI_le (Nat.le_refl _) (by omega))]
      exact ⟨T, rfl, by rw [← e]; exact hl, FrJ.rf⟩
    · have hlt : r < Q.g.1 := by omega
      have r14 : T 14 0 r = b01 (Q.rt r) := (hE.2.2.2.1 r hlt).2.2
      rw [if_neg (nI_ge hlt (by omega)), gd_t (ix_nI (show r < 200 by omega) (by decide)), lt_, nI_clamp (show r < 2 ^ 31 by omega), r14]
      obtain ⟨⟨a, b⟩, c⟩ := Q.dal_ok h r (by omega)
      cases hq : Q.rt r with
      | false =>
        rw [if_pos (show b01 false = 0 from rfl)]
        rw [show l_X9_instances_75 (fun S x2 x3 x4 => lt_ (x4 + 1) (fun v_42 => l_X9_instances_42 f S x2 x3 v_42)) 5000 = b_X9_instances_75 (l_X9_instances_75 (fun S x2 x3 x4 => lt_ (x4 + 1) (fun v_42 => l_X9_instances_42 f S x2 x3 v_42)) 4999) (fun S x2 x3 x4 => lt_ (x4 + 1) (fun v_42 => l_X9_instances_42 f S x2 x3 v_42)) from rfl]
        unfold b_X9_instances_75
        rw [if_pos (show (0 : Int32) ≤ 0 from by decide)]
        show ∃ T', l_X9_instances_42 f T (nI (200 * w)) (Q.asm (Q.dal r)) (nI r + 1) = _ ∧ _
        rw [nI_1]
        have hd : Q.dal (r + 1) = Q.dal r := by rw [Cq.dal, hq]; rfl
        have := ih (r + 1) T (by omega) (by omega) hE hb (by rw [hd]; exact hl)
        rw [hd] at this
        exact this
      | true =>
        rw [if_neg (show ¬ b01 true = 0 from by decide), gd_t (show ix 0 1400 = true from by decide), lt_, show (0 : Int32).toNatClampNeg = 0 from by decide]
        have hi : Q.Iv r [r] (Q.dal r) := by
          refine ⟨?_, fun x hx => ?_, fun v hv u hu => ?_⟩
          · rw [List.singleton_append, List.nodup_cons]
            exact ⟨fun hm => by have := b r hm hq; omega, a.1⟩
          · rcases List.mem_append.mp hx with hx | hx
            · have e : x = r := by simpa using hx
              subst e
              exact ⟨⟨0, by omega, hq⟩, fun _ => Nat.le_refl _, fun q => (by rw [hq] at q; cases q)⟩
            · exact a.2.1 x hx
          · exact List.mem_append_right _ (a.2.2 v hv u hu)
        have f1 : FrJ T (put T 37 0 0 (nI r)) := ⟨Same.rf.put (by decide), fun j _ => by rw [put_o rfl]⟩
        obtain ⟨T1, a1, a2, a3⟩ := m_ins75 h (R := r) hw (fun S x2 x3 x4 => lt_ (x4 + 1) (fun v_45 => l_X9_instances_42 f S x2 x3 v_45)) (nI r) 200 5000 [r] (Q.dal r) (put T 37 0 0 (nI r)) (by omega) (by omega) hi (hE.frJ f1) (hb.same f1.1) ⟨by rw [put_o rfl]; exact hl.1, by rw [put_o rfl]; exact hl.2.1, by rw [put_o rfl]; exact hl.2.2⟩ ⟨by rw [put_jj]; simp, trivial⟩
        have a1 : l_X9_instances_75 _ 5000 (put T 37 0 0 (nI r)) (nI (200 * w)) (Q.asm (Q.dal r)) (nI r) 1 = _ := a1
        rw [a1, lt_, nI_1]
        have f2 := f1.tr a3
        have hd : Q.dal (r + 1) = dfs Q.ch 200 [r] (Q.dal r) := by rw [Cq.dal, hq]; rfl
        obtain ⟨T', b1, b2, b3⟩ := ih (r + 1) T1 (by omega) (by omega) (hE.frJ f2) (hb.same f2.1) (by rw [hd]; exact a2)
        rw [hd] at b1
        exact ⟨T', b1, b2, f2.tr b3⟩
theorem m_insts {Q : Cq} (h : Q.ok) {w : Nat} (hw : w ≤ 1) {T : St} (hE : Q.eM T) (hb : Q.bM w T) : ∃ T', f_X9_instances (nI w) T = some (Q.asm (Q.dal Q.g.1), T') ∧ Q.lsM (Q.dal Q.g.1) T' ∧ FrJ T T' := by
  unfold f_X9_instances
  have hg := h.2.1
  rw [lt_, lt_, show (200 : Int32) * nI w = nI (200 * w) from pk_mul 200 w]
  have f0 : FrJ T (put T 0 0 46 0) := ⟨Same.rf.put (by decide), fun j hj => put_j hj⟩
  have hE0 := hE.frJ f0
  obtain ⟨T1, a1, a2, a3⟩ := m_ins16 hg (fun S x2 x3 => l_X9_instances_42 5000 S x2 x3 0) (nI (200 * w)) 0 5000 0 (put T 0 0 46 0) hE0.2.2.1.1 (by omega) (by omega) (fun v hv => absurd hv (by omega))
  have a1 : l_X9_instances_16 (fun S x2 x3 => l_X9_instances_42 5000 S x2 x3 0) 5000 (put T 0 0 46 0) (nI (200 * w)) 0 0 = _ := a1
  rw [a1]
  have f1 : FrJ (put T 0 0 46 0) T1 := ⟨a2.mono (by decide), fun j _ => by rw [a2 0 0 (by decide)]⟩
  obtain ⟨T', b1, b2, b3⟩ := m_ins42 h hw 5000 0 T1 (by omega) (by omega) (hE0.frJ f1) ((hb.same f0.1).same f1.1) ⟨by rw [a2 0 0 (by decide), put_self]; rfl, trivial, fun v hv => by rw [a3 v hv]; simp [Cq.dal, b01]⟩
  exact ⟨T', b1, b2, (f0.tr f1).tr b3⟩
