/-! The class: listInstances -/
def Cq.lsC (Q : Cq) (t : Nat) (dn : List Nat) (S : St) : Prop := S 6 t 11 = nI dn.length ∧ HS dn (S 31 t) ∧ (∀ v, v < Q.g.1 → S 32 t v = b01 (dn.contains v)) ∧ S 6 t 12 = Q.asm dn
def exI (t : Nat) : List (Nat × Nat) := [(6, t), (31, t), (32, t), (33, t)]
theorem exI_E (t : Nat) : ∀ q ∈ exI t, q.1 ∉ ksE := by simp [exI, ksE]
/-- the best rows, all of them -/
def Cq.bC (Q : Cq) (t : Nat) (S : St) : Prop := ∀ u, u < Q.g.1 → rB t S u (Q.bs Q.g.1 u)
theorem Cq.bC.same {Q : Cq} {t : Nat} {S S' : St} (h : Q.bC t S) (s : Same (exI t) S S') : Q.bC t S' := fun u hu => (h u hu).eB (eB.of (fun k hk => s k t (by rcases hk with rfl | rfl | rfl | rfl <;> simp [exI])))
theorem c_addIn {Q : Cq} (h : Q.ok) {t R v : Nat} {st dn : List Nat} {S : St} (hE : Q.eC S) (hb : Q.bC t S) (hi : Q.Iv R (v :: st) dn) (hl : Q.lsC t dn S) : ∃ S', f_X1_addInstance t (nI v) S = some S' ∧ Q.lsC t (v :: dn) S' ∧ Same [(6, t), (31, t), (32, t)] S S' ∧ ∀ j, j ≠ 11 → j ≠ 12 → S' 6 t j = S 6 t j := by
  obtain ⟨l1, l2, l3, l4⟩ := hl
  obtain ⟨k, hk⟩ := (hi.2.1 v (by simp)).1
  obtain ⟨va, vb, -⟩ := Q.D_m h k v hk
  obtain ⟨d, tt, c1, c2, c3, c4, c5, c6, c7, c8⟩ := Q.has_m h va vb
  have hlen := hi.len h
  have hg := h.2.1
  have hL := h.2.2.1
  simp only [List.length_cons] at hlen
  have c20 : d < 20 := by have := hL.1; omega
  have hnm : dn.contains v = false := by
    have := hi.1
    rw [List.cons_append, List.nodup_cons] at this
    simp only [List.contains_eq_mem]
    simp
    exact fun q => this.1 (List.mem_append_right _ q)
  have hix : ix (nI v) 160 = true := ix_nI (by omega) (by decide)
  have hcl : (nI v).toNatClampNeg = v := nI_clamp (by omega)
  have r29 : S 29 t v = nI d := by rw [(hb v va).1]; exact c4
  have hhas : f_X3_has (nI d) S = some (b01 true, S) := by
    have := c_has hE.2.2.2.2.1.1 hE.2.2.2.2.2 (nI d)
    rw [inR_nI (by omega), nI_clamp (show d < 2 ^ 31 by omega), decide_eq_true c1, c2] at this
    exact this
  unfold f_X1_addInstance
  rw [gd_t hix, lt_, hcl, l3 v va, hnm, if_pos (show b01 false = 0 from rfl), l1, if_neg (show ¬ (160 : Int32) ≤ nI dn.length from nI_ge (b := 160) (by omega) (by decide)), gd_t hix, lt_, r29, bi_e hhas, if_neg (show ¬ b01 true = 0 from by decide), gd_t hix, lt_, nz_1]
  have p1 : put S 32 t v 1 6 t = S 6 t := put_ne (by omega)
  rw [p1, l1, gd_t (ix_nI (show dn.length < 160 by omega) (by decide)), lt_, nI_clamp (show dn.length < 2 ^ 31 by omega)]
  have p2 : put (put S 32 t v 1) 31 t dn.length (nI v) 6 t = S 6 t := by rw [put_ne (by omega), p1]
  rw [lt_, p2, l1, nI_1, gd_t hix, lt_]
  generalize hS3 : put (put (put S 32 t v 1) 31 t dn.length (nI v)) 6 t 11 (nI (dn.length + 1)) = S3
  have s3 : Same [(6, t), (31, t), (32, t)] S S3 := by rw [← hS3]; exact ((Same.rf.put (by simp)).put (by simp)).put (by simp)
  have q29 : S3 29 t v = nI d := by rw [s3 29 t (by simp)]; exact r29
  have q12 : S3 6 t 12 = Q.asm dn := by rw [← hS3, put_j (by decide), p2]; exact l4
  have q8 : S3 8 d 4 = (Q.lib d).1 := by rw [s3 8 d (by simp)]; exact (hE.2.2.2.2.2.2 d c1).2.1
  rw [q29, gd_t (ix_nI c20 (by decide)), lt_, nI_clamp (show d < 2 ^ 31 by omega), q12, q8]
  refine ⟨_, rfl, ⟨?_, ⟨?_, ?_⟩, fun u hu => ?_, ?_⟩, s3.put (by simp), fun j j1 j2 => ?_⟩
  · rw [put_j (by decide), ← hS3, put_self]; rfl
  · rw [put_ne (by omega), ← hS3, put_ne (by omega), put_self]
  · refine l2.cg (fun j hj => ?_)
    rw [put_ne (by omega), ← hS3, put_ne (by omega), put_j (by omega), put_ne (by omega)]
  · rw [put_ne (by omega), ← hS3, put_ne (by omega), put_ne (by omega), put_jj]
    by_cases e : u = v
    · rw [if_pos e, e]; simp [b01]
    · rw [if_neg e, l3 u hu]
      simp [e]
  · rw [put_self, Cq.asm, c4, nI_clamp (show d < 2 ^ 31 by omega)]
  · rw [put_j j2, ← hS3, put_j j1, p2]
theorem c_pinOf {Q : Cq} {t v p : Nat} {S : St} (hb : Q.bC t S) (hv : v < Q.g.1) (hg : Q.g.1 ≤ 160) (h4 : (Q.bs Q.g.1 v).1 ≠ -4) (hp : p < 6) : f_X1_pinOf t (nI v) (nI p) S = some (Q.P v p, S) := by
  unfold f_X1_pinOf j_X1_pinOf_27
  obtain ⟨b1, b2, b3, b4⟩ := hb v hv
  rw [gd_t (ix_nI (show v < 160 by omega) (by decide)), lt_, nI_clamp (show v < 2 ^ 31 by omega), b1, if_neg h4, show nI v * 6 + nI p = nI (v * 6 + p) from by rw [show (6 : Int32) = nI 6 from rfl, pk_mul, nI_add], gd_t (ix_nI (show v * 6 + p < 960 by omega) (by decide)), lt_, nI_clamp (show v * 6 + p < 2 ^ 31 by omega), b4 h4 p hp]
  rfl
/-- the PINs of v are pushed -/
theorem c_push {Q : Cq} (h : Q.ok) {t v : Nat} (hv : v < Q.g.1) (h4 : (Q.bs Q.g.1 v).1 ≠ -4) (dn : List Nat) (hnew : ∀ u ∈ Q.ch v, u ∉ dn) (K : St → Int32 → Int32 → Option St) (x3 : Int32) (st : List Nat) (hroom : (Q.ch v ++ st).length ≤ 159) : ∀ (f n : Nat) (S : St), n ≤ 6 → 6 - n < f → Q.eC S → Q.bC t S → (∀ v, v < Q.g.1 → S 32 t v = b01 (dn.contains v)) → HS (Q.chs v n ++ st) (S 33 t) → ∃ S', l_X1_listBeneath_42 t K f S (nI (Q.chs v n ++ st).length) x3 (nI v) (nI (6 - n) - 1) = K S' (nI (Q.ch v ++ st).length) x3 ∧ Same [(33, t)] S S' ∧ HS (Q.ch v ++ st) (S' 33 t) := by
  have hg := h.2.1
  have mono : ∀ n, n ≤ 6 → (Q.chs v n).length ≤ (Q.ch v).length := by
    intro n
    have st1 : ∀ k, (Q.chs v k).length ≤ (Q.chs v (k + 1)).length := fun k => by
      rw [Cq.chs]; split
      · simp
      · exact Nat.le_refl _
    have : ∀ j, (Q.chs v n).length ≤ (Q.chs v (n + j)).length := fun j => by
      induction j with
      | zero => exact Nat.le_refl _
      | succ j ih => exact Nat.le_trans ih (st1 (n + j))
    intro hn
    have := this (6 - n)
    rw [show n + (6 - n) = 6 from by omega] at this
    exact this
  intro f
  induction f with
  | zero => intro n S _ hf; exact absurd hf (by omega)
  | succ f ih =>
    intro n S hn hf hE hb h32 hst
    rw [show l_X1_listBeneath_42 t K (f + 1) = b_X1_listBeneath_42 t (l_X1_listBeneath_42 t K f) K from rfl]
    unfold b_X1_listBeneath_42
    by_cases e : n = 6
    · subst e
      rw [if_pos (show nI (6 - 6) - 1 < 0 from by decide)]
      exact ⟨S, rfl, Same.rf, hst⟩
    · have e1 : nI (6 - n) - 1 = nI (5 - n) := by rw [nI_s1 (by omega)]; congr 1; omega
      have e2 : nI (5 - n) + (-1) = nI (6 - (n + 1)) - 1 := by
        rw [show 6 - (n + 1) = 5 - n from by omega]
        rw [Int32.sub_eq_add_neg]
      rw [e1, if_neg (nI_pos (show 5 - n < 2 ^ 31 by omega)), bi_e (c_pinOf hb hv hg h4 (show 5 - n < 6 by omega))]
      unfold j_X1_listBeneath_91
      have go : Q.inP (Q.P v (5 - n)) = false → ∃ S', lt_ (nI (5 - n) + (-1)) (fun v_15 => l_X1_listBeneath_42 t K f S (nI (Q.chs v n ++ st).length) x3 (nI v) v_15) = K S' (nI (Q.ch v ++ st).length) x3 ∧ Same [(33, t)] S S' ∧ HS (Q.ch v ++ st) (S' 33 t) := fun hz => by
        rw [lt_, e2]
        have hc : Q.chs v (n + 1) = Q.chs v n := by rw [Cq.chs, hz]; rfl
        have := ih (n + 1) S (by omega) (by omega) hE hb h32 (by rw [hc]; exact hst)
        rw [hc] at this
        exact this
      by_cases y : Q.P v (5 - n) = -4
      · rw [if_pos y]
        exact go (by unfold Cq.inP; rw [y]; rfl)
      · rw [if_neg y]
        obtain ⟨d, tt, c1, c2, c3, c4, c5, c6, c7, c8⟩ := Q.has_m h hv h4
        rcases c8 (5 - n) (by omega) with z | ⟨u, u1, u2, u3, u4⟩
        · exact absurd z y
        · have ug : u < Q.g.1 := by omega
          have hix : ix (nI u) 160 = true := ix_nI (by omega) (by decide)
          have hcl : (nI u).toNatClampNeg = u := nI_clamp (by omega)
          have e0 : (nI (Q.g.2 u).1 = 0) ↔ ((Q.g.2 u).1 = 0) := Eq.to_iff (nI_inj (b := 0) (by have := (h.1 u ug).1; omega) (by decide))
          have hin : f_X1_isInside t (nI u) S = some (b01 (Q.inP (nI u)), S) := by
            unfold f_X1_isInside j_X1_isInside_37 j_X1_isInside_38
            have r14 : S 14 0 u = b01 (Q.rt u) := (hE.2.2.2.1 u ug).2.2
            rw [gd_t hix, lt_, hcl, (hE.2.2.1.2 u ug).1, gd_t hix, lt_, r14, gd_t hix, lt_, h32 u ug, gd_t (show bz 0 = true from by decide), gd_t (show bz 1 = true from by decide)]
            unfold Cq.inP
            rw [m4_nI (by omega), hcl]
            by_cases f0 : (Q.g.2 u).1 = 0
            · rw [if_pos (e0.mpr f0)]; simp [f0, b01]
            · rw [if_neg (fun q => f0 (e0.mp q))]
              cases hr : Q.rt u with
              | true => rw [if_neg (show ¬ b01 true = 0 from by decide)]; simp [b01]
              | false =>
                have hm : dn.contains u = false := by
                  have : u ∈ Q.ch v := by
                    have := Q.chs_i (v := v) (p := 5 - n) (by unfold Cq.inP; rw [u3, m4_nI (by omega), hcl, hr]; simp [f0]) (n := 6) (Nat.le_refl 6) (by omega) (by omega)
                    rw [u3, hcl] at this
                    exact this
                  have := hnew u this
                  simpa using this
                rw [if_pos (show b01 false = 0 from rfl), hm, if_pos (show b01 false = 0 from rfl)]
                simp [f0, b01]
          rw [u3] at go ⊢
          rw [bi_e hin]
          cases hz : Q.inP (nI u) with
          | false => rw [if_pos (show b01 false = 0 from rfl)]; exact go hz
          | true =>
            have hc : Q.chs v (n + 1) = u :: Q.chs v n := by rw [Cq.chs, u3, hz, hcl]; rfl
            have hml := mono (n + 1) (by omega)
            have hlen : (Q.chs v n ++ st).length < 160 := by
              rw [hc] at hml
              simp only [List.length_append, List.length_cons] at hml hroom ⊢
              omega
            rw [if_neg (show ¬ b01 true = 0 from by decide), if_neg (show ¬ (160 : Int32) ≤ nI (Q.chs v n ++ st).length from nI_ge (b := 160) hlen (by decide)), gd_t (ix_nI hlen (by decide)), lt_, nI_clamp (show (Q.chs v n ++ st).length < 2 ^ 31 by omega), lt_, nI_1, lt_, e2]
            have s1 : Same [(33, t)] S (put S 33 t (Q.chs v n ++ st).length (nI u)) := Same.rf.put (by simp)
            have hE1 := hE.same s1 (by simp [ksE])
            obtain ⟨S', a1, a2, a3⟩ := ih (n + 1) (put S 33 t (Q.chs v n ++ st).length (nI u)) (by omega) (by omega) hE1 (hb.same (s1.mono (by simp [exI]))) (fun w hw => by rw [put_ne (by omega)]; exact h32 w hw) (by
              rw [hc, List.cons_append]
              exact ⟨put_self _ _ _ _ _, hst.cg (fun j hj => put_j (by omega))⟩)
            rw [hc] at a1
            exact ⟨S', a1, s1.tr a2, a3⟩
/-- listBeneath -/
theorem c_lbl {Q : Cq} (h : Q.ok) {t R : Nat} : ∀ (n F k : Nat) (st dn : List Nat) (S : St), 161 ≤ n + dn.length → n < F → k ≤ dn.length → Q.Iv R st dn → Q.eC S → Q.bC t S → Q.lsC t dn S → HS st (S 33 t) → ∃ S', l_X1_listBeneath_11 t F S (nI st.length) (nI k) = some S' ∧ Q.lsC t (dfs Q.ch n st dn) S' ∧ Same (exI t) S S' ∧ ∀ j, j ≠ 11 → j ≠ 12 → S' 6 t j = S 6 t j
  | 0, F, k, st, dn, S, hn, _, _, hi, _, _, _, _ => by
    have := hi.len h
    omega
  | n + 1, F, k, [], dn, S, hn, hF, hk, hi, hE, hb, hl, hst => by
    obtain ⟨F, rfl⟩ : ∃ F', F = F' + 1 := ⟨F - 1, by omega⟩
    rw [show l_X1_listBeneath_11 t (F + 1) = b_X1_listBeneath_11 t (l_X1_listBeneath_11 t F) from rfl]
    unfold b_X1_listBeneath_11
    rw [if_pos (show nI ([] : List Nat).length ≤ 0 from by decide)]
    refine ⟨S, ?_, hl, Same.rf, fun _ _ _ => rfl⟩
    split <;> rfl
  | n + 1, F, k, v :: st, dn, S, hn, hF, hk, hi, hE, hb, hl, hst => by
    obtain ⟨F, rfl⟩ : ∃ F', F = F' + 1 := ⟨F - 1, by omega⟩
    rw [show l_X1_listBeneath_11 t (F + 1) = b_X1_listBeneath_11 t (l_X1_listBeneath_11 t F) from rfl]
    unfold b_X1_listBeneath_11
    have hlen := hi.len h
    have hlen' : st.length + 1 + dn.length ≤ 160 := hlen
    obtain ⟨hs1, hs2⟩ := hi.stp h
    have hlen2 := hs1.len h
    obtain ⟨kk, hkk⟩ := (hi.2.1 v (by simp)).1
    obtain ⟨va, vb, -⟩ := Q.D_m h kk v hkk
    rw [if_neg (show ¬ (160 : Int32) ≤ nI k from nI_ge (b := 160) (by omega) (by decide)), if_neg (show ¬ nI (v :: st).length ≤ 0 from nI_nle (by simp) (by simp; omega)), lt_, show (v :: st).length = st.length + 1 from rfl, pk_m1, gd_t (ix_nI (show st.length < 160 by omega) (by decide)), lt_, nI_clamp (show st.length < 2 ^ 31 by omega), hst.1]
    obtain ⟨S1, a1, a2, a3, a4⟩ := c_addIn h hE hb hi hl
    rw [bv_e a1]
    have s1 : Same (exI t) S S1 := a3.mono (by simp [exI])
    have hE1 := hE.same s1 (exI_E t)
    have hb1 := hb.same s1
    obtain ⟨S2, b1, b2, b3⟩ := c_push h (t := t) va vb (v :: dn) hs2 (fun S x2 x3 => lt_ (x3 + 1) (fun v_24 => l_X1_listBeneath_11 t F S x2 v_24)) (nI k) st (by simp only [List.length_cons] at hlen2; omega) 5000 0 S1 (by omega) (by omega) hE1 hb1 a2.2.2.1 (by
      show HS st (S1 33 t)
      rw [a3 33 t (by simp)]; exact hst.2)
    have b1 : l_X1_listBeneath_42 t (fun S x2 x3 => lt_ (x3 + 1) (fun v_24 => l_X1_listBeneath_11 t F S x2 v_24)) 5000 S1 (nI st.length) (nI k) (nI v) 5 = _ := b1
    rw [b1, lt_, nI_1]
    have s2 : Same (exI t) S1 S2 := b2.mono (by simp [exI])
    obtain ⟨S', c1, c2, c3, c4⟩ := c_lbl h n F (k + 1) (Q.ch v ++ st) (v :: dn) S2 (by simp; omega) (by omega) (by simp; omega) hs1 (hE1.same s2 (exI_E t)) (hb1.same s2) (by
      obtain ⟨l1, l2, l3, l4⟩ := a2
      have r := fun k (hk : (k, t) ∉ [(33, t)]) => b2 k t hk
      exact ⟨by rw [r 6 (by simp)]; exact l1, by rw [r 31 (by simp)]; exact l2, by rw [r 32 (by simp)]; exact l3, by rw [r 6 (by simp)]; exact l4⟩) b3
    refine ⟨S', c1, c2, (s1.tr s2).tr c3, fun j j1 j2 => ?_⟩
    rw [c4 j j1 j2, b2 6 t (by simp), a4 j j1 j2]
theorem c_li12 {n : Nat} (hn : n ≤ 160) (t : Nat) (K : St → Option St) : ∀ (f x : Nat) (S : St), S 1 0 6 = nI n → x ≤ n → n - x < f → (∀ v, v < x → S 32 t v = 0) → ∃ S', l_X1_listInstances_12 t K f S (nI x) = K S' ∧ Same [(32, t)] S S' ∧ ∀ v, v < n → S' 32 t v = 0 := by
  intro f
  induction f with
  | zero => intro x S _ _ h; exact absurd h (by omega)
  | succ f ih =>
    intro x S h1 hx hf h
    rw [show l_X1_listInstances_12 t K (f + 1) = b_X1_listInstances_12 t (l_X1_listInstances_12 t K f) K from rfl]
    unfold b_X1_listInstances_12
    rw [h1]
    by_cases e : x = n
    · subst e
      rw [if_pos (nI_le (Nat.le_refl _) (by omega))]
      exact ⟨S, rfl, Same.rf, h⟩
    · rw [if_neg (nI_ge (show x < n by omega) (by omega)), gd_t (ix_nI (show x < 160 by omega) (by decide)), lt_, lt_, nI_clamp (show x < 2 ^ 31 by omega), nI_1, nz_0]
      obtain ⟨S', a1, a2, a3⟩ := ih (x + 1) (put S 32 t x 0) (by rw [put_ne (by omega)]; exact h1) (by omega) (by omega) (fun j hj => by
        rw [put_jj]
        by_cases z : j = x
        · rw [if_pos z]
        · rw [if_neg z]; exact h j (by omega))
      exact ⟨S', a1, (Same.rf.put (by simp)).tr a2, a3⟩
theorem c_li38 {Q : Cq} (h : Q.ok) {t : Nat} : ∀ (f r : Nat) (S : St), r ≤ Q.g.1 → Q.g.1 - r < f → Q.eC S → Q.bC t S → Q.lsC t (Q.dal r) S → ∃ S', l_X1_listInstances_38 t f S (nI r) = some S' ∧ Q.lsC t (Q.dal Q.g.1) S' ∧ Same (exI t) S S' ∧ ∀ j, j ≠ 11 → j ≠ 12 → S' 6 t j = S 6 t j := by
  have hg := h.2.1
  intro f
  induction f with
  | zero => intro r S _ hf; exact absurd hf (by omega)
  | succ f ih =>
    intro r S hr hf hE hb hl
    rw [show l_X1_listInstances_38 t (f + 1) = b_X1_listInstances_38 t (l_X1_listInstances_38 t f) from rfl]
    unfold b_X1_listInstances_38
    rw [hE.2.2.1.1]
    by_cases e : r = Q.g.1
    · rw [e, if_pos (nI_le (Nat.le_refl _) (by omega))]
      exact ⟨S, rfl, by rw [← e]; exact hl, Same.rf, fun _ _ _ => rfl⟩
    · have hlt : r < Q.g.1 := by omega
      have r14 : S 14 0 r = b01 (Q.rt r) := (hE.2.2.2.1 r hlt).2.2
      unfold j_X1_listInstances_66
      rw [if_neg (nI_ge hlt (by omega)), gd_t (ix_nI (show r < 160 by omega) (by decide)), lt_, nI_clamp (show r < 2 ^ 31 by omega), r14]
      cases hq : Q.rt r with
      | false =>
        rw [if_pos (show b01 false = 0 from rfl), lt_, nI_1]
        exact ih (r + 1) S (by omega) (by omega) hE hb (by rw [Cq.dal, hq]; exact hl)
      | true =>
        rw [if_neg (show ¬ b01 true = 0 from by decide)]
        obtain ⟨⟨a, b⟩, c⟩ := Q.dal_ok h r (by omega)
        have hi : Q.Iv r [r] (Q.dal r) := by
          refine ⟨?_, fun x hx => ?_, fun v hv u hu => ?_⟩
          · rw [List.singleton_append, List.nodup_cons]
            exact ⟨fun hm => by have := b r hm hq; omega, a.1⟩
          · rcases List.mem_append.mp hx with hx | hx
            · have e : x = r := by simpa using hx
              subst e
              exact ⟨⟨0, by omega, hq⟩, fun _ => Nat.le_refl _, fun q => (by rw [hq] at q; cases q)⟩
            · exact a.2.1 x hx
          · exact List.mem_append_right _ (a.2.2 v hv u hu)
        have s1 : Same (exI t) S (put S 33 t 0 (nI r)) := Same.rf.put (by simp [exI])
        obtain ⟨S1, a1, a2, a3, a4⟩ := c_lbl h (t := t) (R := r) 200 5000 0 [r] (Q.dal r) (put S 33 t 0 (nI r)) (by omega) (by omega) (by omega) hi (hE.same s1 (exI_E t)) (hb.same s1) (by
          obtain ⟨l1, l2, l3, l4⟩ := hl
          exact ⟨by rw [put_ne (by omega)]; exact l1, by rw [put_ne (by omega)]; exact l2, by rw [put_ne (by omega)]; exact l3, by rw [put_ne (by omega)]; exact l4⟩) ⟨by rw [put_jj]; simp, trivial⟩
        have hlb : f_X1_listBeneath t (nI r) S = some S1 := by
          unfold f_X1_listBeneath
          rw [gd_t (show ix 0 160 = true from by decide), lt_, show (0 : Int32).toNatClampNeg = 0 from by decide]
          exact a1
        rw [bv_e hlb, lt_, nI_1]
        have s2 := s1.tr a3
        obtain ⟨S', b1, b2, b3, b4⟩ := ih (r + 1) S1 (by omega) (by omega) (hE.same s2 (exI_E t)) (hb.same s2) (by rw [Cq.dal, hq]; exact a2)
        exact ⟨S', b1, b2, s2.tr b3, fun j j1 j2 => by rw [b4 j j1 j2, a4 j j1 j2, put_ne (by omega)]⟩
theorem c_listI {Q : Cq} (h : Q.ok) {t : Nat} {S : St} (hE : Q.eC S) (hb : Q.bC t S) : ∃ S', f_X1_listInstances t S = some S' ∧ Q.lsC t (Q.dal Q.g.1) S' ∧ Same (exI t) S S' ∧ S' 6 t 13 = S 6 t 13 := by
  unfold f_X1_listInstances
  rw [lt_, lt_]
  have s0 : Same (exI t) S (put (put S 6 t 11 0) 6 t 12 0) := (Same.rf.put (by simp [exI])).put (by simp [exI])
  have hE0 := hE.same s0 (exI_E t)
  obtain ⟨S1, a1, a2, a3⟩ := c_li12 h.2.1 t (fun S => l_X1_listInstances_38 t 5000 S 0) 5000 0 (put (put S 6 t 11 0) 6 t 12 0) hE0.2.2.1.1 (by omega) (by have := h.2.1; omega) (fun v hv => absurd hv (by omega))
  have a1 : l_X1_listInstances_12 t (fun S => l_X1_listInstances_38 t 5000 S 0) 5000 (put (put S 6 t 11 0) 6 t 12 0) 0 = _ := a1
  rw [a1]
  have s1 : Same (exI t) S S1 := s0.tr (a2.mono (by simp [exI]))
  obtain ⟨S', b1, b2, b3, b4⟩ := c_li38 h (t := t) 5000 0 S1 (by omega) (by have := h.2.1; omega) (hE.same s1 (exI_E t)) (hb.same s1) ⟨by rw [a2 6 t (by simp), put_j (by decide), put_self]; rfl, trivial, fun v hv => by rw [a3 v hv]; simp [Cq.dal, b01], by rw [a2 6 t (by simp), put_self]; rfl⟩
  exact ⟨S', b1, b2, s1.tr b3, by rw [b4 13 (by decide) (by decide), a2 6 t (by simp), put_j (by decide), put_j (by decide)]⟩
