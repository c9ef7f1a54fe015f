/-! Vertices.mark -/
def ctB (p : Nat → Bool) : Nat → Nat
  | 0 => 0
  | n + 1 => ctB p n + (if p n then 1 else 0)
/-- the same, from the top: of the d highest -/
def ctD (p : Nat → Bool) (n : Nat) : Nat → Nat
  | 0 => 0
  | d + 1 => ctD p n d + (if p (n - 1 - d) then 1 else 0)
theorem ctD_B (p : Nat → Bool) (n : Nat) : ∀ (d : Nat), d ≤ n → ctB p (n - d) + ctD p n d = ctB p n
  | 0, _ => rfl
  | d + 1, h => by
    have ih := ctD_B p n d (by omega)
    rw [ctD, ← ih]
    have e : n - d = (n - 1 - d) + 1 := by omega
    rw [e, ctB, show n - (d + 1) = n - 1 - d by omega]
    omega
theorem ctD_all (p : Nat → Bool) (n : Nat) : ctD p n n = ctB p n := by
  have h := ctD_B p n n (Nat.le_refl n)
  rw [Nat.sub_self] at h
  simpa [ctB] using h
theorem ctB_le (p : Nat → Bool) : ∀ n, ctB p n ≤ n
  | 0 => Nat.le_refl 0
  | n + 1 => by
    have := ctB_le p n
    rw [ctB]
    split <;> omega
theorem b01_n (b : Bool) : b01 b = nI (if b then 1 else 0) := by cases b <;> rfl
theorem nI_b01 (a : Nat) (b : Bool) : nI a + b01 b = nI (a + if b then 1 else 0) := by rw [b01_n, nI_add]
theorem mk_l1 {n : Nat} (hn : n ≤ 160) (K : St → Option St) : ∀ (f x : Nat) (S : St), S 1 0 6 = nI n → x ≤ n → n - x < f → ∃ S', l_X7_mark_2 K f S (nI x) = K S' ∧ Same [(12, 0), (14, 0)] S S' ∧ ∀ v, (x ≤ v → v < n → S' 12 0 v = 0 ∧ S' 14 0 v = 0) ∧ (v < x → S' 12 0 v = S 12 0 v ∧ S' 14 0 v = S 14 0 v) := by
  intro f
  induction f with
  | zero => intro x S _ _ h; exact absurd h (by omega)
  | succ f ih =>
    intro x S h6 hx hf
    rw [show l_X7_mark_2 K (f + 1) = b_X7_mark_2 (l_X7_mark_2 K f) K from rfl]
    unfold b_X7_mark_2
    rw [h6]
    by_cases e : x = n
    · subst e
      rw [if_pos (nI_le (Nat.le_refl _) (by omega))]
      exact ⟨S, rfl, Same.rf, fun v => ⟨fun a b => absurd a (by omega), fun _ => ⟨rfl, rfl⟩⟩⟩
    · rw [if_neg (nI_ge (show x < n by omega) (by omega))]
      have hix : ix (nI x) 160 = true := ix_nI (by omega) (by decide)
      have hcl : (nI x).toNatClampNeg = x := nI_clamp (by omega)
      simp only [hix, gd, hcl, lt_, nz_0, nI_1]
      have hs : Same [(12, 0), (14, 0)] S (put (put S 12 0 x 0) 14 0 x 0) := (Same.rf.put (by decide)).put (by decide)
      obtain ⟨S', a1, a2, a3⟩ := ih (x + 1) (put (put S 12 0 x 0) 14 0 x 0) (by rw [hs 1 0 (by decide)]; exact h6) (by omega) (by omega)
      refine ⟨S', a1, hs.tr a2, fun v => ⟨fun b c => ?_, fun b => ?_⟩⟩
      · by_cases z : v = x
        · subst z
          obtain ⟨d1, d2⟩ := (a3 v).2 (by omega)
          rw [d1, d2, put_o rfl, put_self, put_self]
          exact ⟨rfl, rfl⟩
        · exact (a3 v).1 (by omega) c
      · obtain ⟨d1, d2⟩ := (a3 v).2 (by omega)
        rw [d1, d2, put_o rfl, put_j (by omega), put_j (by omega), put_o rfl]
        exact ⟨rfl, rfl⟩
/-- an output's vertex, as the class reads it -/
def OV (m n : Nat) (ov : Nat → Nat) (S : St) : Prop := S 2 0 10 = nI m ∧ m ≤ 8 ∧ n ≤ 160 ∧ ∀ o, o < m → ov o < n ∧ ∃ k, k < 40 ∧ S 20 0 o = nI k ∧ S 22 0 k = nI (ov o)
theorem OV.same {m n : Nat} {ov : Nat → Nat} {S S' : St} (h : OV m n ov S) (h2 : S' 2 0 = S 2 0) (h20 : S' 20 0 = S 20 0) (h22 : S' 22 0 = S 22 0) : OV m n ov S' := by
  obtain ⟨a, b, c, d⟩ := h
  exact ⟨by rw [h2]; exact a, b, c, by rw [h20, h22]; exact d⟩
theorem OV.get {m n : Nat} {ov : Nat → Nat} {S : St} (h : OV m n ov S) {o : Nat} (ho : o < m) : f_X5_outputVertex (nI o) S = some (nI (ov o), S) := by
  obtain ⟨hv, k, hk, e1, e2⟩ := h.2.2.2 o ho
  have hm := h.2.1
  unfold f_X5_outputVertex
  simp only [ix_nI (show o < 8 by omega) (by decide), gd, lt_, nI_clamp (show o < 2 ^ 31 by omega), e1, ix_nI hk (by decide), nI_clamp (show k < 2 ^ 31 by omega), e2]
theorem mk_l2 {m n : Nat} {ov : Nat → Nat} (K : St → Option St) : ∀ (f o : Nat) (S : St), OV m n ov S → o ≤ m → m - o < f → (∀ v, v < n → S 12 0 v = nI (cnt ov o v) ∧ S 14 0 v = b01 (!(cnt ov o v == 0))) → ∃ S', l_X7_mark_32 K f S (nI o) = K S' ∧ Same [(12, 0), (14, 0)] S S' ∧ ∀ v, v < n → S' 12 0 v = nI (cnt ov m v) ∧ S' 14 0 v = b01 (!(cnt ov m v == 0)) := by
  intro f
  induction f with
  | zero => intro x S _ _ h; exact absurd h (by omega)
  | succ f ih =>
    intro o S hO ho hf hv
    rw [show l_X7_mark_32 K (f + 1) = b_X7_mark_32 (l_X7_mark_32 K f) K from rfl]
    unfold b_X7_mark_32
    have hm := hO.2.1
    rw [hO.1]
    by_cases e : o = m
    · subst e
      rw [if_pos (nI_le (Nat.le_refl _) (by omega))]
      exact ⟨S, rfl, Same.rf, hv⟩
    · rw [if_neg (nI_ge (show o < m by omega) (by omega)), bi_e (hO.get (show o < m by omega))]
      have hl := (hO.2.2.2 o (by omega)).1
      have hn := hO.2.2.1
      have hix : ix (nI (ov o)) 160 = true := ix_nI (by omega) (by decide)
      have hcl : (nI (ov o)).toNatClampNeg = ov o := nI_clamp (by omega)
      simp only [hix, gd, hcl, lt_, nz_1, nI_1, (hv _ hl).1]
      have hs : Same [(12, 0), (14, 0)] S (put (put S 12 0 (ov o) (nI (cnt ov o (ov o) + 1))) 14 0 (ov o) 1) := (Same.rf.put (by decide)).put (by decide)
      obtain ⟨S', a1, a2, a3⟩ := ih (o + 1) _ (hO.same (hs 2 0 (by decide)) (hs 20 0 (by decide)) (hs 22 0 (by decide))) (by omega) (by omega) (fun v hv2 => by
        rw [put_o rfl, put_jj, put_jj, put_o rfl, cnt]
        by_cases z : v = ov o
        · subst z
          simp [b01]
        · rw [if_neg z, if_neg z, if_neg (fun y => z y.symm), Nat.add_zero]
          exact hv v hv2)
      exact ⟨S', a1, hs.tr a2, a3⟩
theorem mk_l3 {g : Gr} {m : Nat} {ov : Nat → Nat} (hw : wfG g) (hn : g.1 ≤ 160) (hm : m ≤ 8) : ∀ (f d : Nat) (S : St), d ≤ g.1 → g.1 - d < f → CG g S → (∀ x, x < g.1 → S 12 0 x = nI (us g (cnt ov m) d x)) → (∀ x, x < g.1 - d → S 14 0 x = b01 (!(cnt ov m x == 0))) → (∀ x, x < g.1 → g.1 - d ≤ x → S 13 0 x = b01 (lvs g m ov x) ∧ S 14 0 x = b01 (rts g m ov x)) → S 1 0 7 = nI (ctD (lvs g m ov) g.1 d) → S 1 0 8 = nI (ctD (rts g m ov) g.1 d) → ∃ S', l_X7_mark_86 f S (nI (g.1 - d) - 1) = some S' ∧ Same [(12, 0), (13, 0), (14, 0), (1, 0)] S S' ∧ EM g m ov S' ∧ S' 1 0 6 = nI g.1 ∧ S' 1 0 7 = nI (ctB (lvs g m ov) g.1) ∧ S' 1 0 8 = nI (ctB (rts g m ov) g.1) := by
  intro f
  induction f with
  | zero => intro d S _ h; exact absurd h (by omega)
  | succ f ih =>
    intro d S hd hf hc hu ho hl h7 h8
    rw [show l_X7_mark_86 (f + 1) = b_X7_mark_86 (l_X7_mark_86 f) from rfl]
    unfold b_X7_mark_86
    by_cases e : d = g.1
    · subst e
      rw [if_pos (by rw [Nat.sub_self]; decide)]
      refine ⟨S, rfl, Same.rf, fun v hv => ⟨hu v hv, hl v hv (by omega)⟩, hc.1, ?_, ?_⟩
      · rw [h7, ctD_all]
      · rw [h8, ctD_all]
    · have hlt : d < g.1 := by omega
      have ev : nI (g.1 - d) - 1 = nI (g.1 - 1 - d) := by rw [nI_s1 (by omega), show g.1 - d - 1 = g.1 - 1 - d by omega]
      rw [ev, if_neg (nI_pos (by omega))]
      have hb := us_le g (cnt_le ov m) d (g.1 - 1 - d)
      obtain ⟨S1, a1, a2, a3, a4, a5, a6⟩ := mOne (u := us g (cnt ov m) d) (o := !(cnt ov m (g.1 - 1 - d) == 0)) hn hw hc (show g.1 - 1 - d < g.1 by omega) hu (by omega) (ho _ (by omega))
      rw [bv_e a1]
      have eU := UU_at hw (m := m) (ov := ov) hlt
      have elv : (!(us g (cnt ov m) d (g.1 - 1 - d) == 0)) = lvs g m ov (g.1 - 1 - d) := by unfold lvs; rw [eU]
      have ert : (!(us g (cnt ov m) d (g.1 - 1 - d) == 0) && (!((g.2 (g.1 - 1 - d)).1 == 0) && (!(cnt ov m (g.1 - 1 - d) == 0) || !(us g (cnt ov m) d (g.1 - 1 - d) == 1)))) = rts g m ov (g.1 - 1 - d) := by unfold rts; rw [eU]
      have hneg : nI (g.1 - 1 - d) + (-1) = nI (g.1 - (d + 1)) - 1 := by
        rw [show g.1 - 1 - d = g.1 - (d + 1) by omega]
        exact (Int32.sub_eq_add_neg _ _).symm
      simp only [lt_, hneg]
      obtain ⟨S', b1, b2, b3, b4, b5, b6⟩ := ih (d + 1) S1 (by omega) (by omega)
        ⟨by rw [a6 6]; simp; exact hc.1, by rw [a2 9 0 (by decide), a2 10 0 (by decide), a2 11 0 (by decide)]; exact hc.2⟩
        (fun x hx => by rw [a3 x hx]; rfl)
        (fun x hx => by rw [a5 x, if_neg (by omega)]; exact ho x (by omega))
        (fun x hx hx2 => by
          rw [a4 x, a5 x]
          by_cases z : x = g.1 - 1 - d
          · rw [if_pos z, if_pos z, ert, elv, z]; exact ⟨rfl, rfl⟩
          · rw [if_neg z, if_neg z]; exact hl x hx (by omega))
        (by rw [a6 7, if_pos rfl, h7, elv, nI_b01]; rfl)
        (by rw [a6 8, if_neg (by decide), if_pos rfl, h8, ert, nI_b01]; rfl)
      exact ⟨S', b1, a2.tr b2, b3, b4, b5, b6⟩
theorem c_mark {g : Gr} {m : Nat} {ov : Nat → Nat} {S : St} (hw : wfG g) (hc : CG g S) (hO : OV m g.1 ov S) : ∃ S', f_X7_mark S = some S' ∧ Same [(12, 0), (13, 0), (14, 0), (1, 0)] S S' ∧ EM g m ov S' ∧ S' 1 0 6 = nI g.1 ∧ S' 1 0 7 = nI (ctB (lvs g m ov) g.1) ∧ S' 1 0 8 = nI (ctB (rts g m ov) g.1) := by
  have hn := hO.2.2.1
  unfold f_X7_mark
  obtain ⟨S1, a1, a2, a3⟩ := mk_l1 hn (fun S => l_X7_mark_32 (fun S => lt_ (put S 1 0 7 0) (fun S_18 => lt_ (put S_18 1 0 8 0) (fun S_19 => lt_ ((S_19 1 0 6) - 1) (fun v_20 => l_X7_mark_86 5000 S_19 v_20)))) 5000 S 0) 5000 0 S hc.1 (by omega) (by omega)
  obtain ⟨S2, b1, b2, b3⟩ := mk_l2 (fun S => lt_ (put S 1 0 7 0) (fun S_18 => lt_ (put S_18 1 0 8 0) (fun S_19 => lt_ ((S_19 1 0 6) - 1) (fun v_20 => l_X7_mark_86 5000 S_19 v_20)))) 5000 0 S1 (hO.same (a2 2 0 (by decide)) (a2 20 0 (by decide)) (a2 22 0 (by decide))) (by omega) (by have := hO.2.1; omega) (fun v hv => by
    obtain ⟨d1, d2⟩ := (a3 v).1 (by omega) hv
    rw [d1, d2]
    exact ⟨rfl, rfl⟩)
  have hs : Same [(1, 0)] S2 (put (put S2 1 0 7 0) 1 0 8 0) := (Same.rf.put (by decide)).put (by decide)
  have h6 : put (put S2 1 0 7 0) 1 0 8 0 1 0 6 = nI g.1 := by
    rw [put_j (by decide), put_j (by decide), b2 1 0 (by decide), a2 1 0 (by decide)]; exact hc.1
  have r : ∀ k, k = 9 ∨ k = 10 ∨ k = 11 → put (put S2 1 0 7 0) 1 0 8 0 k 0 = S k 0 := fun k hk => by
    rcases hk with rfl | rfl | rfl <;> rw [put_o rfl, put_o rfl, b2 _ 0 (by decide), a2 _ 0 (by decide)]
  obtain ⟨S3, c1, c2, c3, c4, c5, c6⟩ := mk_l3 hw hn hO.2.1 5000 0 (put (put S2 1 0 7 0) 1 0 8 0) (by omega) (by omega)
    ⟨h6, by rw [r 9 (by simp), r 10 (by simp), r 11 (by simp)]; exact hc.2⟩
    (fun x hx => by rw [put_o rfl, put_o rfl]; exact (b3 x hx).1)
    (fun x hx => by rw [put_o rfl, put_o rfl]; exact (b3 x (by omega)).2)
    (fun x hx hx2 => absurd hx2 (by omega))
    (by rw [put_j (by decide), put_self]; rfl)
    (by rw [put_self]; rfl)
  have c1 : l_X7_mark_86 5000 (put (put S2 1 0 7 0) 1 0 8 0) (put (put S2 1 0 7 0) 1 0 8 0 1 0 6 - 1) = some S3 := by rw [h6]; exact c1
  exact ⟨S3, a1.trans (b1.trans c1), ((a2.mono (by decide)).tr (b2.mono (by decide))).tr ((hs.mono (by decide)).tr c2), c3, c4, c5, c6⟩
