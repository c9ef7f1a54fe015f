/-! USES, what LIVES, ROOTS: as numbers of the graph and the outputs' vertices -/
def cnt (ov : Nat → Nat) : Nat → Nat → Nat
  | 0, _ => 0
  | o + 1, v => cnt ov o v + (if ov o = v then 1 else 0)
def inc (t : Nat × Nat × Nat) (x : Nat) : Nat := (if t.1 ≠ 0 ∧ t.2.1 = x then 1 else 0) + (if t.1 = 2 ∧ t.2.2 = x then 1 else 0)
/-- the uses when the d highest vertices have been looked at -/
def us (g : Gr) (u0 : Nat → Nat) : Nat → Nat → Nat
  | 0, x => u0 x
  | d + 1, x => us g u0 d x + (if us g u0 d (g.1 - 1 - d) = 0 then 0 else inc (g.2 (g.1 - 1 - d)) x)
def UU (g : Gr) (m : Nat) (ov : Nat → Nat) (v : Nat) : Nat := us g (cnt ov m) g.1 v
def lvs (g : Gr) (m : Nat) (ov : Nat → Nat) (v : Nat) : Bool := !(UU g m ov v == 0)
def rts (g : Gr) (m : Nat) (ov : Nat → Nat) (v : Nat) : Bool := !(UU g m ov v == 0) && (!((g.2 v).1 == 0) && (!(cnt ov m v == 0) || !(UU g m ov v == 1)))
theorem cnt_le (ov : Nat → Nat) : ∀ (o v : Nat), cnt ov o v ≤ o
  | 0, _ => Nat.le_refl 0
  | o + 1, v => by
    have := cnt_le ov o v
    rw [cnt]
    split <;> omega
theorem inc_le (t : Nat × Nat × Nat) (x : Nat) : inc t x ≤ 2 := by
  unfold inc
  split <;> split <;> omega
theorem us_le (g : Gr) {u0 : Nat → Nat} {m : Nat} (h : ∀ x, u0 x ≤ m) : ∀ (d x : Nat), us g u0 d x ≤ m + 2 * d
  | 0, x => h x
  | d + 1, x => by
    have h1 := us_le g h d x
    have h2 := inc_le (g.2 (g.1 - 1 - d)) x
    rw [us]
    split <;> omega
theorem us_st {g : Gr} (hw : wfG g) {u0 : Nat → Nat} {x : Nat} (hx : x < g.1) : ∀ (e : Nat), g.1 - 1 - x + e ≤ g.1 → us g u0 (g.1 - 1 - x + e) x = us g u0 (g.1 - 1 - x) x
  | 0, _ => rfl
  | e + 1, h => by
    rw [← Nat.add_assoc, us, us_st hw hx e (by omega)]
    have hv : g.1 - 1 - (g.1 - 1 - x + e) < g.1 := by omega
    have hw1 := hw _ hv
    have : inc (g.2 (g.1 - 1 - (g.1 - 1 - x + e))) x = 0 := by
      unfold inc
      rw [if_neg (fun q => by have := hw1.2.1 q.1; omega), if_neg (fun q => by have := hw1.2.2 q.1; omega)]
    rw [this]
    simp
/-- a vertex's uses are all known when its turn comes -/
theorem UU_at {g : Gr} (hw : wfG g) {m : Nat} {ov : Nat → Nat} {d : Nat} (hd : d < g.1) : UU g m ov (g.1 - 1 - d) = us g (cnt ov m) d (g.1 - 1 - d) := by
  have h := us_st hw (u0 := cnt ov m) (x := g.1 - 1 - d) (by omega) (g.1 - d) (by omega)
  have e1 : g.1 - 1 - (g.1 - 1 - d) = d := by omega
  rw [e1, show d + (g.1 - d) = g.1 by omega] at h
  exact h
theorem us_fin {g : Gr} (hw : wfG g) {m : Nat} {ov : Nat → Nat} {d x : Nat} (hd : d ≤ g.1) (hx : x < g.1) (hx2 : g.1 - 1 - d < x ∨ d = g.1) : us g (cnt ov m) d x = UU g m ov x := by
  by_cases q : d = g.1
  · subst q; rfl
  · have h := us_st hw (u0 := cnt ov m) hx (d - (g.1 - 1 - x)) (by omega)
    have h2 := us_st hw (u0 := cnt ov m) hx (x + 1) (by omega)
    rw [show g.1 - 1 - x + (d - (g.1 - 1 - x)) = d by omega] at h
    rw [show g.1 - 1 - x + (x + 1) = g.1 by omega] at h2
    exact h.trans h2.symm
theorem UU_le (g : Gr) (m : Nat) (ov : Nat → Nat) (v : Nat) : UU g m ov v ≤ m + 2 * g.1 := us_le g (cnt_le ov m) g.1 v
/-- what the rows hold behind it -/
def EM (g : Gr) (m : Nat) (ov : Nat → Nat) (S : St) : Prop := ∀ v, v < g.1 → S 12 0 v = nI (UU g m ov v) ∧ S 13 0 v = b01 (lvs g m ov v) ∧ S 14 0 v = b01 (rts g m ov v)
theorem b01_t : b01 true = 1 := rfl
theorem b01_f : b01 false = 0 := rfl
section MC
variable {g : Gr} {S : St} {v : Nat} {u : Nat → Nat}
theorem mo131 (hm : g.1 ≤ 160) (hw : wfG g) (hv : v < g.1) (h9 : S 9 0 v = nI (g.2 v).1) (h11 : S 11 0 v = eW (g.2 v)) (hu : ∀ x, x < g.1 → S 12 0 x = nI (u x)) : ∃ S', j_X7_markOne_131 S (nI v) = some S' ∧ Same [(12, 0)] S S' ∧ ∀ x, x < g.1 → S' 12 0 x = nI (u x + (if (g.2 v).1 = 2 ∧ (g.2 v).2.2 = x then 1 else 0)) := by
  have hix : ix (nI v) 160 = true := ix_nI (by omega) (by decide)
  have hcl : (nI v).toNatClampNeg = v := nI_clamp (by omega)
  have hwv := hw v hv
  have h2 : (nI (g.2 v).1 = 2) = ((g.2 v).1 = 2) := nI_inj (b := 2) (by omega) (by decide)
  unfold j_X7_markOne_131 j_X7_markOne_156
  simp only [hix, gd, hcl, lt_, h9, h2]
  by_cases q : (g.2 v).1 = 2
  · have p := hwv.2.2 q
    have ew : S 11 0 v = nI (g.2 v).2.2 := by rw [h11]; simp [eW, q]
    have ixb : ix (nI (g.2 v).2.2) 160 = true := ix_nI (by omega) (by decide)
    have clb : (nI (g.2 v).2.2).toNatClampNeg = (g.2 v).2.2 := nI_clamp (by omega)
    simp only [if_pos q, ew, ixb, gd, clb, hu _ (show (g.2 v).2.2 < g.1 by omega), nI_1]
    refine ⟨_, rfl, Same.rf.put (by decide), fun x hx => ?_⟩
    rw [put_jj]
    by_cases z : x = (g.2 v).2.2
    · rw [if_pos z, if_pos ⟨q, z.symm⟩, z]
    · rw [if_neg z, if_neg (fun y => z y.2.symm), hu x hx]; rfl
  · rw [if_neg q]
    exact ⟨S, rfl, Same.rf, fun x hx => by rw [if_neg (fun y => q y.1), hu x hx]; rfl⟩
theorem mo107 (hm : g.1 ≤ 160) (hw : wfG g) (hv : v < g.1) (h9 : S 9 0 v = nI (g.2 v).1) (h10 : S 10 0 v = eO (g.2 v)) (h11 : S 11 0 v = eW (g.2 v)) (hu : ∀ x, x < g.1 → S 12 0 x = nI (u x)) : ∃ S', j_X7_markOne_107 S (nI v) = some S' ∧ Same [(12, 0)] S S' ∧ ∀ x, x < g.1 → S' 12 0 x = nI (u x + inc (g.2 v) x) := by
  have hix : ix (nI v) 160 = true := ix_nI (by omega) (by decide)
  have hcl : (nI v).toNatClampNeg = v := nI_clamp (by omega)
  have hwv := hw v hv
  have h0 : (nI (g.2 v).1 = 0) = ((g.2 v).1 = 0) := nI_inj (b := 0) (by omega) (by decide)
  unfold j_X7_markOne_107
  simp only [hix, gd, hcl, lt_, h9, h0]
  by_cases q : (g.2 v).1 = 0
  · rw [if_pos q]
    obtain ⟨S', e1, e2, e3⟩ := mo131 (u := u) hm hw hv h9 h11 hu
    exact ⟨S', e1, e2, fun x hx => by rw [e3 x hx]; unfold inc; rw [if_neg (c := (g.2 v).1 ≠ 0 ∧ _) (fun y => y.1 q), Nat.zero_add]⟩
  · have p := hwv.2.1 q
    have eo : S 10 0 v = nI (g.2 v).2.1 := by rw [h10]; simp [eO, q]
    have ixa : ix (nI (g.2 v).2.1) 160 = true := ix_nI (by omega) (by decide)
    have cla : (nI (g.2 v).2.1).toNatClampNeg = (g.2 v).2.1 := nI_clamp (by omega)
    simp only [if_neg q, eo, ixa, gd, cla, hu _ (show (g.2 v).2.1 < g.1 by omega), nI_1]
    obtain ⟨S', e1, e2, e3⟩ := mo131 (S := put S 12 0 (g.2 v).2.1 (nI (u (g.2 v).2.1 + 1))) (u := fun x => u x + (if (g.2 v).2.1 = x then 1 else 0)) hm hw hv (by rw [put_o rfl]; exact h9) (by rw [put_o rfl]; exact h11) (fun x hx => by
      rw [put_jj]
      by_cases z : x = (g.2 v).2.1
      · rw [if_pos z, if_pos z.symm, z]
      · rw [if_neg z, if_neg (fun y => z y.symm), hu x hx]; rfl)
    refine ⟨S', e1, (Same.rf.put (by decide)).tr e2, fun x hx => ?_⟩
    rw [e3 x hx]
    unfold inc
    have : (if (g.2 v).1 ≠ 0 ∧ (g.2 v).2.1 = x then 1 else 0) = (if (g.2 v).2.1 = x then 1 else 0) := by simp [q]
    rw [this, Nat.add_assoc]
/-- markOne -/
theorem mOne (hm : g.1 ≤ 160) (hw : wfG g) (hc : CG g S) (hv : v < g.1) (hu : ∀ x, x < g.1 → S 12 0 x = nI (u x)) (hb : u v < 1000) {o : Bool} (ho : S 14 0 v = b01 o) : ∃ S', f_X7_markOne (nI v) S = some S' ∧ Same [(12, 0), (13, 0), (14, 0), (1, 0)] S S' ∧ (∀ x, x < g.1 → S' 12 0 x = nI (u x + (if u v = 0 then 0 else inc (g.2 v) x))) ∧ (∀ x, S' 13 0 x = if x = v then b01 (!(u v == 0)) else S 13 0 x) ∧ (∀ x, S' 14 0 x = if x = v then b01 (!(u v == 0) && (!((g.2 v).1 == 0) && (o || !(u v == 1)))) else S 14 0 x) ∧ (∀ j, S' 1 0 j = if j = 7 then S 1 0 7 + b01 (!(u v == 0)) else if j = 8 then S 1 0 8 + b01 (!(u v == 0) && (!((g.2 v).1 == 0) && (o || !(u v == 1)))) else S 1 0 j) := by
  have hix : ix (nI v) 160 = true := ix_nI (by omega) (by decide)
  have hcl : (nI v).toNatClampNeg = v := nI_clamp (by omega)
  have hwv := hw v hv
  obtain ⟨e9, e10, e11⟩ := hc.2 v hv
  have h0 : (nI (g.2 v).1 = 0) = ((g.2 v).1 = 0) := nI_inj (b := 0) (by omega) (by decide)
  have h1 : (nI (u v) = 1) = (u v = 1) := nI_inj (b := 1) (by omega) (by decide)
  -- the second half, from the row of roots on
  have half : ∀ (S1 : St) (li rb : Bool) (y2 : Int32), Same [(13, 0)] S S1 → S1 13 0 v = b01 li → y2 = b01 rb → (rb = true → li = true) → ∃ S', j_X7_markOne_67 S1 (nI v) (nI v) y2 = some S' ∧ Same [(12, 0), (14, 0), (1, 0)] S1 S' ∧ (∀ x, x < g.1 → S' 12 0 x = nI (u x + (if li = false then 0 else inc (g.2 v) x))) ∧ (∀ x, S' 14 0 x = if x = v then b01 rb else S1 14 0 x) ∧ (∀ j, S' 1 0 j = if j = 7 then S1 1 0 7 + b01 li else if j = 8 then S1 1 0 8 + b01 rb else S1 1 0 j) := by
    intro S1 li rb y2 hs hl hy hlr
    subst hy
    unfold j_X7_markOne_67
    have r9 : S1 9 0 = S 9 0 := hs 9 0 (by decide)
    have r10 : S1 10 0 = S 10 0 := hs 10 0 (by decide)
    have r11 : S1 11 0 = S 11 0 := hs 11 0 (by decide)
    have r12 : S1 12 0 = S 12 0 := hs 12 0 (by decide)
    simp only [hix, gd, hcl, lt_, nz_b01, put_o (show ((13 : Nat) == 14 && (0 : Nat) == 0) = false from rfl), hl, b01_0]
    cases li with
    | false =>
      have hrb : rb = false := by cases rb <;> simp_all
      subst hrb
      simp only [if_true]
      refine ⟨_, rfl, Same.rf.put (by decide), fun x hx => ?_, fun x => ?_, fun j => ?_⟩
      · rw [put_o rfl, r12, hu x hx]; rfl
      · rw [put_jj]
      · rw [put_o rfl]
        by_cases z : j = 7
        · subst z; simp [b01]
        · by_cases z2 : j = 8
          · subst z2; simp [b01]
          · simp [z, z2]
    | true =>
      simp only [show (true = false) = False from by simp, if_false, put_o (show ((14 : Nat) == 1 && (0 : Nat) == 0) = false from rfl), put_o (show ((1 : Nat) == 14 && (0 : Nat) == 0) = false from rfl), put_jj, if_true, b01_0]
      have go : ∀ S2 : St, Same [(14, 0), (1, 0)] S1 S2 → ∃ S', j_X7_markOne_107 S2 (nI v) = some S' ∧ Same [(12, 0)] S2 S' ∧ ∀ x, x < g.1 → S' 12 0 x = nI (u x + inc (g.2 v) x) := fun S2 h2 =>
        mo107 (u := u) hm hw hv (by rw [h2 9 0 (by decide), r9]; exact e9) (by rw [h2 10 0 (by decide), r10]; exact e10) (by rw [h2 11 0 (by decide), r11]; exact e11) (fun x hx => by rw [h2 12 0 (by decide), r12]; exact hu x hx)
      cases rb with
      | false =>
        simp only [if_true]
        have hs2 : Same [(14, 0), (1, 0)] S1 (put (put S1 14 0 v (b01 false)) 1 0 7 (S1 1 0 7 + 1)) := (Same.rf.put (by decide)).put (by decide)
        obtain ⟨S', a1, a2, a3⟩ := go _ hs2
        refine ⟨S', a1, (hs2.mono (by decide)).tr (a2.mono (by decide)), fun x hx => ?_, fun x => ?_, fun j => ?_⟩
        · rw [a3 x hx]
        · rw [a2 14 0 (by decide), put_o rfl, put_jj]
        · rw [a2 1 0 (by decide), put_jj, put_o rfl]
          by_cases z : j = 7
          · subst z; simp [b01]
          · by_cases z2 : j = 8
            · subst z2; simp [b01]
            · simp [z, z2]
      | true =>
        simp only [show (true = false) = False from by simp, if_false, show ((8 : Nat) = 7) = False from by simp]
        have hs2 : Same [(14, 0), (1, 0)] S1 (put (put (put S1 14 0 v (b01 true)) 1 0 7 (S1 1 0 7 + 1)) 1 0 8 (S1 1 0 8 + 1)) := ((Same.rf.put (by decide)).put (by decide)).put (by decide)
        obtain ⟨S', a1, a2, a3⟩ := go _ hs2
        refine ⟨S', a1, (hs2.mono (by decide)).tr (a2.mono (by decide)), fun x hx => ?_, fun x => ?_, fun j => ?_⟩
        · rw [a3 x hx]
        · rw [a2 14 0 (by decide), put_o rfl, put_o rfl, put_jj]
        · rw [a2 1 0 (by decide), put_jj, put_jj, put_o rfl]
          by_cases z : j = 7
          · subst z; simp [b01]
          · by_cases z2 : j = 8
            · subst z2; simp [b01]
            · simp [z, z2]
  -- the first half
  have first : ∀ (li : Bool) (y : Int32), y = b01 li → (!(u v == 0)) = li → ∃ S', j_X7_markOne_19 S (nI v) (nI v) y = some S' ∧ Same [(12, 0), (13, 0), (14, 0), (1, 0)] S S' ∧ (∀ x, x < g.1 → S' 12 0 x = nI (u x + (if u v = 0 then 0 else inc (g.2 v) x))) ∧ (∀ x, S' 13 0 x = if x = v then b01 (!(u v == 0)) else S 13 0 x) ∧ (∀ x, S' 14 0 x = if x = v then b01 (!(u v == 0) && (!((g.2 v).1 == 0) && (o || !(u v == 1)))) else S 14 0 x) ∧ (∀ j, S' 1 0 j = if j = 7 then S 1 0 7 + b01 (!(u v == 0)) else if j = 8 then S 1 0 8 + b01 (!(u v == 0) && (!((g.2 v).1 == 0) && (o || !(u v == 1)))) else S 1 0 j) := by
    intro li y hy hli
    subst hy
    have hs1 : Same [(13, 0)] S (put S 13 0 v (b01 li)) := Same.rf.put (by decide)
    have fin : ∀ rb : Bool, (rb = true → li = true) → (!(u v == 0) && (!((g.2 v).1 == 0) && (o || !(u v == 1)))) = rb → ∃ S', j_X7_markOne_67 (put S 13 0 v (b01 li)) (nI v) (nI v) (b01 rb) = some S' ∧ Same [(12, 0), (13, 0), (14, 0), (1, 0)] S S' ∧ (∀ x, x < g.1 → S' 12 0 x = nI (u x + (if u v = 0 then 0 else inc (g.2 v) x))) ∧ (∀ x, S' 13 0 x = if x = v then b01 (!(u v == 0)) else S 13 0 x) ∧ (∀ x, S' 14 0 x = if x = v then b01 (!(u v == 0) && (!((g.2 v).1 == 0) && (o || !(u v == 1)))) else S 14 0 x) ∧ (∀ j, S' 1 0 j = if j = 7 then S 1 0 7 + b01 (!(u v == 0)) else if j = 8 then S 1 0 8 + b01 (!(u v == 0) && (!((g.2 v).1 == 0) && (o || !(u v == 1)))) else S 1 0 j) := by
      intro rb hrb heq
      obtain ⟨S', a1, a2, a3, a4, a5⟩ := half _ li rb (b01 rb) hs1 (by rw [put_self]) rfl hrb
      refine ⟨S', a1, (hs1.mono (by decide)).tr (a2.mono (by decide)), fun x hx => ?_, fun x => ?_, fun x => ?_, fun j => ?_⟩
      · rw [a3 x hx]
        by_cases z : u v = 0
        · have : li = false := by rw [← hli]; simp [z]
          simp [z, this]
        · have : li = true := by rw [← hli]; simp [z]
          simp [z, this]
      · rw [a2 13 0 (by decide), put_jj, hli]
      · rw [a4 x, heq, put_o rfl]
      · rw [a5 j, heq, hli, put_o rfl]
    unfold j_X7_markOne_19 j_X7_markOne_66 j_X7_markOne_62
    simp only [hix, gd, hcl, lt_, nz_b01, put_self, b01_0, put_o (show ((9 : Nat) == 13 && (0 : Nat) == 0) = false from rfl), put_o (show ((14 : Nat) == 13 && (0 : Nat) == 0) = false from rfl), put_o (show ((12 : Nat) == 13 && (0 : Nat) == 0) = false from rfl), e9, h0, ho, hu v hv, h1]
    cases li with
    | false =>
      rw [if_pos rfl]
      exact fin false (by simp) (by rw [hli]; rfl)
    | true =>
      rw [if_neg (by simp)]
      by_cases z : (g.2 v).1 = 0
      · rw [if_pos z]
        exact fin false (by simp) (by simp [z])
      · rw [if_neg z]
        cases o with
        | true =>
          rw [if_neg (by simp)]
          exact fin true (fun _ => rfl) (by rw [hli]; simp [z])
        | false =>
          rw [if_pos rfl]
          by_cases y : u v = 1
          · rw [if_pos y]
            exact fin false (by simp) (by simp [y])
          · rw [if_neg y]
            exact fin true (fun _ => rfl) (by rw [hli]; simp [z, y])
  unfold f_X7_markOne
  simp only [hix, gd, hcl, lt_, hu v hv]
  by_cases z : u v = 0
  · rw [if_pos (show nI (u v) ≤ 0 by rw [z]; decide)]
    exact first false 0 rfl (by simp [z])
  · rw [if_neg (nI_nle (by omega) (by omega))]
    exact first true 1 rfl (by simp [z])
end MC
